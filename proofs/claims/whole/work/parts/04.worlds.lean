/-! the class as a world: 13 Yards (0 now, 1 anew, 2 trial, 3 .. 10 of past, 11, 12 of kept), 17 other cells -/
def cO (E : En) (aY : Nat → Nat → Nat) (ao : Nat → Nat) (o : OS) : Nat → va_E := fun c => match c with
  | 0 => .inr (4, [.ref (ao 3), .ref (aY 0 0), .ref (aY 1 0), .ref (aY 2 0), .ref (ao 6), .ref (ao 13), .ref (ao 15), .ref (ao 1), .ref (ao 2), .int (o 0 9)])
  | 1 => .inl (E.2 0, 8, .inl (o 1))
  | 2 => .inl (E.2 0, 8, .inl (o 2))
  | 3 => .inr (2, [.int (o 3 0), .int (o 3 1), .int (o 3 2), .ref (ao 4), .ref (ao 5)])
  | 4 => .inl (E.2 1, 200, .inl (o 4))
  | 5 => .inl (E.2 0, 3, .inl (o 5))
  | 6 => .inr (0, [.int (o 6 0), .int (o 6 1), .ref (ao 7), .ref (ao 8), .ref (ao 9), .ref (ao 10), .ref (ao 11), .ref (ao 12), .int (o 6 8), .int (o 6 9), .int (o 6 10)])
  | 7 => .inl (E.2 0, 6, .inl (o 7))
  | 8 => .inl (E.2 0, 6, .inl (o 8))
  | 9 => .inl (E.2 0, 6, .inl (o 9))
  | 10 => .inl (E.2 0, 64, .inl (o 10))
  | 11 => .inl (E.2 0, 6, .inl (o 11))
  | 12 => .inl (E.2 0, 6, .inl (o 12))
  | 13 => .inr (1, [.int (o 13 0), .ref (ao 14)])
  | 14 => .inl (E.2 2, 8, .inr (.inr (.inr (.inr (fun j => some (aY (o 14 j).toNatClampNeg 0))))))
  | 15 => .inr (1, [.int (o 15 0), .ref (ao 16)])
  | _ => .inl (E.2 2, 2, .inr (.inr (.inr (.inr (fun j => some (aY (o 16 j).toNatClampNeg 0))))))
def IjC (aY : Nat → Nat → Nat) (ao : Nat → Nat) : Prop := (∀ i j c d, i < 13 → j < 13 → c < 7 → d < 7 → aY i c = aY j d → i = j ∧ c = d) ∧ Ij 17 ao ∧ (∀ i c k, i < 13 → c < 7 → k < 17 → aY i c ≠ ao k)
def CW (E : En) (aY : Nat → Nat → Nat) (ao : Nat → Nat) (Y : YS) (o : OS) (H : Heap) : Prop := (∀ i, i < 13 → Wd E 7 (aY i) (cY E (aY i) (Y i)) H) ∧ Wd E 17 ao (cO E aY ao o) H ∧ IjC aY ao
def AC (aY : Nat → Nat → Nat) (ao : Nat → Nat) : Nat → Prop := fun a => (∃ i c, i < 13 ∧ c < 7 ∧ a = aY i c) ∨ ∃ c, c < 17 ∧ a = ao c
theorem AC.o {aY : Nat → Nat → Nat} {ao : Nat → Nat} {c : Nat} (hc : c < 17) : AC aY ao (ao c) := Or.inr ⟨c, hc, rfl⟩
theorem AC.y {aY : Nat → Nat → Nat} {ao : Nat → Nat} {i c : Nat} (hi : i < 13) (hc : c < 7) : AC aY ao (aY i c) := Or.inl ⟨i, c, hi, hc, rfl⟩
theorem AC.ofY {aY : Nat → Nat → Nat} {ao : Nat → Nat} {i : Nat} (hi : i < 13) : ∀ q, AY (aY i) q → AC aY ao q := fun q h => by
  obtain ⟨c, hc, rfl⟩ := h
  exact AC.y hi hc
theorem CW.yd {E : En} {aY : Nat → Nat → Nat} {ao : Nat → Nat} {Y : YS} {o : OS} {H : Heap} (h : CW E aY ao Y o H) {i : Nat} (hi : i < 13) : Yd E (aY i) (Y i) H := ⟨h.1 i hi, fun a b ha hb e => (h.2.2.1 i i a b hi hi ha hb e).2⟩
theorem CW.wy {E : En} {aY : Nat → Nat → Nat} {ao : Nat → Nat} {Y : YS} {o : OS} {H H1 : Heap} {y' : OS} {i : Nat} (h : CW E aY ao Y o H) (hi : i < 13) (hy : Yd E (aY i) y' H1) (hk : ∀ q : Nat, q < H.size → ¬ AY (aY i) q → H1[q]? = H[q]?) : CW E aY ao (va_up Y i y') o H1 := by
  refine ⟨fun j hj => ?_, h.2.1.kept (fun c hc => hk _ (h.2.1 c hc).lt ?_), h.2.2⟩
  · by_cases e : j = i
    · subst e
      have e2 : va_up Y j y' j = y' := if_pos rfl
      rw [e2]
      exact hy.1
    · have e2 : va_up Y i y' j = Y j := if_neg e
      rw [e2]
      refine (h.1 j hj).kept (fun c hc => hk _ (h.1 j hj c hc).lt ?_)
      rintro ⟨d, hd, z⟩
      exact e (h.2.2.1 j i c d hj hi hc hd z).1
  · rintro ⟨d, hd, z⟩
    exact h.2.2.2.2 i d c hi hd hc z.symm
theorem CW.wy1 {E : En} {aY : Nat → Nat → Nat} {ao : Nat → Nat} {Y : YS} {o : OS} {H H1 : Heap} {y' : OS} {i c : Nat} (h : CW E aY ao Y o H) (hi : i < 13) (hc : c < 7) (hy : Yd E (aY i) y' H1) (hk : ∀ q : Nat, q ≠ aY i c → H1[q]? = H[q]?) : CW E aY ao (va_up Y i y') o H1 :=
  h.wy hi hy (fun q _ hn => hk q (fun e => hn ⟨c, hc, e⟩))
theorem cO_u2 (E : En) (aY : Nat → Nat → Nat) (ao : Nat → Nat) (o : OS) (c i : Nat) (x : Int32) (k : Nat) (hk : k < 17) (hne : k ≠ c) : cO E aY ao (u2 o c i x) k = cO E aY ao o k := by
  have e : u2 o c i x k = o k := if_neg hne
  match k, hk with
  | 0, _ => simp only [cO, e]
  | 1, _ => simp only [cO, e]
  | 2, _ => simp only [cO, e]
  | 3, _ => simp only [cO, e]
  | 4, _ => simp only [cO, e]
  | 5, _ => simp only [cO, e]
  | 6, _ => simp only [cO, e]
  | 7, _ => simp only [cO, e]
  | 8, _ => simp only [cO, e]
  | 9, _ => simp only [cO, e]
  | 10, _ => simp only [cO, e]
  | 11, _ => simp only [cO, e]
  | 12, _ => simp only [cO, e]
  | 13, _ => simp only [cO, e]
  | 14, _ => simp only [cO, e]
  | 15, _ => simp only [cO, e]
  | 16, _ => simp only [cO, e]
  | n + 17, h => exact absurd h (by omega)
theorem CW.wo {E : En} {aY : Nat → Nat → Nat} {ao : Nat → Nat} {Y : YS} {o : OS} {H H1 : Heap} (h : CW E aY ao Y o H) (c : Nat) (hc : c < 17) {i : Nat} {x : Int32} (he : va_at E.1 vwCl (ao c, cO E aY ao (u2 o c i x) c) H1) (oq : ∀ a, a ≠ ao c → H1[a]? = H[a]?) : CW E aY ao Y (u2 o c i x) H1 :=
  ⟨fun i hi => (h.1 i hi).kept (fun d hd => oq _ (h.2.2.2.2 i d c hi hd hc)), h.2.1.set h.2.2.2.1 c hc he oq (fun k hk hne => cO_u2 E aY ao o c i x k hk hne), h.2.2⟩
/-! the reference as a world: 13 cells -/
def lenM : Nat → Nat := fun c => match c with
  | 1 => 66
  | 2 => 528
  | 3 => 132
  | 4 => 16
  | 5 => 200
  | 6 => 3
  | 7 => 66
  | 8 => 66
  | 9 => 66
  | 10 => 6
  | 11 => 6
  | _ => 6
def cM (E : En) (am : Nat → Nat) (S : OS) : Nat → va_E := fun c => match c with
  | 0 => .inr (5, [.int (S 0 0), .int (S 0 1), .ref (am 1), .int (S 0 3), .ref (am 2), .int (S 0 5), .ref (am 3), .int (S 0 7), .ref (am 4), .ref (am 5), .int (S 0 10), .int (S 0 11), .ref (am 6), .int (S 0 13), .int (S 0 14), .int (S 0 15), .ref (am 7), .ref (am 8), .ref (am 9), .ref (am 10), .int (S 0 20), .int (S 0 21), .int (S 0 22), .int (S 0 23), .ref (am 11), .ref (am 12)])
  | c + 1 => .inl (E.2 0, lenM (c + 1), .inl (S (c + 1)))
def MW (E : En) (am : Nat → Nat) (S : OS) (H : Heap) : Prop := Wd E 13 am (cM E am S) H ∧ Ij 13 am
def AM (am : Nat → Nat) : Nat → Prop := fun a => ∃ c, c < 13 ∧ a = am c
theorem AM.c {am : Nat → Nat} {c : Nat} (hc : c < 13) : AM am (am c) := ⟨c, hc, rfl⟩
theorem cM_u2 (E : En) (am : Nat → Nat) (S : OS) (c i : Nat) (x : Int32) (k : Nat) (hne : k ≠ c) : cM E am (u2 S c i x) k = cM E am S k := by
  have e : u2 S c i x k = S k := if_neg hne
  cases k with
  | zero => simp only [cM, e]
  | succ k => simp only [cM, e]
theorem MW.w {E : En} {am : Nat → Nat} {S : OS} {H H1 : Heap} (h : MW E am S H) (c : Nat) (hc : c < 13) {i : Nat} {x : Int32} (he : va_at E.1 vwCl (am c, cM E am (u2 S c i x) c) H1) (oq : ∀ a, a ≠ am c → H1[a]? = H[a]?) : MW E am (u2 S c i x) H1 :=
  ⟨h.1.set h.2 c hc he oq (fun k _ hne => cM_u2 E am S c i x k hne), h.2⟩
theorem MW.a {E : En} {am : Nat → Nat} {S : OS} {H : Heap} (h : MW E am S H) {c : Nat} (h0 : 0 < c) (hc : c < 13) : va_at E.1 vwCl (am c, .inl (E.2 0, lenM c, .inl (S c))) H := by
  have := h.1 c hc
  cases c with
  | zero => exact absurd h0 (Nat.lt_irrefl 0)
  | succ c => exact this
section G1
variable {p : Program} {l : Launch} {e : Env} {R : Room} {s : State} {m : MethodId} {args : Array Value} {below : List Frame} {meth : Method} {c : Code} {H : Heap} {locs : List Loc} {cells slots : Nat} {Q : State → Prop}
variable {cc : ByteArray} {pc : Nat} {ls : Array Slot} {rest st0 : List Value} {E : En} {A A0 : Nat → Prop} {H0 : Heap} {q am ao : Nat → Nat} {aY : Nat → Nat → Nat} {y S o : OS} {Y : YS}
theorem aY1 (hw : Yd E q y H) : va_at E.1 vwCl (q 1, .inl (E.2 0, 12, .inl (y 1))) H := hw.1 1 (by decide)
theorem sY1 {i x : Int32} (hx : p.tables.exec = Jvm.exec) (hb : c.code = cc) (hK : KK E s) (hw : Yd E q y H) (hS : va_S A H0 H locs) (hA : ∀ a, AY q a → A a) (hin : vp_in i 12) (hdg : decode cc pc = .ok (.iastore, 1))
    (kk : ∀ (H1 : Heap) (locs1 : List Loc), Yd E q (u2 y 1 i.toNatClampNeg x) H1 → (∀ a : Nat, a ≠ q 1 → H1[a]? = H[a]?) → va_S A H0 H1 locs1 → W p l e R s m args below meth c H1 locs1 cells slots Q (F0 m (pc + 1) ls rest)) : W p l e R s m args below meth c H locs cells slots Q (F0 m pc ls (.int x :: .int i :: .ref (q 1) :: rest)) :=
  r_ast hx hb hK (aY1 hw) hS (hA _ ⟨1, by decide, rfl⟩) hin hdg (fun H1 locs1 ha ho hS => kk H1 locs1 (hw.w 1 (by decide) ha ho) ho hS)
theorem aY2 (hw : Yd E q y H) : va_at E.1 vwCl (q 2, .inl (E.2 0, 12, .inl (y 2))) H := hw.1 2 (by decide)
theorem sY2 {i x : Int32} (hx : p.tables.exec = Jvm.exec) (hb : c.code = cc) (hK : KK E s) (hw : Yd E q y H) (hS : va_S A H0 H locs) (hA : ∀ a, AY q a → A a) (hin : vp_in i 12) (hdg : decode cc pc = .ok (.iastore, 1))
    (kk : ∀ (H1 : Heap) (locs1 : List Loc), Yd E q (u2 y 2 i.toNatClampNeg x) H1 → (∀ a : Nat, a ≠ q 2 → H1[a]? = H[a]?) → va_S A H0 H1 locs1 → W p l e R s m args below meth c H1 locs1 cells slots Q (F0 m (pc + 1) ls rest)) : W p l e R s m args below meth c H locs cells slots Q (F0 m pc ls (.int x :: .int i :: .ref (q 2) :: rest)) :=
  r_ast hx hb hK (aY2 hw) hS (hA _ ⟨2, by decide, rfl⟩) hin hdg (fun H1 locs1 ha ho hS => kk H1 locs1 (hw.w 2 (by decide) ha ho) ho hS)
theorem aY3 (hw : Yd E q y H) : va_at E.1 vwCl (q 3, .inl (E.2 0, 12, .inl (y 3))) H := hw.1 3 (by decide)
theorem sY3 {i x : Int32} (hx : p.tables.exec = Jvm.exec) (hb : c.code = cc) (hK : KK E s) (hw : Yd E q y H) (hS : va_S A H0 H locs) (hA : ∀ a, AY q a → A a) (hin : vp_in i 12) (hdg : decode cc pc = .ok (.iastore, 1))
    (kk : ∀ (H1 : Heap) (locs1 : List Loc), Yd E q (u2 y 3 i.toNatClampNeg x) H1 → (∀ a : Nat, a ≠ q 3 → H1[a]? = H[a]?) → va_S A H0 H1 locs1 → W p l e R s m args below meth c H1 locs1 cells slots Q (F0 m (pc + 1) ls rest)) : W p l e R s m args below meth c H locs cells slots Q (F0 m pc ls (.int x :: .int i :: .ref (q 3) :: rest)) :=
  r_ast hx hb hK (aY3 hw) hS (hA _ ⟨3, by decide, rfl⟩) hin hdg (fun H1 locs1 ha ho hS => kk H1 locs1 (hw.w 3 (by decide) ha ho) ho hS)
theorem aY4 (hw : Yd E q y H) : va_at E.1 vwCl (q 4, .inl (E.2 0, 16, .inl (y 4))) H := hw.1 4 (by decide)
theorem sY4 {i x : Int32} (hx : p.tables.exec = Jvm.exec) (hb : c.code = cc) (hK : KK E s) (hw : Yd E q y H) (hS : va_S A H0 H locs) (hA : ∀ a, AY q a → A a) (hin : vp_in i 16) (hdg : decode cc pc = .ok (.iastore, 1))
    (kk : ∀ (H1 : Heap) (locs1 : List Loc), Yd E q (u2 y 4 i.toNatClampNeg x) H1 → (∀ a : Nat, a ≠ q 4 → H1[a]? = H[a]?) → va_S A H0 H1 locs1 → W p l e R s m args below meth c H1 locs1 cells slots Q (F0 m (pc + 1) ls rest)) : W p l e R s m args below meth c H locs cells slots Q (F0 m pc ls (.int x :: .int i :: .ref (q 4) :: rest)) :=
  r_ast hx hb hK (aY4 hw) hS (hA _ ⟨4, by decide, rfl⟩) hin hdg (fun H1 locs1 ha ho hS => kk H1 locs1 (hw.w 4 (by decide) ha ho) ho hS)
theorem aY5 (hw : Yd E q y H) : va_at E.1 vwCl (q 5, .inl (E.2 0, 6, .inl (y 5))) H := hw.1 5 (by decide)
theorem sY5 {i x : Int32} (hx : p.tables.exec = Jvm.exec) (hb : c.code = cc) (hK : KK E s) (hw : Yd E q y H) (hS : va_S A H0 H locs) (hA : ∀ a, AY q a → A a) (hin : vp_in i 6) (hdg : decode cc pc = .ok (.iastore, 1))
    (kk : ∀ (H1 : Heap) (locs1 : List Loc), Yd E q (u2 y 5 i.toNatClampNeg x) H1 → (∀ a : Nat, a ≠ q 5 → H1[a]? = H[a]?) → va_S A H0 H1 locs1 → W p l e R s m args below meth c H1 locs1 cells slots Q (F0 m (pc + 1) ls rest)) : W p l e R s m args below meth c H locs cells slots Q (F0 m pc ls (.int x :: .int i :: .ref (q 5) :: rest)) :=
  r_ast hx hb hK (aY5 hw) hS (hA _ ⟨5, by decide, rfl⟩) hin hdg (fun H1 locs1 ha ho hS => kk H1 locs1 (hw.w 5 (by decide) ha ho) ho hS)
theorem aY6 (hw : Yd E q y H) : va_at E.1 vwCl (q 6, .inl (E.2 0, 6, .inl (y 6))) H := hw.1 6 (by decide)
theorem sY6 {i x : Int32} (hx : p.tables.exec = Jvm.exec) (hb : c.code = cc) (hK : KK E s) (hw : Yd E q y H) (hS : va_S A H0 H locs) (hA : ∀ a, AY q a → A a) (hin : vp_in i 6) (hdg : decode cc pc = .ok (.iastore, 1))
    (kk : ∀ (H1 : Heap) (locs1 : List Loc), Yd E q (u2 y 6 i.toNatClampNeg x) H1 → (∀ a : Nat, a ≠ q 6 → H1[a]? = H[a]?) → va_S A H0 H1 locs1 → W p l e R s m args below meth c H1 locs1 cells slots Q (F0 m (pc + 1) ls rest)) : W p l e R s m args below meth c H locs cells slots Q (F0 m pc ls (.int x :: .int i :: .ref (q 6) :: rest)) :=
  r_ast hx hb hK (aY6 hw) hS (hA _ ⟨6, by decide, rfl⟩) hin hdg (fun H1 locs1 ha ho hS => kk H1 locs1 (hw.w 6 (by decide) ha ho) ho hS)
theorem aO1 (hw : CW E aY ao Y o H) : va_at E.1 vwCl (ao 1, .inl (E.2 0, 8, .inl (o 1))) H := hw.2.1 1 (by decide)
theorem sO1 {i x : Int32} (hx : p.tables.exec = Jvm.exec) (hb : c.code = cc) (hK : KK E s) (hw : CW E aY ao Y o H) (hS : va_S A H0 H locs) (hA : ∀ a, AC aY ao a → A a) (hin : vp_in i 8) (hdg : decode cc pc = .ok (.iastore, 1))
    (kk : ∀ (H1 : Heap) (locs1 : List Loc), CW E aY ao Y (u2 o 1 i.toNatClampNeg x) H1 → va_S A H0 H1 locs1 → W p l e R s m args below meth c H1 locs1 cells slots Q (F0 m (pc + 1) ls rest)) : W p l e R s m args below meth c H locs cells slots Q (F0 m pc ls (.int x :: .int i :: .ref (ao 1) :: rest)) :=
  r_ast hx hb hK (aO1 hw) hS (hA _ (AC.o (c := 1) (by decide))) hin hdg (fun H1 locs1 ha ho hS => kk H1 locs1 (hw.wo 1 (by decide) ha ho) hS)
theorem aO2 (hw : CW E aY ao Y o H) : va_at E.1 vwCl (ao 2, .inl (E.2 0, 8, .inl (o 2))) H := hw.2.1 2 (by decide)
theorem sO2 {i x : Int32} (hx : p.tables.exec = Jvm.exec) (hb : c.code = cc) (hK : KK E s) (hw : CW E aY ao Y o H) (hS : va_S A H0 H locs) (hA : ∀ a, AC aY ao a → A a) (hin : vp_in i 8) (hdg : decode cc pc = .ok (.iastore, 1))
    (kk : ∀ (H1 : Heap) (locs1 : List Loc), CW E aY ao Y (u2 o 2 i.toNatClampNeg x) H1 → va_S A H0 H1 locs1 → W p l e R s m args below meth c H1 locs1 cells slots Q (F0 m (pc + 1) ls rest)) : W p l e R s m args below meth c H locs cells slots Q (F0 m pc ls (.int x :: .int i :: .ref (ao 2) :: rest)) :=
  r_ast hx hb hK (aO2 hw) hS (hA _ (AC.o (c := 2) (by decide))) hin hdg (fun H1 locs1 ha ho hS => kk H1 locs1 (hw.wo 2 (by decide) ha ho) hS)
theorem aO5 (hw : CW E aY ao Y o H) : va_at E.1 vwCl (ao 5, .inl (E.2 0, 3, .inl (o 5))) H := hw.2.1 5 (by decide)
theorem sO5 {i x : Int32} (hx : p.tables.exec = Jvm.exec) (hb : c.code = cc) (hK : KK E s) (hw : CW E aY ao Y o H) (hS : va_S A H0 H locs) (hA : ∀ a, AC aY ao a → A a) (hin : vp_in i 3) (hdg : decode cc pc = .ok (.iastore, 1))
    (kk : ∀ (H1 : Heap) (locs1 : List Loc), CW E aY ao Y (u2 o 5 i.toNatClampNeg x) H1 → va_S A H0 H1 locs1 → W p l e R s m args below meth c H1 locs1 cells slots Q (F0 m (pc + 1) ls rest)) : W p l e R s m args below meth c H locs cells slots Q (F0 m pc ls (.int x :: .int i :: .ref (ao 5) :: rest)) :=
  r_ast hx hb hK (aO5 hw) hS (hA _ (AC.o (c := 5) (by decide))) hin hdg (fun H1 locs1 ha ho hS => kk H1 locs1 (hw.wo 5 (by decide) ha ho) hS)
theorem aO7 (hw : CW E aY ao Y o H) : va_at E.1 vwCl (ao 7, .inl (E.2 0, 6, .inl (o 7))) H := hw.2.1 7 (by decide)
theorem sO7 {i x : Int32} (hx : p.tables.exec = Jvm.exec) (hb : c.code = cc) (hK : KK E s) (hw : CW E aY ao Y o H) (hS : va_S A H0 H locs) (hA : ∀ a, AC aY ao a → A a) (hin : vp_in i 6) (hdg : decode cc pc = .ok (.iastore, 1))
    (kk : ∀ (H1 : Heap) (locs1 : List Loc), CW E aY ao Y (u2 o 7 i.toNatClampNeg x) H1 → va_S A H0 H1 locs1 → W p l e R s m args below meth c H1 locs1 cells slots Q (F0 m (pc + 1) ls rest)) : W p l e R s m args below meth c H locs cells slots Q (F0 m pc ls (.int x :: .int i :: .ref (ao 7) :: rest)) :=
  r_ast hx hb hK (aO7 hw) hS (hA _ (AC.o (c := 7) (by decide))) hin hdg (fun H1 locs1 ha ho hS => kk H1 locs1 (hw.wo 7 (by decide) ha ho) hS)
theorem aO8 (hw : CW E aY ao Y o H) : va_at E.1 vwCl (ao 8, .inl (E.2 0, 6, .inl (o 8))) H := hw.2.1 8 (by decide)
theorem sO8 {i x : Int32} (hx : p.tables.exec = Jvm.exec) (hb : c.code = cc) (hK : KK E s) (hw : CW E aY ao Y o H) (hS : va_S A H0 H locs) (hA : ∀ a, AC aY ao a → A a) (hin : vp_in i 6) (hdg : decode cc pc = .ok (.iastore, 1))
    (kk : ∀ (H1 : Heap) (locs1 : List Loc), CW E aY ao Y (u2 o 8 i.toNatClampNeg x) H1 → va_S A H0 H1 locs1 → W p l e R s m args below meth c H1 locs1 cells slots Q (F0 m (pc + 1) ls rest)) : W p l e R s m args below meth c H locs cells slots Q (F0 m pc ls (.int x :: .int i :: .ref (ao 8) :: rest)) :=
  r_ast hx hb hK (aO8 hw) hS (hA _ (AC.o (c := 8) (by decide))) hin hdg (fun H1 locs1 ha ho hS => kk H1 locs1 (hw.wo 8 (by decide) ha ho) hS)
theorem aO9 (hw : CW E aY ao Y o H) : va_at E.1 vwCl (ao 9, .inl (E.2 0, 6, .inl (o 9))) H := hw.2.1 9 (by decide)
theorem sO9 {i x : Int32} (hx : p.tables.exec = Jvm.exec) (hb : c.code = cc) (hK : KK E s) (hw : CW E aY ao Y o H) (hS : va_S A H0 H locs) (hA : ∀ a, AC aY ao a → A a) (hin : vp_in i 6) (hdg : decode cc pc = .ok (.iastore, 1))
    (kk : ∀ (H1 : Heap) (locs1 : List Loc), CW E aY ao Y (u2 o 9 i.toNatClampNeg x) H1 → va_S A H0 H1 locs1 → W p l e R s m args below meth c H1 locs1 cells slots Q (F0 m (pc + 1) ls rest)) : W p l e R s m args below meth c H locs cells slots Q (F0 m pc ls (.int x :: .int i :: .ref (ao 9) :: rest)) :=
  r_ast hx hb hK (aO9 hw) hS (hA _ (AC.o (c := 9) (by decide))) hin hdg (fun H1 locs1 ha ho hS => kk H1 locs1 (hw.wo 9 (by decide) ha ho) hS)
theorem aO10 (hw : CW E aY ao Y o H) : va_at E.1 vwCl (ao 10, .inl (E.2 0, 64, .inl (o 10))) H := hw.2.1 10 (by decide)
theorem sO10 {i x : Int32} (hx : p.tables.exec = Jvm.exec) (hb : c.code = cc) (hK : KK E s) (hw : CW E aY ao Y o H) (hS : va_S A H0 H locs) (hA : ∀ a, AC aY ao a → A a) (hin : vp_in i 64) (hdg : decode cc pc = .ok (.iastore, 1))
    (kk : ∀ (H1 : Heap) (locs1 : List Loc), CW E aY ao Y (u2 o 10 i.toNatClampNeg x) H1 → va_S A H0 H1 locs1 → W p l e R s m args below meth c H1 locs1 cells slots Q (F0 m (pc + 1) ls rest)) : W p l e R s m args below meth c H locs cells slots Q (F0 m pc ls (.int x :: .int i :: .ref (ao 10) :: rest)) :=
  r_ast hx hb hK (aO10 hw) hS (hA _ (AC.o (c := 10) (by decide))) hin hdg (fun H1 locs1 ha ho hS => kk H1 locs1 (hw.wo 10 (by decide) ha ho) hS)
theorem aO11 (hw : CW E aY ao Y o H) : va_at E.1 vwCl (ao 11, .inl (E.2 0, 6, .inl (o 11))) H := hw.2.1 11 (by decide)
theorem sO11 {i x : Int32} (hx : p.tables.exec = Jvm.exec) (hb : c.code = cc) (hK : KK E s) (hw : CW E aY ao Y o H) (hS : va_S A H0 H locs) (hA : ∀ a, AC aY ao a → A a) (hin : vp_in i 6) (hdg : decode cc pc = .ok (.iastore, 1))
    (kk : ∀ (H1 : Heap) (locs1 : List Loc), CW E aY ao Y (u2 o 11 i.toNatClampNeg x) H1 → va_S A H0 H1 locs1 → W p l e R s m args below meth c H1 locs1 cells slots Q (F0 m (pc + 1) ls rest)) : W p l e R s m args below meth c H locs cells slots Q (F0 m pc ls (.int x :: .int i :: .ref (ao 11) :: rest)) :=
  r_ast hx hb hK (aO11 hw) hS (hA _ (AC.o (c := 11) (by decide))) hin hdg (fun H1 locs1 ha ho hS => kk H1 locs1 (hw.wo 11 (by decide) ha ho) hS)
theorem aO12 (hw : CW E aY ao Y o H) : va_at E.1 vwCl (ao 12, .inl (E.2 0, 6, .inl (o 12))) H := hw.2.1 12 (by decide)
theorem sO12 {i x : Int32} (hx : p.tables.exec = Jvm.exec) (hb : c.code = cc) (hK : KK E s) (hw : CW E aY ao Y o H) (hS : va_S A H0 H locs) (hA : ∀ a, AC aY ao a → A a) (hin : vp_in i 6) (hdg : decode cc pc = .ok (.iastore, 1))
    (kk : ∀ (H1 : Heap) (locs1 : List Loc), CW E aY ao Y (u2 o 12 i.toNatClampNeg x) H1 → va_S A H0 H1 locs1 → W p l e R s m args below meth c H1 locs1 cells slots Q (F0 m (pc + 1) ls rest)) : W p l e R s m args below meth c H locs cells slots Q (F0 m pc ls (.int x :: .int i :: .ref (ao 12) :: rest)) :=
  r_ast hx hb hK (aO12 hw) hS (hA _ (AC.o (c := 12) (by decide))) hin hdg (fun H1 locs1 ha ho hS => kk H1 locs1 (hw.wo 12 (by decide) ha ho) hS)
theorem aO4 (hw : CW E aY ao Y o H) : va_at E.1 vwCl (ao 4, .inl (E.2 1, 200, .inl (o 4))) H := hw.2.1 4 (by decide)
theorem sO4 {i x : Int32} (hx : p.tables.exec = Jvm.exec) (hb : c.code = cc) (hK : KK E s) (hw : CW E aY ao Y o H) (hS : va_S A H0 H locs) (hA : ∀ a, AC aY ao a → A a) (hin : vp_in i 200) (hdg : decode cc pc = .ok (.castore, 1))
    (kk : ∀ (H1 : Heap) (locs1 : List Loc), CW E aY ao Y (u2 o 4 i.toNatClampNeg (vp_nar .char x)) H1 → va_S A H0 H1 locs1 → W p l e R s m args below meth c H1 locs1 cells slots Q (F0 m (pc + 1) ls rest)) : W p l e R s m args below meth c H locs cells slots Q (F0 m pc ls (.int x :: .int i :: .ref (ao 4) :: rest)) :=
  r_cast hx hb hK (aO4 hw) hS (hA _ (AC.o (c := 4) (by decide))) hin hdg (fun H1 locs1 ha ho hS => kk H1 locs1 (hw.wo 4 (by decide) ha ho) hS)
theorem aO14 (hw : CW E aY ao Y o H) : va_at E.1 vwCl (ao 14, .inl (E.2 2, 8, .inr (.inr (.inr (.inr (fun j => some (aY (o 14 j).toNatClampNeg 0))))))) H := hw.2.1 14 (by decide)
theorem lO14 {i : Int32} (hx : p.tables.exec = Jvm.exec) (hb : c.code = cc) (hK : KK E s) (hw : CW E aY ao Y o H) (hin : vp_in i 8) (hdg : decode cc pc = .ok (.aaload, 1))
    (kk : W p l e R s m args below meth c H locs cells slots Q (F0 m (pc + 1) ls (.ref (aY (o 14 i.toNatClampNeg).toNatClampNeg 0) :: rest))) : W p l e R s m args below meth c H locs cells slots Q (F0 m pc ls (.int i :: .ref (ao 14) :: rest)) :=
  r_aald hx hb hK (aO14 hw) hin rfl hdg kk
theorem sO14 {i x : Int32} (hx : p.tables.exec = Jvm.exec) (hb : c.code = cc) (hK : KK E s) (hw : CW E aY ao Y o H) (hS : va_S A H0 H locs) (hA : ∀ a, AC aY ao a → A a) (hin : vp_in i 8) (hx13 : x.toNatClampNeg < 13) (hdg : decode cc pc = .ok (.aastore, 1))
    (kk : ∀ (H1 : Heap) (locs1 : List Loc), CW E aY ao Y (u2 o 14 i.toNatClampNeg x) H1 → va_S A H0 H1 locs1 → W p l e R s m args below meth c H1 locs1 cells slots Q (F0 m (pc + 1) ls rest)) : W p l e R s m args below meth c H locs cells slots Q (F0 m pc ls (.ref (aY x.toNatClampNeg 0) :: .int i :: .ref (ao 14) :: rest)) := by
  refine r_aast (ci := 3) (r := (RX3, TX3, 10)) hx hb hK (aO14 hw) ((hw.yd hx13).1 0 (by decide)) hS (hA _ (AC.o (c := 14) (by decide))) hin hdg (fun H1 locs1 ha ho hS => kk H1 locs1 (hw.wo 14 (by decide) ?_ ho) hS)
  have e : (fun j => some (aY (u2 o 14 i.toNatClampNeg x 14 j).toNatClampNeg 0)) = va_up (fun j => some (aY (o 14 j).toNatClampNeg 0)) i.toNatClampNeg (some (aY x.toNatClampNeg 0)) := by
    funext j
    by_cases hj : j = i.toNatClampNeg
    · simp [u2, upd, va_up, hj]
    · simp [u2, upd, va_up, hj]
  show va_at E.1 vwCl (ao 14, .inl (E.2 2, 8, .inr (.inr (.inr (.inr (fun j => some (aY (u2 o 14 i.toNatClampNeg x 14 j).toNatClampNeg 0))))))) H1
  rw [e]
  exact ha
theorem aO16 (hw : CW E aY ao Y o H) : va_at E.1 vwCl (ao 16, .inl (E.2 2, 2, .inr (.inr (.inr (.inr (fun j => some (aY (o 16 j).toNatClampNeg 0))))))) H := hw.2.1 16 (by decide)
theorem lO16 {i : Int32} (hx : p.tables.exec = Jvm.exec) (hb : c.code = cc) (hK : KK E s) (hw : CW E aY ao Y o H) (hin : vp_in i 2) (hdg : decode cc pc = .ok (.aaload, 1))
    (kk : W p l e R s m args below meth c H locs cells slots Q (F0 m (pc + 1) ls (.ref (aY (o 16 i.toNatClampNeg).toNatClampNeg 0) :: rest))) : W p l e R s m args below meth c H locs cells slots Q (F0 m pc ls (.int i :: .ref (ao 16) :: rest)) :=
  r_aald hx hb hK (aO16 hw) hin rfl hdg kk
theorem sO16 {i x : Int32} (hx : p.tables.exec = Jvm.exec) (hb : c.code = cc) (hK : KK E s) (hw : CW E aY ao Y o H) (hS : va_S A H0 H locs) (hA : ∀ a, AC aY ao a → A a) (hin : vp_in i 2) (hx13 : x.toNatClampNeg < 13) (hdg : decode cc pc = .ok (.aastore, 1))
    (kk : ∀ (H1 : Heap) (locs1 : List Loc), CW E aY ao Y (u2 o 16 i.toNatClampNeg x) H1 → va_S A H0 H1 locs1 → W p l e R s m args below meth c H1 locs1 cells slots Q (F0 m (pc + 1) ls rest)) : W p l e R s m args below meth c H locs cells slots Q (F0 m pc ls (.ref (aY x.toNatClampNeg 0) :: .int i :: .ref (ao 16) :: rest)) := by
  refine r_aast (ci := 3) (r := (RX3, TX3, 10)) hx hb hK (aO16 hw) ((hw.yd hx13).1 0 (by decide)) hS (hA _ (AC.o (c := 16) (by decide))) hin hdg (fun H1 locs1 ha ho hS => kk H1 locs1 (hw.wo 16 (by decide) ?_ ho) hS)
  have e : (fun j => some (aY (u2 o 16 i.toNatClampNeg x 16 j).toNatClampNeg 0)) = va_up (fun j => some (aY (o 16 j).toNatClampNeg 0)) i.toNatClampNeg (some (aY x.toNatClampNeg 0)) := by
    funext j
    by_cases hj : j = i.toNatClampNeg
    · simp [u2, upd, va_up, hj]
    · simp [u2, upd, va_up, hj]
  show va_at E.1 vwCl (ao 16, .inl (E.2 2, 2, .inr (.inr (.inr (.inr (fun j => some (aY (u2 o 16 i.toNatClampNeg x 16 j).toNatClampNeg 0))))))) H1
  rw [e]
  exact ha
theorem sM {cm : Nat} {i x : Int32} (hx : p.tables.exec = Jvm.exec) (hb : c.code = cc) (hK : KK E s) (hw : MW E am S H) (hS : va_S A H0 H locs) (hA : ∀ a, AM am a → A a) (h0 : 0 < cm) (hc : cm < 13) (hin : vp_in i (lenM cm)) (hdg : decode cc pc = .ok (.iastore, 1))
    (kk : ∀ (H1 : Heap) (locs1 : List Loc), MW E am (u2 S cm i.toNatClampNeg x) H1 → va_S A H0 H1 locs1 → W p l e R s m args below meth c H1 locs1 cells slots Q (F0 m (pc + 1) ls rest)) : W p l e R s m args below meth c H locs cells slots Q (F0 m pc ls (.int x :: .int i :: .ref (am cm) :: rest)) := by
  refine r_ast hx hb hK (hw.a h0 hc) hS (hA _ (AM.c hc)) hin hdg (fun H1 locs1 ha ho hS => kk H1 locs1 (hw.w cm hc ?_ ho) hS)
  have e : u2 S cm i.toNatClampNeg x cm = upd (S cm) i.toNatClampNeg x := if_pos rfl
  cases cm with
  | zero => exact absurd h0 (Nat.lt_irrefl 0)
  | succ k =>
    show va_at E.1 vwCl (am (k + 1), .inl (E.2 0, lenM (k + 1), .inl (u2 S (k + 1) i.toNatClampNeg x (k + 1)))) H1
    rw [e]
    exact ha
theorem lM {cm : Nat} {i : Int32} (hx : p.tables.exec = Jvm.exec) (hb : c.code = cc) (hK : KK E s) (hw : MW E am S H) (h0 : 0 < cm) (hc : cm < 13) (hin : vp_in i (lenM cm)) (hdg : decode cc pc = .ok (.iaload, 1))
    (kk : W p l e R s m args below meth c H locs cells slots Q (F0 m (pc + 1) ls (.int (S cm i.toNatClampNeg) :: rest))) : W p l e R s m args below meth c H locs cells slots Q (F0 m pc ls (.int i :: .ref (am cm) :: rest)) := r_ald hx hb hK (hw.a h0 hc) hin hdg kk
theorem rvY (hK : KK E s) (hw : Yd E q y H) : ∃ cell : Cell, H[q 0]? = some cell ∧ cell.vm.isStatics = false ∧ s.vm.findClass RX3 = some cell.cls := r_recv hK (hw.1 0 (by decide)) (q := (RX3, TX3, 10)) rfl
theorem rvM (hK : KK E s) (hw : MW E am S H) : ∃ cell : Cell, H[am 0]? = some cell ∧ cell.vm.isStatics = false ∧ s.vm.findClass RX5 = some cell.cls := r_recv hK (hw.1 0 (by decide)) (q := (RX5, TX5, 26)) rfl
theorem rvO0 (hK : KK E s) (hw : CW E aY ao Y o H) : ∃ cell : Cell, H[ao 0]? = some cell ∧ cell.vm.isStatics = false ∧ s.vm.findClass RX4 = some cell.cls := r_recv hK (hw.2.1 0 (by decide)) (q := (RX4, TX4, 10)) rfl
theorem rvO3 (hK : KK E s) (hw : CW E aY ao Y o H) : ∃ cell : Cell, H[ao 3]? = some cell ∧ cell.vm.isStatics = false ∧ s.vm.findClass RX2 = some cell.cls := r_recv hK (hw.2.1 3 (by decide)) (q := (RX2, TX2, 5)) rfl
theorem rvO6 (hK : KK E s) (hw : CW E aY ao Y o H) : ∃ cell : Cell, H[ao 6]? = some cell ∧ cell.vm.isStatics = false ∧ s.vm.findClass RX0 = some cell.cls := r_recv hK (hw.2.1 6 (by decide)) (q := (RX0, TX0, 11)) rfl
theorem rvO13 (hK : KK E s) (hw : CW E aY ao Y o H) : ∃ cell : Cell, H[ao 13]? = some cell ∧ cell.vm.isStatics = false ∧ s.vm.findClass RX1 = some cell.cls := r_recv hK (hw.2.1 13 (by decide)) (q := (RX1, TX1, 2)) rfl
theorem rvO15 (hK : KK E s) (hw : CW E aY ao Y o H) : ∃ cell : Cell, H[ao 15]? = some cell ∧ cell.vm.isStatics = false ∧ s.vm.findClass RX1 = some cell.cls := r_recv hK (hw.2.1 15 (by decide)) (q := (RX1, TX1, 2)) rfl
end G1
