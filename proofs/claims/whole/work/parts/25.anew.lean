/-! buried one by one, and all anew -/
def mix (h g : Nat → Nat) : Nat → Nat := fun j => if 37 ≤ j ∧ j < 53 then g j else h j
theorem mix_in {h g : Nat → Nat} {j : Nat} (c : 37 ≤ j ∧ j < 53) : mix h g j = g j := if_pos c
theorem mix_out {h g : Nat → Nat} {j : Nat} (c : j < 37 ∨ 53 ≤ j) : mix h g j = h j := if_neg (by omega)
theorem mix_pt {h g : Nat → Nat} {k v : Nat} (c : 37 ≤ k ∧ k < 53) : pt (mix h g) k v = mix h (pt g k v) := by
  funext j
  by_cases e : j = k
  · subst e; rw [pt_s, mix_in c, pt_s]
  · rw [pt_n e]
    unfold mix
    rw [pt_n e]
theorem sf_cong {f g : Nat → Nat} {N yd : Nat} {fw : Bool} (hN : 2 ≤ N) (hN8 : N ≤ 8) (h : ∀ p, p < 8 → ly f yd p = ly g yd p) : ∀ (m p : Nat), p < N → sf f N yd fw m p = sf g N yd fw m p
  | 0, p, _ => rfl
  | m + 1, p, hp => by
    rw [sf, sf, h p (by omega), sf_cong hN hN8 h m (nxt N fw p) (nxt_lt fw hN hp)]
theorem fp_cong {f g : Nat → Nat} {N yd k F : Nat} (hN : 2 ≤ N) (hN8 : N ≤ 8) (h : ∀ p, p < 8 → ly f yd p = ly g yd p) : fp f N yd k F = fp g N yd k F := by
  unfold fp
  have w := fp_w (F := F) hN hN8
  rw [sf_cong hN hN8 h N 0 (by omega), sf_cong hN hN8 h N _ w, sf_cong hN hN8 h N _ w]
theorem mix_ly {h g : Nat → Nat} {yd p : Nat} (hy : yd < 2) (hp : p < 8) : ly (mix h g) yd p = ly g yd p := mix_in (by omega)
theorem bur_mix {g h : Nat → Nat} {N i : Nat} (hN : 2 ≤ N) (hN8 : N ≤ 8) (hi : i < 12) (hv : vl g i ≤ 1) (a : vl h i = vl g i ∧ kd h i = kd g i ∧ fg h i = fg g i) : (bur (mix h g) N i).2 = mix h (bur g N i).2 ∧ ∀ j, (j < 37 ∨ 53 ≤ j) → (bur g N i).2 j = g j := by
  have v1 : vl (mix h g) i = vl g i := (mix_out (by omega)).trans a.1
  have v2 : kd (mix h g) i = kd g i := (mix_out (by omega)).trans a.2.1
  have v3 : fg (mix h g) i = fg g i := (mix_out (by omega)).trans a.2.2
  unfold bur
  rw [v1, v2, v3, fp_cong (f := mix h g) (g := g) hN hN8 (fun p hp => mix_ly (by omega) hp)]
  cases e : fp g N (1 - vl g i) (kd g i) (fg g i) with
  | none => exact ⟨rfl, fun _ _ => rfl⟩
  | some p =>
    obtain ⟨b1, b2⟩ := fp_in hN hN8 e
    have c1 : 37 ≤ 37 + ((1 - vl g i) * 8 + p) ∧ 37 + ((1 - vl g i) * 8 + p) < 53 := by omega
    dsimp only
    rw [mix_pt c1]
    by_cases c3 : kd g i = 3
    · rw [if_pos c3, if_pos c3, fp_cong (f := mix h (pt g (37 + ((1 - vl g i) * 8 + p)) (i + 1))) (g := pt g (37 + ((1 - vl g i) * 8 + p)) (i + 1)) hN hN8 (fun p hp => mix_ly (by omega) hp)]
      cases e2 : fp (pt g (37 + ((1 - vl g i) * 8 + p)) (i + 1)) N (vl g i) 3 (fg g i) with
      | none => exact ⟨rfl, fun j hj => pt_n (by omega)⟩
      | some p2 =>
        obtain ⟨d1, d2⟩ := fp_in hN hN8 e2
        dsimp only
        rw [mix_pt (by omega)]
        exact ⟨rfl, fun j hj => by rw [pt_n (by omega), pt_n (by omega)]⟩
    · rw [if_neg c3, if_neg c3]
      exact ⟨rfl, fun j hj => pt_n (by omega)⟩
theorem itr_last {α : Type} (b : Nat → α → α) : ∀ (j i : Nat) (a : α), itr b (j + 1) i a = b (i + j) (itr b j i a)
  | 0, i, a => rfl
  | j + 1, i, a => by
    show itr b (j + 1) (i + 1) (b i a) = _
    rw [itr_last b j (i + 1), show i + 1 + j = i + (j + 1) by omega]; rfl
theorem itr_mix {N : Nat} (hN : 2 ≤ N) (hN8 : N ≤ 8) (h : Nat → Nat) : ∀ (j i : Nat) (g : Nat → Nat), i + j ≤ 12 → (∀ k, i ≤ k → k < i + j → vl g k ≤ 1 ∧ vl h k = vl g k ∧ kd h k = kd g k ∧ fg h k = fg g k) → itr (fun i g => (bur g N i).2) j i (mix h g) = mix h (itr (fun i g => (bur g N i).2) j i g) ∧ ∀ m, (m < 37 ∨ 53 ≤ m) → itr (fun i g => (bur g N i).2) j i g m = g m
  | 0, i, g, _, _ => ⟨rfl, fun _ _ => rfl⟩
  | j + 1, i, g, hj, hh => by
    have h0 := hh i (by omega) (by omega)
    have b := bur_mix (g := g) (h := h) hN hN8 (show i < 12 by omega) h0.1 h0.2
    have ih := itr_mix hN hN8 h j (i + 1) (bur g N i).2 (by omega) (fun k h1 h2 => by
      have e := hh k (by omega) (by omega)
      unfold vl kd fg at e ⊢
      rw [b.2 _ (by omega), b.2 _ (by omega), b.2 _ (by omega)]; exact e)
    refine ⟨?_, fun m hm => by rw [itr]; rw [ih.2 m hm, b.2 m hm]⟩
    show itr _ j (i + 1) (bur (mix h g) N i).2 = mix h (itr _ j (i + 1) (bur g N i).2)
    rw [b.1]; exact ih.1
theorem an_out {f : Nat → Nat} {N : Nat} (k : Okb f N) : ∀ m, (m < 37 ∨ 53 ≤ m) → an f N m = f m := by
  intro m hm
  have h12 := k.2.1
  have := (itr_mix k.1.1 k.1.2 (cl f) (f 0) 0 (cl f) (by omega) (fun i _ hi => by
    obtain ⟨a, b, c⟩ := cl_v f (show i < 12 by omega)
    exact ⟨by rw [a]; exact (k.2.2.2.1 i (by omega)).1, rfl, rfl, rfl⟩)).2 m hm
  unfold an
  rw [this, cl_n hm]
theorem an_adn {f : Nat → Nat} {N v k F : Nat} (kb : Okb f N) (h12 : f 0 < 12) : an (adn f v k F) N = (bry (an f N) N v k F).2 := by
  have e0 : an f N 0 = f 0 := (okb_an kb).2
  have ec : cl (adn f v k F) = mix (adn f v k F) (cl f) := by
    funext j
    unfold mix cl
    by_cases c : 37 ≤ j ∧ j < 53
    · rw [if_pos c, if_pos c, if_pos c]
    · rw [if_neg c, if_neg c]
  have m := (itr_mix kb.1.1 kb.1.2 (adn f v k F) (f 0) 0 (cl f) (by omega) (fun i _ hi => by
    obtain ⟨a, b, c⟩ := cl_v f (show i < 12 by omega)
    obtain ⟨a', b', c'⟩ := adn_v (v := v) (k := k) (F := F) (show i < f 0 by omega)
    rw [a, b, c, a', b', c']
    exact ⟨(kb.2.2.2.1 i (by omega)).1, rfl, rfl, rfl⟩)).1
  have e1 : an (adn f v k F) N = (bur (mix (adn f v k F) (an f N)) N (f 0)).2 := by
    unfold an
    rw [adn_0, itr_last, ec, m, Nat.zero_add]
  have e2 : mix (adn f v k F) (an f N) = adn (an f N) v k F := by
    funext j
    by_cases c : 37 ≤ j ∧ j < 53
    · rw [mix_in c, adn_hi (by rw [e0]; exact h12) (by omega)]
    · rw [mix_out (by omega)]
      unfold adn
      rw [e0]
      unfold pt
      rw [an_out kb j (by omega)]
  rw [e1, e2]
  unfold bry
  rw [e0]
theorem an_vis {f : Nat → Nat} {N i c : Nat} (kb : Okb f N) (h6 : f 53 < 6) : an (vis f i c) N = vis (an f N) i c := by
  have e53 : an f N 53 = f 53 := an_out kb 53 (by omega)
  have h12 := kb.2.1
  have ec : cl (vis f i c) = mix (vis f i c) (cl f) := by
    funext j
    unfold mix cl
    by_cases c : 37 ≤ j ∧ j < 53
    · rw [if_pos c, if_pos c, if_pos c]
    · rw [if_neg c, if_neg c]
  have m := (itr_mix kb.1.1 kb.1.2 (vis f i c) (f 0) 0 (cl f) (by omega) (fun i _ hi => by
    obtain ⟨a, b, c⟩ := cl_v f (show i < 12 by omega)
    rw [a, b, c]
    exact ⟨(kb.2.2.2.1 i (by omega)).1, vis_lo (by omega), vis_lo (by omega), vis_lo (by omega)⟩)).1
  have e1 : an (vis f i c) N = mix (vis f i c) (an f N) := by
    unfold an
    rw [vis_lo (show 0 < 53 by decide), ec, m]
  rw [e1]
  funext j
  by_cases c : 37 ≤ j ∧ j < 53
  · rw [mix_in c, vis_lo c.2]
  · rw [mix_out (by omega)]
    unfold vis
    rw [e53]
    unfold pt
    rw [an_out kb j (by omega)]
theorem an_0 {f : Nat → Nat} {N : Nat} (h : f 0 = 0) : an f N = cl f := by unfold an; rw [h]; rfl
