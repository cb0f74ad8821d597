/-! THE RELATION: a class's state against a region of the model's numbers -/
section WayQ
variable {n : Nat} {A : Nat → Nat → Prop} {q q' : Nat → Int}
theorem Wk_q (h : ∀ d, d < n → q d = q' d) {e : Nat} : ∀ (k a : Nat) (c : Int), Wk n A q e k a c → Wk n A q' e k a c
  | 0, _, _, w => w
  | k + 1, a, c, w => by
    obtain ⟨d, hd, hA, w2⟩ := w
    refine ⟨d, hd, hA, ?_⟩
    rw [← h d hd]
    exact Wk_q h k d _ w2
theorem Rl_q (h : ∀ d, d < n → q d = q' d) {e : Nat} {D : Nat → Int} (r : Rl n A q e D) : Rl n A q' e D := by
  refine ⟨r.1, fun a ha => ⟨(r.2 a ha).1, ?_⟩⟩
  rcases (r.2 a ha).2 with h1 | ⟨k, h1⟩
  · exact Or.inl h1
  · exact Or.inr ⟨k, Wk_q h k a _ h1⟩
theorem Fx_q (h : ∀ d, d < n → q d = q' d) {D : Nat → Int} (r : Fx n A q D) : Fx n A q' D := by
  intro a d ha hd hA
  rw [← h d hd]
  exact r a d ha hd hA
theorem Rf_q (h : ∀ d, d < n → q d = q' d) {s : Nat} {D : Nat → Int} (r : Rf n A q s D) : Rf n A q' s D := by
  refine ⟨r.1, fun a ha => ⟨(r.2 a ha).1, ?_⟩⟩
  rcases (r.2 a ha).2 with h1 | ⟨k, h1⟩
  · exact Or.inl h1
  · exact Or.inr ⟨k, Wk_q h k s _ h1⟩
theorem Ff_q (h : ∀ d, d < n → q d = q' d) {D : Nat → Int} (r : Ff n A q D) : Ff n A q' D := by
  intro a d ha hd hb hA
  rw [← h d hd]
  exact r a d ha hd hb hA
end WayQ
section Rel
variable {C C' : Nat → Int → Int} {b o : Nat} {W W' : Int → Int} {r x y : Int} {K : Nat}
theorem cell_idx {w hh d : Nat} (hw : 0 < w) (hd : d < w * hh) : ((d % w : Nat) : Int) + (w : Int) * ((d / w : Nat) : Int) = (d : Int) := by
  have := idx_of (w := w) (a := d)
  exact_mod_cast this.symm
/-- the same floor at another place has the same ways -/
theorem qN_pw {w hh : Nat} (hw : 0 < w) (hwh : w * hh ≤ 49) (e0 : C (o + 1) 0 = (w : Int)) (h0 : C' (b + 1) 0 = C (o + 1) 0) (h4 : C' (b + 1) 4 = C (o + 1) 4) (ht : ∀ c, 0 ≤ c → c < 49 → C' (b + 2) c = C (o + 2) c) : ∀ d, d < w * hh → qN C o w d = qN C' b w d := by
  intro d hd
  unfold qN qI
  rw [h0, h4, e0, cell_idx hw hd, ht d (by omega) (by omega)]
theorem WayIs_pw {s e : Nat} {v : Int} (hf : FlOk C o) (h0 : C' (b + 1) 0 = C (o + 1) 0) (h1 : C' (b + 1) 1 = C (o + 1) 1) (h4 : C' (b + 1) 4 = C (o + 1) 4) (ht : ∀ c, 0 ≤ c → c < 49 → C' (b + 2) c = C (o + 2) c) (h : WayIs C o s e v) : WayIs C' b s e v := by
  obtain ⟨D, ⟨d1, d2⟩, rfl⟩ := h
  have hwh := hf.wh
  have hn := hf.nn
  have hn2 := hf.n
  have h1' := hf.1
  have hq := qN_pw (C := C) (C' := C') (b := b) (o := o) (w := (C (o + 1) 0).toNat) (hh := (C (o + 1) 1).toNat) (by omega) (by omega) hwh.1 h0 h4 ht
  refine ⟨D, ?_, rfl⟩
  unfold IsW
  rw [h0, h1]
  exact ⟨Rl_q hq d1, Fx_q hq d2⟩
def FlNo (C : Nat → Int → Int) (b : Nat) : Prop := FlOk C b ∧ WalkOk C b
theorem FlNo_pw (h0 : C' (b + 1) 0 = C (o + 1) 0) (h1 : C' (b + 1) 1 = C (o + 1) 1) (h2 : C' (b + 1) 2 = C (o + 1) 2) (h3 : C' (b + 1) 3 = C (o + 1) 3) (h4 : C' (b + 1) 4 = C (o + 1) 4) (h5 : C' (b + 1) 5 = C (o + 1) 5) (h8 : C' (b + 1) 8 = C (o + 1) 8) (ht : ∀ c, 0 ≤ c → c < 49 → C' (b + 2) c = C (o + 2) c) (h : FlNo C o) : FlNo C' b := by
  obtain ⟨f, w⟩ := h
  refine ⟨?_, ?_⟩
  · obtain ⟨f0, f1, f2, f3, f4, f5, f6⟩ := id f
    unfold FlOk
    rw [h0, h1, h2, h3, h4, h5]
    exact ⟨f0, f1, f2, f3, f4, f5, fun c c0 c1 => by rw [ht c c0 c1]; exact f6 c c0 c1⟩
  · unfold WalkOk
    rw [h8, h3, h2]
    rcases w with w | ⟨v, w1, w2⟩
    · exact Or.inl w
    · exact Or.inr ⟨v, WayIs_pw f h0 h1 h4 ht w1, w2⟩
/-- traits in bounds that grow with the calls -/
def TrB (C : Nat → Int → Int) (a K : Nat) : Prop := ((0 ≤ C a 0 ∧ C a 0 ≤ 5) ∧ (0 ≤ C a 1 ∧ C a 1 ≤ 120) ∧ (0 ≤ C a 2 ∧ C a 2 ≤ 9) ∧ (0 ≤ C a 3 ∧ C a 3 ≤ 20) ∧ (0 ≤ C a 4 ∧ C a 4 ≤ 60) ∧ (-1 ≤ C a 5 ∧ C a 5 ≤ 120)) ∧ (0 ≤ C a 6 ∧ C a 6 ≤ 30 * (K : Int)) ∧ (0 ≤ C a 7 ∧ C a 7 ≤ 120000 * (K : Int))
theorem TrB.ok {a : Nat} (h : TrB C a K) (hK : K ≤ 100) : TrOk C a := by
  obtain ⟨⟨h0, h1, h2, h3, h4, h5⟩, h6, h7⟩ := h
  exact ⟨h0, h1, h2, h3, h4, h5, by omega, by omega⟩
theorem TrB_pw {a a' : Nat} {K' : Nat} (hK : K ≤ K') (h : ∀ k, 0 ≤ k → k < 8 → C' a' k = C a k) (t : TrB C a K) : TrB C' a' K' := by
  obtain ⟨⟨h0, h1, h2, h3, h4, h5⟩, h6, h7⟩ := t
  unfold TrB
  rw [h 0 (by decide) (by decide), h 1 (by decide) (by decide), h 2 (by decide) (by decide), h 3 (by decide) (by decide), h 4 (by decide) (by decide), h 5 (by decide) (by decide), h 6 (by decide) (by decide), h 7 (by decide) (by decide)]
  exact ⟨⟨h0, h1, h2, h3, h4, h5⟩, by omega, by omega⟩
/-- row i of what can be undone -/
def rowA (C : Nat → Int → Int) (b i : Nat) : Nat := b + 7 + ((C (b + 4) 2 - C (b + 4) 3 + (i : Int)) % 8).toNat
def RowOk (C : Nat → Int → Int) (b a i : Nat) (W : Int → Int) (r : Int) (K : Nat) : Prop := C a 0 = W (r + 107 + 10 * (i : Int) + 9) ∧ (0 ≤ C a 0 ∧ C a 0 ≤ 4) ∧ W (r + 107 + 10 * (i : Int) + 8) = C (b + 4) 2 - C (b + 4) 3 + (i : Int) ∧ ∀ s : Nat, (s : Int) < C a 0 → (C a (1 + 2 * (s : Int)) = W (r + 107 + 10 * (i : Int) + s) ∧ C a (2 + 2 * (s : Int)) = W (r + 107 + 10 * (i : Int) + 4 + s)) ∧ (0 ≤ C a (1 + 2 * (s : Int)) ∧ C a (1 + 2 * (s : Int)) ≤ 30 * (K : Int)) ∧ (0 ≤ C a (2 + 2 * (s : Int)) ∧ C a (2 + 2 * (s : Int)) ≤ 120000 * (K : Int))
def Rg (C : Nat → Int → Int) (b : Nat) (W : Int → Int) (r : Int) (K : Nat) : Prop :=
  (∀ k, 0 ≤ k → k < 6 → C (b + 1) k = W (r + k)) ∧
  (∀ c, 0 ≤ c → c < 49 → C (b + 2) c = W (r + 10 + c)) ∧
  (C (b + 4) 1 = W (r + 6)) ∧
  (C (b + 23) 0 = W (r + 7)) ∧
  (C (b + 4) 2 = W (r + 8)) ∧
  (C (b + 4) 3 = W (r + 9)) ∧
  (∀ i : Nat, (i : Int) < C (b + 4) 1 → ∀ k, 0 ≤ k → k < 8 → C (b + 16 + 2 * i) k = W (r + 59 + 4 * k + (i : Int))) ∧
  (∀ i, 0 ≤ i → i < C (b + 23) 0 → (C (b + 24) i = W (r + 91 + i) ∧ C (b + 25) i = W (r + 99 + i)) ∧ (0 ≤ C (b + 24) i ∧ C (b + 24) i ≤ 3) ∧ (0 ≤ C (b + 25) i ∧ C (b + 25) i ≤ 15)) ∧
  (∀ i : Nat, (i : Int) < C (b + 4) 3 → RowOk C b (rowA C b i) i W r K) ∧
  (FlNo C b) ∧
  (0 ≤ C (b + 4) 1 ∧ C (b + 4) 1 ≤ 4) ∧
  (0 ≤ C (b + 4) 2 ∧ C (b + 4) 2 ≤ 30 * (K : Int)) ∧
  (0 ≤ C (b + 4) 3 ∧ C (b + 4) 3 ≤ 8 ∧ C (b + 4) 3 ≤ C (b + 4) 2) ∧
  (0 ≤ C (b + 23) 0 ∧ C (b + 23) 0 ≤ 8) ∧
  (∀ i : Nat, (i : Int) < C (b + 4) 1 → TrB C (b + 16 + 2 * i) K)
theorem Rg.f (h : Rg C b W r K) : ∀ k, 0 ≤ k → k < 6 → C (b + 1) k = W (r + k) := h.1
theorem Rg.t (h : Rg C b W r K) : ∀ c, 0 ≤ c → c < 49 → C (b + 2) c = W (r + 10 + c) := h.2.1
theorem Rg.z (h : Rg C b W r K) : C (b + 4) 1 = W (r + 6) := h.2.2.1
theorem Rg.m (h : Rg C b W r K) : C (b + 23) 0 = W (r + 7) := h.2.2.2.1
theorem Rg.n (h : Rg C b W r K) : C (b + 4) 2 = W (r + 8) := h.2.2.2.2.1
theorem Rg.u (h : Rg C b W r K) : C (b + 4) 3 = W (r + 9) := h.2.2.2.2.2.1
theorem Rg.s (h : Rg C b W r K) : ∀ i : Nat, (i : Int) < C (b + 4) 1 → ∀ k, 0 ≤ k → k < 8 → C (b + 16 + 2 * i) k = W (r + 59 + 4 * k + (i : Int)) := h.2.2.2.2.2.2.1
theorem Rg.no (h : Rg C b W r K) : ∀ i, 0 ≤ i → i < C (b + 23) 0 → (C (b + 24) i = W (r + 91 + i) ∧ C (b + 25) i = W (r + 99 + i)) ∧ (0 ≤ C (b + 24) i ∧ C (b + 24) i ≤ 3) ∧ (0 ≤ C (b + 25) i ∧ C (b + 25) i ≤ 15) := h.2.2.2.2.2.2.2.1
theorem Rg.p (h : Rg C b W r K) : ∀ i : Nat, (i : Int) < C (b + 4) 3 → RowOk C b (rowA C b i) i W r K := h.2.2.2.2.2.2.2.2.1
theorem Rg.fl (h : Rg C b W r K) : FlNo C b := h.2.2.2.2.2.2.2.2.2.1
theorem Rg.z4 (h : Rg C b W r K) : 0 ≤ C (b + 4) 1 ∧ C (b + 4) 1 ≤ 4 := h.2.2.2.2.2.2.2.2.2.2.1
theorem Rg.n4 (h : Rg C b W r K) : 0 ≤ C (b + 4) 2 ∧ C (b + 4) 2 ≤ 30 * (K : Int) := h.2.2.2.2.2.2.2.2.2.2.2.1
theorem Rg.u8 (h : Rg C b W r K) : 0 ≤ C (b + 4) 3 ∧ C (b + 4) 3 ≤ 8 ∧ C (b + 4) 3 ≤ C (b + 4) 2 := h.2.2.2.2.2.2.2.2.2.2.2.2.1
theorem Rg.m8 (h : Rg C b W r K) : 0 ≤ C (b + 23) 0 ∧ C (b + 23) 0 ≤ 8 := h.2.2.2.2.2.2.2.2.2.2.2.2.2.1
theorem Rg.tr (h : Rg C b W r K) : ∀ i : Nat, (i : Int) < C (b + 4) 1 → TrB C (b + 16 + 2 * i) K := h.2.2.2.2.2.2.2.2.2.2.2.2.2.2
/-- a copy, but for what lies elsewhere -/
def CpQ (M M' : Nat → Int → Int) (o b : Nat) : Prop :=
  (M' (b + 1) 0 = M (o + 1) 0 ∧ M' (b + 1) 1 = M (o + 1) 1 ∧ M' (b + 1) 2 = M (o + 1) 2 ∧ M' (b + 1) 3 = M (o + 1) 3 ∧ M' (b + 1) 4 = M (o + 1) 4 ∧ M' (b + 1) 5 = M (o + 1) 5 ∧ M' (b + 1) 8 = M (o + 1) 8) ∧ (∀ c, 0 ≤ c → c < 49 → M' (b + 2) c = M (o + 2) c) ∧
  (M' (b + 4) 1 = M (o + 4) 1 ∧ M' (b + 4) 2 = M (o + 4) 2 ∧ M' (b + 4) 3 = M (o + 4) 3) ∧ (∀ i, i < 4 → ∀ k, 0 ≤ k → k < 8 → M' (b + 16 + 2 * i) k = M (o + 16 + 2 * i) k) ∧ (∀ i, i < 8 → ∀ k, 0 ≤ k → k < 9 → M' (b + 7 + i) k = M (o + 7 + i) k) ∧
  M' (b + 23) 0 = M (o + 23) 0 ∧ (∀ c, 0 ≤ c → c < 8 → M' (b + 24) c = M (o + 24) c ∧ M' (b + 25) c = M (o + 25) c)
theorem CpSt.q (h : CpSt C C' o b) : CpQ C C' o b := ⟨h.1, h.2.1, h.2.2.1, h.2.2.2.1, h.2.2.2.2.1, h.2.2.2.2.2.1, h.2.2.2.2.2.2.1⟩
/-- a copy at another place is told by the same numbers -/
theorem Rg.copy {K' : Nat} (h : Rg C o W r K) (hc : CpQ C C' o b) (hK : K ≤ K') : Rg C' b W r K' := by
  obtain ⟨⟨c0, c1, c2, c3, c4, c5, c8⟩, ct, ⟨b1, b2, b3⟩, cs, cp, cn, cw⟩ := hc
  have z4 := h.z4
  have u8 := h.u8
  have n4 := h.n4
  have m8 := h.m8
  unfold Rg
  refine ⟨?_, ?_, ?_, ?_, ?_, ?_, ?_, ?_, ?_, ?_, ?_, ?_, ?_, ?_, ?_⟩
  · intro k k0 k6
    have e := h.f k k0 k6
    rcases (show k = 0 ∨ k = 1 ∨ k = 2 ∨ k = 3 ∨ k = 4 ∨ k = 5 by omega) with rfl | rfl | rfl | rfl | rfl | rfl
    · rw [c0]; exact e
    · rw [c1]; exact e
    · rw [c2]; exact e
    · rw [c3]; exact e
    · rw [c4]; exact e
    · rw [c5]; exact e
  · intro c h0 h1
    rw [ct c h0 h1]
    exact h.t c h0 h1
  · rw [b1]; exact h.z
  · rw [cn]; exact h.m
  · rw [b2]; exact h.n
  · rw [b3]; exact h.u
  · intro i hi k k0 k8
    rw [b1] at hi
    rw [cs i (by omega) k k0 k8]
    exact h.s i hi k k0 k8
  · intro i i0 i1
    rw [cn] at i1
    have e := cw i i0 (by omega)
    rw [e.1, e.2]
    exact h.no i i0 i1
  · intro i hi
    rw [b3] at hi
    have e := h.p i hi
    have ha : rowA C' b i = b + 7 + ((C (o + 4) 2 - C (o + 4) 3 + (i : Int)) % 8).toNat := by unfold rowA; rw [b2, b3]
    have hk : ((C (o + 4) 2 - C (o + 4) 3 + (i : Int)) % 8).toNat < 8 := by omega
    unfold rowA at e
    rw [ha]
    unfold RowOk at e ⊢
    rw [b2, b3, cp _ hk 0 (by decide) (by decide)]
    obtain ⟨e1, e2, e3, e4⟩ := e
    refine ⟨e1, e2, e3, fun s hs => ?_⟩
    rw [cp _ hk (1 + 2 * (s : Int)) (by omega) (by omega), cp _ hk (2 + 2 * (s : Int)) (by omega) (by omega)]
    obtain ⟨q1, q2, q3⟩ := e4 s hs
    exact ⟨q1, by omega, by omega⟩
  · exact FlNo_pw c0 c1 c2 c3 c4 c5 c8 ct h.fl
  · rw [b1]; exact z4
  · rw [b2]; omega
  · rw [b3, b2]; exact u8
  · rw [cn]; exact m8
  · intro i hi
    rw [b1] at hi
    exact TrB_pw hK (cs i (by omega)) (h.tr i hi)
/-- the same numbers elsewhere tell the same state -/
theorem Rg.words (h : Rg C b W x K) (hw : ∀ k, 0 ≤ k → k < 187 → W' (y + k) = W (x + k)) : Rg C b W' y K := by
  have z4 := h.z4
  have u8 := h.u8
  have m8 := h.m8
  have hw' : ∀ j : Int, y ≤ j → j < y + 187 → W' j = W (x + (j - y)) := fun j h0 h1 => by
    have := hw (j - y) (by omega) (by omega)
    rw [show y + (j - y) = j by omega] at this
    exact this
  unfold Rg
  refine ⟨?_, ?_, ?_, ?_, ?_, ?_, ?_, ?_, ?_, h.fl, z4, h.n4, u8, m8, h.tr⟩
  · intro k k0 k6
    rw [hw k k0 (by omega)]
    exact h.f k k0 k6
  · intro c c0 c1
    rw [hw' _ (by omega) (by omega), show x + (y + 10 + c - y) = x + 10 + c by omega]
    exact h.t c c0 c1
  · rw [hw _ (by omega) (by omega)]; exact h.z
  · rw [hw _ (by omega) (by omega)]; exact h.m
  · rw [hw _ (by omega) (by omega)]; exact h.n
  · rw [hw _ (by omega) (by omega)]; exact h.u
  · intro i hi k k0 k8
    rw [hw' _ (by omega) (by omega), show x + (y + 59 + 4 * k + (i : Int) - y) = x + 59 + 4 * k + i by omega]
    exact h.s i hi k k0 k8
  · intro i i0 i1
    rw [hw' _ (by omega) (by omega), hw' (y + 99 + i) (by omega) (by omega), show x + (y + 91 + i - y) = x + 91 + i by omega, show x + (y + 99 + i - y) = x + 99 + i by omega]
    exact h.no i i0 i1
  · intro i hi
    have e := h.p i hi
    unfold RowOk at e ⊢
    obtain ⟨e1, e2, e3, e4⟩ := e
    rw [hw' (y + 107 + 10 * (i : Int) + 9) (by omega) (by omega), hw' (y + 107 + 10 * (i : Int) + 8) (by omega) (by omega), show x + (y + 107 + 10 * (i : Int) + 9 - y) = x + 107 + 10 * i + 9 by omega, show x + (y + 107 + 10 * (i : Int) + 8 - y) = x + 107 + 10 * i + 8 by omega]
    refine ⟨e1, e2, e3, fun s hs => ?_⟩
    rw [hw' (y + 107 + 10 * (i : Int) + s) (by omega) (by omega), hw' (y + 107 + 10 * (i : Int) + 4 + s) (by omega) (by omega), show x + (y + 107 + 10 * (i : Int) + s - y) = x + 107 + 10 * i + s by omega, show x + (y + 107 + 10 * (i : Int) + 4 + s - y) = x + 107 + 10 * i + 4 + s by omega]
    exact e4 s hs
/-- what is elsewhere does not matter -/
theorem Rg.cg {K' : Nat} (h : Rg C b W r K) (hc : ∀ a, b ≤ a → a < b + 26 → a ≠ b + 3 → C' a = C a) (hK : K ≤ K') : Rg C' b W r K' := by
  have e1 := hc (b + 1) (by omega) (by omega) (by omega)
  have e2 := hc (b + 2) (by omega) (by omega) (by omega)
  have e4 := hc (b + 4) (by omega) (by omega) (by omega)
  have e23 := hc (b + 23) (by omega) (by omega) (by omega)
  have e24 := hc (b + 24) (by omega) (by omega) (by omega)
  have e25 := hc (b + 25) (by omega) (by omega) (by omega)
  refine h.copy (b := b) ?_ hK
  unfold CpQ
  rw [e1, e2, e4, e23, e24, e25]
  exact ⟨⟨rfl, rfl, rfl, rfl, rfl, rfl, rfl⟩, fun _ _ _ => rfl, ⟨rfl, rfl, rfl⟩, fun i hi k _ _ => by rw [hc (b + 16 + 2 * i) (by omega) (by omega) (by omega)], fun i hi k _ _ => by rw [hc (b + 7 + i) (by omega) (by omega) (by omega)], rfl, fun _ _ _ => ⟨rfl, rfl⟩⟩
end Rel
