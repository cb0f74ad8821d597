/-! NIGHTS, one behind another -/
section Seq
theorem seq_of {α : Type} {P : Nat → α → Prop} {R : Nat → α → α → Prop} {c : α} (h0 : P 0 c) : ∀ n : Nat, (∀ i d, i < n → P i d → ∃ d', P (i + 1) d' ∧ R i d d') → ∃ D : Nat → α, D 0 = c ∧ (∀ i, i ≤ n → P i (D i)) ∧ ∀ i, i < n → R i (D i) (D (i + 1))
  | 0, _ => ⟨fun _ => c, rfl, fun i hi => by rw [Nat.le_zero.mp hi]; exact h0, fun i hi => absurd hi (Nat.not_lt_zero i)⟩
  | n + 1, hs => by
    obtain ⟨D, d0, d1, d2⟩ := seq_of h0 n (fun i d hi => hs i d (by omega))
    obtain ⟨x, x1, x2⟩ := hs n (D n) (by omega) (d1 n (Nat.le_refl n))
    refine ⟨fun i => if i ≤ n then D i else x, ?_, fun i hi => ?_, fun i hi => ?_⟩
    · show (if 0 ≤ n then D 0 else x) = c
      rw [if_pos (Nat.zero_le n)]
      exact d0
    · show P i (if i ≤ n then D i else x)
      by_cases h : i ≤ n
      · rw [if_pos h]; exact d1 i h
      · rw [if_neg h]
        have e : i = n + 1 := by omega
        rw [e]; exact x1
    · show R i (if i ≤ n then D i else x) (if i + 1 ≤ n then D (i + 1) else x)
      rw [if_pos (show i ≤ n by omega)]
      by_cases h : i + 1 ≤ n
      · rw [if_pos h]; exact d2 i (by omega)
      · rw [if_neg h]
        have e : i = n := by omega
        rw [e]; exact x2
end Seq
section Nights
variable {S : List Int} {T : List Sh} {M N C C' : Nat → Int → Int} {a b b' K j : Nat} {v : Int} {h : Hp}
def TrN (C : Nat → Int → Int) (a K j : Nat) : Prop := ((0 ≤ C a 0 ∧ C a 0 ≤ 5) ∧ (0 ≤ C a 1 ∧ C a 1 ≤ 120) ∧ (0 ≤ C a 2 ∧ C a 2 ≤ 9) ∧ (0 ≤ C a 3 ∧ C a 3 ≤ 20) ∧ (0 ≤ C a 4 ∧ C a 4 ≤ 60) ∧ (-1 ≤ C a 5 ∧ C a 5 ≤ 120)) ∧ (0 ≤ C a 6 ∧ C a 6 ≤ 30 * (K : Int) + (j : Int)) ∧ (0 ≤ C a 7 ∧ C a 7 ≤ 120000 * (K : Int) + 4000 * (j : Int))
theorem TrN.ok (h : TrN C a K j) (hK : K ≤ 100) (hj : j ≤ 100) : TrOk C a := by
  obtain ⟨⟨h0, h1, h2, h3, h4, h5⟩, h6, h7⟩ := h
  exact ⟨h0, h1, h2, h3, h4, h5, by omega, by omega⟩
def NtOk (C : Nat → Int → Int) (b K j : Nat) : Prop := FlNo C b ∧ (0 ≤ C (b + 4) 1 ∧ C (b + 4) 1 ≤ 4) ∧ (0 ≤ C (b + 4) 2 ∧ C (b + 4) 2 ≤ 30 * (K : Int) + (j : Int)) ∧ (0 ≤ C (b + 4) 3 ∧ C (b + 4) 3 ≤ 8 ∧ C (b + 4) 3 ≤ C (b + 4) 2) ∧ ∀ i : Nat, (i : Int) < C (b + 4) 1 → TrN C (b + 16 + 2 * i) K j
theorem NtOk.be (h : NtOk C b K j) (hK : K ≤ 100) (hj : j ≤ 100) : BeOk C b := by
  obtain ⟨-, h1, h2, h3, h4⟩ := h
  exact ⟨h1, by omega, by omega, fun i hi => (h4 i hi).ok hK hj⟩
theorem Rg.nt {W : Int → Int} {r : Int} (h : Rg C b W r K) : NtOk C b K 0 := by
  have h2 := h.n4
  refine ⟨h.fl, h.z4, by omega, h.u8, fun i hi => ?_⟩
  obtain ⟨t1, t2, t3⟩ := h.tr i hi
  exact ⟨t1, by omega, by omega⟩
theorem FlNo.walk (f : FlOk C b) (hk : ∀ k, k ≠ 8 → C' (b + 1) k = C (b + 1) k) (h2 : C' (b + 2) = C (b + 2)) (hv : WayIs C b (C (b + 1) 3).toNat (C (b + 1) 2).toNat v) (h8 : C' (b + 1) 8 = 2 * v) : FlNo C' b := by
  refine ⟨?_, Or.inr ⟨v, ?_, h8⟩⟩
  · unfold FlOk at f ⊢
    rw [hk 0 (by decide), hk 1 (by decide), hk 2 (by decide), hk 3 (by decide), hk 4 (by decide), hk 5 (by decide), h2]
    exact f
  · rw [hk 3 (by decide), hk 2 (by decide), WayIs_cg (M := C) (hk 0 (by decide)) (hk 1 (by decide)) (hk 4 (by decide)) h2]
    exact hv
theorem NtOk.wayIn (h : NtOk C b K j) (hv : WayIs C b (C (b + 1) 3).toNat (C (b + 1) 2).toNat v) : 0 ≤ v ∧ v ≤ 200 := by
  have f2 := h.1.1.2.2.1
  have f3 := h.1.1.2.2.2.1
  exact WayIs.le h.1.1 (by omega) (by omega) hv
theorem NtOk.spend (h : NtOk C b K j) (hK : K ≤ 100) (hj : j ≤ 100) (hv : WayIs C b (C (b + 1) 3).toNat (C (b + 1) 2).toNat v) (hp : SpendP C C' b v (nightV C b)) : NtOk C' b K (j + 1) := by
  have v2 := h.wayIn hv
  have ni := nightV_in (h.be hK hj)
  obtain ⟨⟨f, w⟩, z, n, u, t⟩ := h
  obtain ⟨⟨p1, p2⟩, p3, ⟨q1, q2, q3⟩, pr, pt, pf⟩ := hp
  refine ⟨FlNo.walk f p1 (pf (b + 2) (by omega) (by omega) (by omega) (by omega) (by omega) (fun i _ => by omega)) hv p2, ?_, ?_, ?_, fun i hi => ?_⟩
  · rw [q1]; exact z
  · rw [q2]; omega
  · rw [q2, q3]
    split <;> omega
  · rw [q1] at hi
    obtain ⟨t1, t2, t3⟩ := pt i hi
    have ti := t i hi
    have hn := nCost_in (M := C) (b := b) (s := i) (p := nightV C b) (wk := 2 * v) (ti.ok hK hj) (by omega) (by omega) (by omega) (by omega)
    obtain ⟨⟨h0, h1, h2, h3, h4, h5⟩, h6, h7⟩ := ti
    unfold TrN
    rw [t1 0 (by decide) (by decide), t1 1 (by decide) (by decide), t1 2 (by decide) (by decide), t1 3 (by decide) (by decide), t1 4 (by decide) (by decide), t1 5 (by decide) (by decide), t2, t3]
    refine ⟨⟨h0, h1, h2, h3, h4, h5⟩, ?_, by omega⟩
    split <;> omega
/-- what nights leave as it was -/
def Ngt (C D : Nat → Int → Int) (b : Nat) : Prop := (∀ k, k ≠ 8 → D (b + 1) k = C (b + 1) k) ∧ D (b + 2) = C (b + 2) ∧ D (b + 4) 1 = C (b + 4) 1 ∧ (∀ a, a ≤ b ∨ (b + 23 ≤ a ∧ a ≤ b + 25) ∨ b + 27 ≤ a → D a = C a)
theorem Ngt.refl : Ngt C C b := ⟨fun _ _ => rfl, rfl, rfl, fun _ _ => rfl⟩
theorem Ngt.spend {D D' : Nat → Int → Int} {p : Int × Int × Int} (h : Ngt C D b) (hz : D (b + 4) 1 ≤ 4) (hp : SpendP D D' b v p) : Ngt C D' b := by
  obtain ⟨h1, h2, h3, h4⟩ := h
  obtain ⟨⟨p1, p2⟩, p3, ⟨q1, q2, q3⟩, pr, pt, pf⟩ := hp
  refine ⟨fun k hk => by rw [p1 k hk, h1 k hk], ?_, by rw [q1, h3], fun a ha => ?_⟩
  · rw [pf (b + 2) (by omega) (by omega) (by omega) (by omega) (by omega) (fun i _ => by omega), h2]
  · rw [pf a (by omega) (by omega) (by omega) (by omega) (by omega) (fun i _ => by omega), h4 a ha]
theorem nights_of (hS : isSt T b) (hK : K ≤ 100) (n : Nat) (hn : n ≤ 70) (h : NtOk C b K 0) : ∃ (D : Nat → Nat → Int → Int) (v : Int), D 0 = C ∧ WayIs C b (C (b + 1) 3).toNat (C (b + 1) 2).toNat v ∧ (0 ≤ v ∧ v ≤ 200) ∧ (∀ i, i ≤ n → NtOk (D i) b K i ∧ Ngt C (D i) b) ∧ ∀ i, i < n → Cl S 57 [vR b] (T, D i) (some (vI (nightV (D i) b).2.1), (T, D (i + 1))) ∧ SpendP (D i) (D (i + 1)) b v (nightV (D i) b) := by
  obtain ⟨M', v, -, hv, -⟩ := c_spend (S := S) hS h.1.1 h.1.2 (h.be hK (by omega))
  obtain ⟨D, d0, d1, d2⟩ := seq_of (P := fun i D => NtOk D b K i ∧ Ngt C D b) (R := fun i D D' => Cl S 57 [vR b] (T, D) (some (vI (nightV D b).2.1), (T, D')) ∧ SpendP D D' b v (nightV D b)) (c := C) ⟨h, Ngt.refl⟩ n (fun i D hi hD => by
    obtain ⟨h1, h2⟩ := hD
    obtain ⟨D', v', c1, hv', sp⟩ := c_spend (S := S) hS h1.1.1 h1.1.2 (h1.be hK (by omega))
    have hv2 : WayIs D b (D (b + 1) 3).toNat (D (b + 1) 2).toNat v := by
      rw [h2.1 3 (by decide), h2.1 2 (by decide), WayIs_cg (M := C) (h2.1 0 (by decide)) (h2.1 1 (by decide)) (h2.1 4 (by decide)) h2.2.1]
      exact hv
    have f3 := h1.1.1.2.2.2.1
    have ev : v' = v := WayIs.uniq h1.1.1 (by omega) hv' hv2
    rw [ev] at sp
    exact ⟨D', ⟨h1.spend hK (by omega) hv2 sp, h2.spend h1.2.1.2 sp⟩, c1, sp⟩)
  exact ⟨D, v, d0, hv, h.wayIn hv, d1, d2⟩
/-- n sleepers are the same, but for what they have paid -/
def Sm7 (n : Nat) (M : Nat → Int → Int) (b : Nat) (M' : Nat → Int → Int) (b' : Nat) : Prop := ∀ i, i < n → ∀ k, 0 ≤ k → k < 7 → M (b + 16 + 2 * i) k = M' (b' + 16 + 2 * i) k
theorem SmB.s7 {n : Nat} {M' : Nat → Int → Int} (h : SmB n M b M' b') : Sm7 n M b M' b' := fun i hi k k0 k7 => h i hi k k0 (by omega)
theorem lstC_p7 {M' : Nat → Int → Int} : ∀ n : Nat, Sm7 n M b M' b' → lstC M b n = lstC M' b' n
  | 0, _ => rfl
  | n + 1, h => by
    unfold lstC
    rw [lstC_p7 n (fun i hi => h i (by omega)), h n (by omega) 6 (by decide) (by decide)]
theorem nightF_p7 {M' : Nat → Int → Int} {l : Int} : ∀ n : Nat, Sm7 n M b M' b' → nightF M b l n = nightF M' b' l n
  | 0, _ => rfl
  | n + 1, h => by
    have e := nightF_p7 (l := l) n (fun i hi => h i (by omega))
    have h0 := h n (by omega) 0 (by decide) (by decide)
    have h1 := h n (by omega) 1 (by decide) (by decide)
    have h4 := h n (by omega) 4 (by decide) (by decide)
    have h5 := h n (by omega) 5 (by decide) (by decide)
    have h6 := h n (by omega) 6 (by decide) (by decide)
    have hw : waitC M (b + 16 + 2 * n) l = waitC M' (b' + 16 + 2 * n) l := by
      unfold waitC
      rw [h0, h1, h4, h6]
    unfold nightF upA
    rw [e, h5, h1, hw]
/-- what a night costs one, by whether there is a cord -/
def nCo (c : Int) (M : Nat → Int → Int) (b : Nat) (p : Int × Int × Int) (wk : Int) (s : Nat) : Int := if p.2.1 = (s : Int) ∧ c = 0 then lightC M (b + 16 + 2 * s) p.1 + ((if p.2.2 = 0 then M (b + 16 + 2 * s) 3 else 0) + wk) else lightC M (b + 16 + 2 * s) p.1
theorem nCo_in {c wk : Int} {p : Int × Int × Int} {s : Nat} (ht : TrOk M (b + 16 + 2 * s)) (t0 : 0 ≤ p.1) (t3 : p.1 ≤ 300) (w0 : 0 ≤ wk) (w4 : wk ≤ 400) : 0 ≤ nCo c M b p wk s ∧ nCo c M b p wk s ≤ 4000 := by
  have hl := lightC_in ht t0 t3
  have h3 := ht.2.2.2.1
  unfold nCo
  split
  · split <;> omega
  · omega
/-- the model goes a night that the class has gone -/
theorem mstep7 (hM : isM T) (hK : K ≤ 100) (hj : j ≤ 100) (hC : NtOk C b K j) (hs : Sm7 (C (b + 4) 1).toNat (V N) 0 C b) (h7 : ∀ i : Nat, (i : Int) < C (b + 4) 1 → 0 ≤ N 84 (i : Int) ∧ N 84 (i : Int) ≤ 1000000000) (h6 : N 77 6 = C (b + 4) 1) (h17 : N 76 17 = v) (h18 : 0 ≤ N 76 18 ∧ N 76 18 ≤ 1) (hp : SpendP C C' b v (nightV C b)) : ∃ P N', Cl S 158 [vR 76] (T, N) (none, (T, P)) ∧ Cl S 160 [vR 76] (T, P) (none, (T, N')) ∧ Sm7 (C (b + 4) 1).toNat (V N') 0 C' b ∧ (∀ i : Nat, (i : Int) < C (b + 4) 1 → N' 84 (i : Int) = N 84 (i : Int) + nCo (N 76 18) C b (nightV C b) (2 * v) i) ∧ N' 76 20 = (nightV C b).2.1 ∧ (∀ k, k ≠ 19 → k ≠ 20 → k ≠ 21 → N' 76 k = N 76 k) ∧ (∀ a, a ≠ 76 → a ≠ 83 → a ≠ 84 → N' a = N a) ∧ (∀ k, C (b + 4) 1 ≤ k → N' 84 k = N 84 k ∧ N' 83 k = N 83 k) := by
  have z := hC.2.1
  have ni := nightV_in (hC.be hK hj)
  have hT : ∀ i : Nat, (i : Int) < C (b + 4) 1 → TrOk (V N) (0 + 16 + 2 * i) := fun i hi => by
    have t := (hC.2.2.2.2 i hi).ok hK hj
    obtain ⟨t0, t1, t2, t3, t4, t5, t6, t7⟩ := t
    have e := hs i (by omega)
    unfold TrOk
    rw [e 0 (by decide) (by decide), e 1 (by decide) (by decide), e 2 (by decide) (by decide), e 3 (by decide) (by decide), e 4 (by decide) (by decide), e 5 (by decide) (by decide), e 6 (by decide) (by decide), V_7]
    exact ⟨t0, t1, t2, t3, t4, t5, t6, h7 i hi⟩
  have cg := c_goNight (S := S) (M := N) hM ⟨by rw [h6]; exact z, fun i hi => hT i (by rw [h6] at hi; exact hi)⟩
  have en : mNight N = nightV C b := by
    show nightF (V N) 0 (lstC (V N) 0 (N 77 6).toNat) (N 77 6).toNat = nightF C b (lstC C b (C (b + 4) 1).toNat) (C (b + 4) 1).toNat
    rw [h6, lstC_p7 _ hs, nightF_p7 _ hs]
  rw [en] at cg
  have g77 : setG N (nightV C b) 77 = N 77 := setG_ne (by decide)
  obtain ⟨N', cp, n1, n2, n3⟩ := c_pays (S := S) (M := setG N (nightV C b)) hM (by rw [g77, h6]; exact z) (fun s hs' => by
    rw [g77] at hs' ⊢
    rw [h6] at hs'
    have t := (hT s hs').2.1
    rw [V_1] at t
    exact t) ⟨by rw [setG_19]; omega, by rw [setG_20, g77, h6]; omega, by rw [setG_k (by decide) (by decide) (by decide)]; exact h18, by rw [setG_21]; exact ni.2.2.2.2.1⟩
  rw [g77, h6] at n1 n2
  have g83 : setG N (nightV C b) 83 = N 83 := setG_ne (by decide)
  have g84 : setG N (nightV C b) 84 = N 84 := setG_ne (by decide)
  have vg : V (setG N (nightV C b)) = V N := V_fn g77 (setG_ne (by decide)) g83 g84
  obtain ⟨-, -, -, -, pt, -⟩ := hp
  have e77 : N' 77 = N 77 := by rw [n3 77 (by decide) (by decide)]; exact g77
  have e82 : N' 82 = N 82 := by rw [n3 82 (by decide) (by decide)]; exact setG_ne (by decide)
  refine ⟨setG N (nightV C b), N', cg, cp, fun i hi k k0 k7 => ?_, fun i hi => ?_, by rw [n3 76 (by decide) (by decide)]; exact setG_20, fun k k1 k2 k3 => by rw [n3 76 (by decide) (by decide)]; exact setG_k k1 k2 k3, fun a a1 a2 a3 => by rw [n3 a a3 a2]; exact setG_ne a1, fun k hk => by rw [← g83, ← g84]; exact n2 k hk⟩
  · have e := hs i hi k k0 k7
    have hi' : (i : Int) < C (b + 4) 1 := by omega
    obtain ⟨t1, t2, t3⟩ := pt i hi'
    rcases (show k < 5 ∨ k = 5 ∨ k = 6 by omega) with hk | rfl | rfl
    · rw [V_k i k hk, e77, t1 k (by omega) (by omega), ← e, V_k i k hk]
    · rw [V_5, e82, t1 5 (by decide) (by decide), ← e, V_5]
    · rw [V_6, (n1 i hi').2, t2, ← e, V_6, setG_20, g83]
  · rw [(n1 i hi).1, g84]
    congr 1
    have e1 := hs i (by omega) 1 (by decide) (by decide)
    have e2 := hs i (by omega) 2 (by decide) (by decide)
    have e3 := hs i (by omega) 3 (by decide) (by decide)
    rw [V_3] at e3
    have el : lightC (V N) (0 + 16 + 2 * i) (nightV C b).1 = lightC C (b + 16 + 2 * i) (nightV C b).1 := by
      unfold lightC
      rw [e1, e2]
    unfold mCost nCo
    rw [setG_19, setG_20, setG_21, setG_k (by decide) (by decide) (by decide), setG_k (by decide) (by decide) (by decide), vg, g77, h17, e3, el]
/-- .. by the same purse -/
theorem mstep (hM : isM T) (hK : K ≤ 100) (hj : j ≤ 100) (hC : NtOk C b K j) (hs : SmB (C (b + 4) 1).toNat (V N) 0 C b) (h6 : N 77 6 = C (b + 4) 1) (h17 : N 76 17 = v) (h18 : N 76 18 = C (b + 1) 5) (hp : SpendP C C' b v (nightV C b)) : ∃ P N', Cl S 158 [vR 76] (T, N) (none, (T, P)) ∧ Cl S 160 [vR 76] (T, P) (none, (T, N')) ∧ SmB (C (b + 4) 1).toNat (V N') 0 C' b ∧ N' 76 20 = (nightV C b).2.1 ∧ (∀ k, k ≠ 19 → k ≠ 20 → k ≠ 21 → N' 76 k = N 76 k) ∧ (∀ a, a ≠ 76 → a ≠ 83 → a ≠ 84 → N' a = N a) ∧ (∀ k, C (b + 4) 1 ≤ k → N' 84 k = N 84 k ∧ N' 83 k = N 83 k) := by
  have h84 : ∀ i : Nat, (i : Int) < C (b + 4) 1 → N 84 (i : Int) = C (b + 16 + 2 * i) 7 := fun i hi => by
    have e := hs i (by omega) 7 (by decide) (by decide)
    rw [V_7] at e
    exact e
  obtain ⟨P, N', c1, c2, s1, s2, s3, s4, s5, s6⟩ := mstep7 (S := S) (C' := C') (v := v) hM hK hj hC hs.s7 (fun i hi => by rw [h84 i hi]; exact ((hC.2.2.2.2 i hi).ok hK hj).2.2.2.2.2.2.2) h6 h17 (by rw [h18]; exact hC.1.1.2.2.2.2.2.1) hp
  refine ⟨P, N', c1, c2, fun i hi k k0 k8 => ?_, s3, s4, s5, s6⟩
  by_cases hk : k = 7
  · subst hk
    have hi' : (i : Int) < C (b + 4) 1 := by omega
    rw [V_7, s2 i hi', h84 i hi', (hp.2.2.2.2.1 i hi').2.2, h18]
    rfl
  · exact s1 i hi k k0 (by omega)
end Nights
