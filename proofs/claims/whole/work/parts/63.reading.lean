/-! WHAT IF; READING -/
section WhatIf
variable {S : List Int} {T : List Sh} {M N C C' D X : Nat → Int → Int} {a b b' K j : Nat} {v : Int} {h : Hp}
theorem NtOk.cg (nt : NtOk D b K j) (h1 : C (b + 1) = D (b + 1)) (h2 : C (b + 2) = D (b + 2)) (h4 : C (b + 4) = D (b + 4)) (ht : ∀ i : Nat, (i : Int) < D (b + 4) 1 → TrN C (b + 16 + 2 * i) K j) : NtOk C b K j := by
  obtain ⟨f, z, n, u, t⟩ := nt
  unfold NtOk
  rw [h4]
  exact ⟨FlNo_pw (o := b) (by rw [h1]) (by rw [h1]) (by rw [h1]) (by rw [h1]) (by rw [h1]) (by rw [h1]) (by rw [h1]) (fun c _ _ => by rw [h2]) f, z, n, u, ht⟩
theorem nCost_pw {p : Int × Int × Int} {wk : Int} {s : Nat} (h5 : C (b + 1) 5 = C' (b' + 1) 5) (hl : ∀ k, 0 ≤ k → k < 8 → C (b + 16 + 2 * s) k = C' (b' + 16 + 2 * s) k) : nCost C b p wk s = nCost C' b' p wk s := by
  unfold nCost
  rw [h5, hl 3 (by decide) (by decide), lightC_pw hl]
theorem nightV_pw (h1 : C (b + 4) 1 = C' (b' + 4) 1) (hs : SmB (C (b + 4) 1).toNat C b C' b') : nightV C b = nightV C' b' := by
  show nightF C b (lstC C b (C (b + 4) 1).toNat) (C (b + 4) 1).toNat = nightF C' b' (lstC C' b' (C' (b' + 4) 1).toNat) (C' (b' + 4) 1).toNat
  rw [← h1, lstC_pw _ hs, nightF_pw _ hs]
/-- the class foresees a night that might be -/
theorem whatif_c (hS : isSt T b) (hK : K ≤ 100) (hj : j ≤ 100) (nt : NtOk D b K j) (x1 : D (b + 4) 1 = X (b + 4) 1) (x5 : D (b + 1) 5 = X (b + 1) 5) (hx : SmB (D (b + 4) 1).toNat D b X b) (hv : WayIs D b (D (b + 1) 3).toNat (D (b + 1) 2).toNat v) : ∃ D', Cl S 56 [vR b] (T, D) (none, (T, D')) ∧ NtOk D' b K j ∧ (∀ a, a ≠ b + 1 → a ≠ b + 3 → a ≠ b + 26 → D' a = D a) ∧ (∀ k, k ≠ 8 → D' (b + 1) k = D (b + 1) k) ∧ (D' (b + 26) 0 = (nightV X b).1 ∧ D' (b + 26) 1 = (nightV X b).2.1 ∧ D' (b + 26) 2 = (nightV X b).2.2) ∧ (∀ (s : Nat) (Q : Nat → Int → Int), (s : Int) < D (b + 4) 1 → (∀ a, b ≤ a → a < b + 27 → Q a = D' a) → Cl S 58 [vR b, vI (s : Int)] (T, Q) (some (vI (nCost X b (nightV X b) (2 * v) s)), (T, Q))) := by
  have hb := nt.be hK hj
  have ni := nightV_in hb
  obtain ⟨D', c1, fr, fk, ⟨v', v1, v2⟩, n0, n1, n2⟩ := c_foresee (S := S) hS nt.1.1 nt.1.2 hb
  have f3 := nt.1.1.2.2.2.1
  have ev : v' = v := WayIs.uniq nt.1.1 (by omega) v1 hv
  rw [ev] at v2
  have z := nt.2.1
  have en := nightV_pw x1 hx
  have nt' : NtOk D' b K j := by
    obtain ⟨f, z, n, u, t⟩ := nt
    unfold NtOk
    rw [fr (b + 4) (by omega) (by omega) (by omega)]
    refine ⟨FlNo.walk f.1 fk (fr (b + 2) (by omega) (by omega) (by omega)) hv v2, z, n, u, fun i hi => ?_⟩
    unfold TrN
    rw [fr (b + 16 + 2 * i) (by omega) (by omega) (by omega)]
    exact t i hi
  refine ⟨D', c1, nt', fr, fk, by rw [← en]; exact ⟨n0, n1, n2⟩, fun s Q hs hQ => ?_⟩
  have t1 : Q (b + 16 + 2 * s) = D (b + 16 + 2 * s) := by rw [hQ _ (by omega) (by omega)]; exact fr _ (by omega) (by omega) (by omega)
  have q26 := hQ (b + 26) (by omega) (by omega)
  have q1 := hQ (b + 1) (by omega) (by omega)
  rw [← q26] at n0 n1 n2
  have e5 : Q (b + 1) 5 = D (b + 1) 5 := by rw [q1]; exact fk 5 (by decide)
  rw [← q1] at v2
  have cc := c_cost (S := S) (M := Q) (b := b) (s := s) hS ⟨by rw [n0]; omega, by rw [n1]; omega, by rw [n2]; exact ni.2.2.2.2.1⟩ (by omega) (TrOk_cg t1 ((nt.2.2.2.2 s hs).ok hK hj)) (by rw [e5]; exact nt.1.1.2.2.2.2.2.1)
  rw [costV_n n0 n1 n2 e5 v2 t1, en, nCost_pw x5 (hx s (by omega))] at cc
  exact cc
/-- .. and so does the model -/
theorem whatif_m {z : Nat} (hM : isM T) (hz : z ≤ 4) (x1 : X (b + 4) 1 = (z : Int)) (ht : ∀ s : Nat, s < z → TrOk X (b + 16 + 2 * s)) (h5 : 0 ≤ X (b + 1) 5 ∧ X (b + 1) 5 ≤ 1) (h6 : N 77 6 = (z : Int)) (hs : SmB z (V N) 0 X b) (h17 : N 76 17 = v) (h18 : N 76 18 = X (b + 1) 5) : Cl S 158 [vR 76] (T, N) (none, (T, setG N (nightV X b))) ∧ (∀ (s : Nat) (Q : Nat → Int → Int), s < z → (∀ a, a = 76 ∨ a = 77 ∨ a = 82 ∨ a = 83 ∨ a = 84 → Q a = setG N (nightV X b) a) → Cl S 159 [vR 76, vI (s : Int)] (T, Q) (some (vI (nCost X b (nightV X b) (2 * v) s)), (T, Q))) ∧ (0 ≤ (nightV X b).1 ∧ (nightV X b).1 ≤ 300 ∧ -1 ≤ (nightV X b).2.1 ∧ (nightV X b).2.1 < (z : Int)) := by
  have hT : ∀ i : Nat, i < z → TrOk (V N) (0 + 16 + 2 * i) := fun i hi => TrOk_pw (hs i hi) (ht i hi)
  have cg := c_goNight (S := S) (M := N) hM ⟨by rw [h6]; omega, fun i hi => hT i (by rw [h6] at hi; omega)⟩
  have en : mNight N = nightV X b := by
    show nightF (V N) 0 (lstC (V N) 0 (N 77 6).toNat) (N 77 6).toNat = nightF X b (lstC X b (X (b + 4) 1).toNat) (X (b + 4) 1).toNat
    rw [h6, x1, Int.toNat_natCast, lstC_pw _ hs, nightF_pw _ hs]
  rw [en] at cg
  have l0 := lstC_in (M := X) (b := b) (n := z) hz ht
  have ni := nightF_in (M := X) (b := b) (n := z) (l := lstC X b z) l0.1 (fun i hi => ⟨ht i hi, lstC_le hi (fun j hj => by
    have := (ht j hj).2.2.2.2.2.2.1
    omega)⟩)
  have en2 : nightF X b (lstC X b z) z = nightV X b := by
    show _ = nightF X b (lstC X b (X (b + 4) 1).toNat) (X (b + 4) 1).toNat
    rw [x1, Int.toNat_natCast]
  rw [en2] at ni
  refine ⟨cg, fun s Q hs' hQ => ?_, ⟨ni.1, ni.2.1, ni.2.2.1, ni.2.2.2.1⟩⟩
  have g77 : Q 77 = N 77 := by rw [hQ 77 (by decide)]; exact setG_ne (by decide)
  have g76 := hQ 76 (by decide)
  have vg : V Q = V N := V_fn g77 (by rw [hQ 82 (by decide)]; exact setG_ne (by decide)) (by rw [hQ 83 (by decide)]; exact setG_ne (by decide)) (by rw [hQ 84 (by decide)]; exact setG_ne (by decide))
  have cm := c_costOf (S := S) (M := Q) (s := s) hM (by omega) (by
    rw [g77]
    have t := (hT s hs').2.1
    rw [V_1] at t
    exact t) (by rw [g76, setG_19]; omega) (by rw [g76, setG_20]; omega) (by rw [g76, setG_k (by decide) (by decide) (by decide), h18]; exact h5) (by rw [g76, setG_21]; exact ni.2.2.2.2.1)
  rw [mCost_is (M := X) (b := b) (p := nightV X b) (wk := 2 * v) (by rw [g76]; exact setG_19) (by rw [g76]; exact setG_20) (by rw [g76]; exact setG_21) (by rw [g76, setG_k (by decide) (by decide) (by decide)]; exact h18) (by rw [g76, setG_k (by decide) (by decide) (by decide), h17]) (by rw [vg]; exact hs s hs')] at cm
  exact cm
end WhatIf
section Reading
variable {S : List Int} {T : List Sh} {M N C C' D X : Nat → Int → Int} {a b b' K j : Nat} {v : Int} {h : Hp}
def bestS (f : Nat → Int) : Nat → Int × Int
  | 0 => (0, f 0)
  | m + 1 => if (bestS f m).2 < f (m + 1) then ((m + 1 : Nat), f (m + 1)) else bestS f m
theorem bestS_in {f : Nat → Int} {B : Int} : ∀ m : Nat, (∀ i, i ≤ m → -B ≤ f i ∧ f i ≤ B) → (0 ≤ (bestS f m).1 ∧ (bestS f m).1 ≤ (m : Int)) ∧ -B ≤ (bestS f m).2 ∧ (bestS f m).2 ≤ B
  | 0, h => by
    have := h 0 (by omega)
    unfold bestS
    exact ⟨⟨Int.le_refl 0, Int.le_refl 0⟩, this⟩
  | m + 1, h => by
    have ih := bestS_in m (fun i hi => h i (by omega))
    have := h (m + 1) (by omega)
    unfold bestS
    split
    · exact ⟨⟨by simp only; omega, by simp only; omega⟩, this⟩
    · exact ⟨by omega, ih.2⟩
/-- what reading till a minute is to one -/
def joyV (X : Nat → Int → Int) (v m : Int) (i : Nat) : Int := 2 * (if (nightV X 28).1 < m then (nightV X 28).1 else m) - nCost X 28 (nightV X 28) (2 * v) i
theorem op_reading {s : Int} (g : Gl T M K) (hK : K ≤ 100) (is : I32 s) : Op S 87 172 [vI s] T M K := by
  have hX := g.x
  have hM := g.m
  have hz := g.sz
  have b77 : um M 59 0 (M 59 0 + 1) 77 = M 77 := um_fn (by decide)
  by_cases h1 : 0 ≤ s ∧ s ≤ M 5 1 - 1
  case neg =>
    refine Op.bad1 (v := -2) (k := 0) g (by decide) (by decide) (by decide) ⟨_, rfl, ?_⟩ ⟨_, rfl, ?_⟩
    · refine Rn.cal rfl (X_ald rfl <| X_gr 7 0 hX.ob ⟨rfl, rfl⟩ rfl rfl <| X_gr 6 1 hX.s1.st ⟨rfl, rfl⟩ rfl rfl <| X_ild rfl <| X_nil) (vs := [_, _]) (rest := []) rfl rfl rfl (rcv_v hX.s1.be (by decide)) (c_bhN hX hz.2 is h1) ?_
      refine Rn.ine rfl (X_nil) (by first | omega | (simp (disch := omega) only [um_eq, um_na, um_ni, Int.toNat_natCast]; omega)) (fun hc => absurd hc (by first | omega | decide | (simp (disch := omega) only [um_eq, um_na, um_ni, Int.toNat_natCast]; omega))) (fun hc => ?_)
      refine Rn.cal rfl (X_ald rfl <| X_i <| X_nil) (vs := [_, _]) (rest := []) rfl rfl rfl (rcv_v hX.ob (by decide)) (c_bad hX) ?_
      refine Rn.ri rfl (X_nil) rfl
    · refine Rn.cal rfl (X_ald rfl <| X_ild rfl <| X_nil) (vs := [_, _]) (rest := []) rfl rfl rfl (rcv_v hM.ob (by decide)) (c_ioN hM (by rw [b77]; exact hz.1) hz.2 is h1) ?_
      refine Rn.ine rfl (X_nil) (by first | omega | (simp (disch := omega) only [um_eq, um_na, um_ni, Int.toNat_natCast]; omega)) (fun hc => absurd hc (by first | omega | decide | (simp (disch := omega) only [um_eq, um_na, um_ni, Int.toNat_natCast]; omega))) (fun hc => ?_)
      refine Rn.cal rfl (X_ald rfl <| X_nil) (vs := [_]) (rest := []) rfl rfl rfl (rcv_v hM.ob (by decide)) (c_mbad hM) ?_
      refine Rn.ri rfl (X_nil) rfl
  obtain ⟨i, rfl⟩ : ∃ i : Nat, s = (i : Int) := ⟨s.toNat, by omega⟩
  have hi : (i : Int) < M 5 1 := by omega
  have hi4 : i < 4 := by omega
  obtain ⟨M1, c1, nt, hc, hw⟩ := trial_of (S := S) g
  obtain ⟨-, v, -, dv, v2, -, -⟩ := nights_of (S := S) hX.s2 hK 0 (by omega) nt
  have fr := hc.2.2.2.2.2.2.2
  have z1 : M1 (28 + 4) 1 = M 5 1 := hc.2.2.1.1
  have f5 := nt.1.1.2.2.2.2.2.1
  generalize hA : 28 + 16 + 2 * i = A
  -- the nights that might be
  have xe : ∀ (m : Int) a, a ≠ A → um M1 A 1 m a = M1 a := fun m a ha => um_fn ha
  have xt : ∀ m : Nat, m ≤ 120 → ∀ s : Nat, (s : Int) < M 5 1 → TrN (um M1 A 1 (m : Int)) (28 + 16 + 2 * s) K 0 := fun m hm s hs => by
    have t := nt.2.2.2.2 s (by rw [z1]; exact hs)
    by_cases es : s = i
    · subst es
      rw [hA] at t ⊢
      obtain ⟨⟨t0, t1, t2, t3, t4, t5⟩, t6, t7⟩ := t
      unfold TrN
      rw [um_eq, um_ni (by decide), um_ni (by decide), um_ni (by decide), um_ni (by decide), um_ni (by decide), um_ni (by decide), um_ni (by decide)]
      exact ⟨⟨t0, by omega, t2, t3, t4, t5⟩, t6, t7⟩
    · unfold TrN
      rw [xe _ (28 + 16 + 2 * s) (by omega)]
      exact t
  obtain ⟨D, d0, dP, dR⟩ := seq_of (P := fun _ D => NtOk D 28 K 0 ∧ (∀ k, k ≠ 8 → D 29 k = M1 29 k) ∧ (∀ k, k ≠ 1 → D A k = M1 A k) ∧ ∀ a, a ≠ 29 → a ≠ 31 → a ≠ 54 → a ≠ A → D a = M1 a) (R := fun m D D' => Cl S 109 [vR 0, vI (i : Int), vI (m : Int)] (T, D) (some (vI (joyV (um M1 A 1 (m : Int)) v (m : Int) i)), (T, D'))) (c := M1) ⟨nt, fun _ _ => rfl, fun _ _ => rfl, fun _ _ _ _ _ => rfl⟩ 121 (fun m D hm hD => by
    obtain ⟨p1, p2, p3, p4⟩ := hD
    have e32 : um D A 1 (m : Int) 32 = D 32 := um_fn (by omega)
    have q32 : D 32 = M1 32 := p4 32 (by decide) (by decide) (by decide) (by omega)
    have q30 : D 30 = M1 30 := p4 30 (by decide) (by decide) (by decide) (by omega)
    have zD : D (28 + 4) 1 = M 5 1 := by
      show D 32 1 = _
      rw [q32]
      exact z1
    have ntE : NtOk (um D A 1 (m : Int)) 28 K 0 := p1.cg (um_fn (by omega)) (um_fn (by omega)) (um_fn (by omega)) (fun s hs => by
      rw [zD] at hs
      have t := xt m (by omega) s hs
      by_cases es : s = i
      · subst es
        rw [hA] at t ⊢
        unfold TrN at t ⊢
        rw [um_eq, um_ni (by decide), um_ni (by decide), um_ni (by decide), um_ni (by decide), um_ni (by decide), um_ni (by decide), um_ni (by decide)] at t ⊢
        rw [p3 0 (by decide), p3 2 (by decide), p3 3 (by decide), p3 4 (by decide), p3 5 (by decide), p3 6 (by decide), p3 7 (by decide)]
        exact t
      · unfold TrN at t ⊢
        rw [xe _ (28 + 16 + 2 * s) (by omega)] at t
        rw [um_fn (show 28 + 16 + 2 * s ≠ A by omega), p4 (28 + 16 + 2 * s) (by omega) (by omega) (by omega) (by omega)]
        exact t)
    have x1 : um D A 1 (m : Int) (28 + 4) 1 = um M1 A 1 (m : Int) (28 + 4) 1 := by
      rw [um_na (by omega), um_na (by omega)]
      show D 32 1 = M1 32 1
      rw [q32]
    have x5 : um D A 1 (m : Int) (28 + 1) 5 = um M1 A 1 (m : Int) (28 + 1) 5 := by
      rw [um_na (by omega), um_na (by omega)]
      exact p2 5 (by decide)
    have zE : um D A 1 (m : Int) (28 + 4) 1 = M 5 1 := by rw [um_na (by omega)]; exact zD
    obtain ⟨D', w1, w2, w3, w4, ⟨w5, w6, w7⟩, w8⟩ := whatif_c (S := S) (X := um M1 A 1 (m : Int)) (v := v) hX.s2 hK (by omega) ntE x1 x5 (fun s hs k k0 k8 => by
      rw [zE] at hs
      by_cases es : s = i
      · subst es
        rw [hA]
        by_cases ek : k = 1
        · subst ek
          rw [um_eq, um_eq]
        · rw [um_ni ek, um_ni ek]
          exact p3 k ek
      · rw [um_fn (show 28 + 16 + 2 * s ≠ A by omega), um_fn (show 28 + 16 + 2 * s ≠ A by omega), p4 (28 + 16 + 2 * s) (by omega) (by omega) (by omega) (by omega)]) (by
      rw [um_na (by omega), um_na (by omega)]
      rw [show D (28 + 1) 3 = M1 (28 + 1) 3 from p2 3 (by decide), show D (28 + 1) 2 = M1 (28 + 1) 2 from p2 2 (by decide)]
      rw [WayIs_cg (M := M1) (b := 28) (by rw [um_na (by omega)]; exact p2 0 (by decide)) (by rw [um_na (by omega)]; exact p2 1 (by decide)) (by rw [um_na (by omega)]; exact p2 4 (by decide)) (by rw [um_fn (by omega)]; exact q30)]
      exact dv)
    have wi := nightV_in (ntE.be hK (by omega))
    rw [nightV_pw x1 (b' := 28) (C' := um M1 A 1 (m : Int)) (fun s hs k k0 k8 => by
      rw [zE] at hs
      by_cases es : s = i
      · subst es
        rw [hA]
        by_cases ek : k = 1
        · subst ek
          rw [um_eq, um_eq]
        · rw [um_ni ek, um_ni ek]
          exact p3 k ek
      · rw [um_fn (show 28 + 16 + 2 * s ≠ A by omega), um_fn (show 28 + 16 + 2 * s ≠ A by omega), p4 (28 + 16 + 2 * s) (by omega) (by omega) (by omega) (by omega)])] at wi
    have cc := w8 i D' (by rw [zE]; exact hi) (fun _ _ _ => rfl)
    refine ⟨D', ⟨w2, fun k hk => ?_, fun k hk => ?_, fun a a1 a2 a3 a4 => ?_⟩, ⟨_, rfl, ?_⟩⟩
    · have := w4 k hk
      rw [um_na (by omega)] at this
      rw [show D' 29 k = D 29 k from this]
      exact p2 k hk
    · rw [w3 A (by omega) (by omega) (by omega), um_ni hk]
      exact p3 k hk
    · rw [w3 a (by omega) (by omega) (by omega), um_fn a4]
      exact p4 a a1 a2 a3 a4
    · rw [← hA] at w1
      have e54 : D' 54 0 = (nightV (um M1 A 1 (m : Int)) 28).1 := w5
      refine Rn.cal rfl (X_ald rfl <| X_gr 7 1 hX.ob ⟨rfl, rfl⟩ rfl rfl <| X_gr 6 1 hX.s2.st ⟨rfl, rfl⟩ rfl rfl <| X_gr 0 0 hX.s2.be ⟨rfl, rfl⟩ rfl rfl <| X_ild rfl <| X_aa hX.s2.sl (by decide) (by first | omega | (simp (disch := omega) only [um_eq, um_na, um_ni, Int.toNat_natCast]; omega)) (by first | omega | (simp (disch := omega) only [um_eq, um_na, um_ni, Int.toNat_natCast]; omega)) rfl (rSl_at (by omega)) <| X_gr 5 0 (hX.s2.se (by omega)) ⟨rfl, rfl⟩ rfl rfl <| X_i <| X_ild rfl <| X_is (hX.s2.tr (by omega)) (by first | omega | (simp (disch := omega) only [um_eq, um_na, um_ni, Int.toNat_natCast]; omega)) (by first | omega | (simp (disch := omega) only [um_eq, um_na, um_ni, Int.toNat_natCast]; omega)) rfl <| X_ald rfl <| X_gr 7 1 hX.ob ⟨rfl, rfl⟩ rfl rfl <| X_nil) (vs := [_]) (rest := []) rfl rfl rfl (rcv_v hX.s2.st (by decide)) (w1) ?_
      refine Rn.cal rfl (X_i <| X_ild rfl <| X_ald rfl <| X_gr 7 1 hX.ob ⟨rfl, rfl⟩ rfl rfl <| X_gr 6 3 hX.s2.st ⟨rfl, rfl⟩ rfl rfl <| X_gi 2 0 0 hX.s2.ni ⟨rfl, rfl, rfl⟩ (Or.inl rfl) <| X_min (by first | omega | (simp (disch := omega) only [um_eq, um_na, um_ni, Int.toNat_natCast]; omega)) (by first | omega | (simp (disch := omega) only [um_eq, um_na, um_ni, Int.toNat_natCast]; omega)) rfl <| X_mul <| X_ald rfl <| X_gr 7 1 hX.ob ⟨rfl, rfl⟩ rfl rfl <| X_ild rfl <| X_nil) (vs := [_, _]) (rest := [_]) rfl rfl rfl (rcv_v hX.s2.st (by decide)) (cc) ?_
      rw [w5]
      refine Rn.ri rfl (X_sub <| X_nil) rfl
      )
  -- how well each is
  obtain ⟨f, hf⟩ : ∃ f : Nat → Int, ∀ m, f m = joyV (um M1 A 1 ((m : Nat) : Int)) v (m : Int) i := ⟨_, fun _ => rfl⟩
  have fb : ∀ m : Nat, m ≤ 120 → -5000 ≤ f m ∧ f m ≤ 5000 := fun m hm => by
    have t := (xt m hm i hi).ok hK (by omega)
    have hb : BeOk (um M1 A 1 (m : Int)) 28 := by
      have h4 : um M1 A 1 (m : Int) (28 + 4) = M1 (28 + 4) := um_fn (by omega)
      have bo := nt.be hK (by omega)
      unfold BeOk at bo ⊢
      rw [h4]
      exact ⟨bo.1, bo.2.1, bo.2.2.1, fun s hs => (xt m hm s (by rw [z1] at hs; exact hs)).ok hK (by omega)⟩
    have ni := nightV_in hb
    have nc := nCost_in (M := um M1 A 1 (m : Int)) (b := 28) (s := i) (p := nightV (um M1 A 1 (m : Int)) 28) (wk := 2 * v) t (by omega) (by omega) (by omega) (by omega)
    rw [hf m]
    unfold joyV
    split <;> omega
  have cloop : ∀ (k m : Nat) (x : Option AV), m + k = 120 → Rn S 87 44 ([], [some (vR 0), some (vI (i : Int)), some (vI (bestS f m).1), some (vI (bestS f m).2), some (vI ((m : Int) + 1)), x], T, D (m + 1)) (some (vI (bestS f 120).1), (T, D 121)) := by
    intro k
    induction k with
    | zero =>
      intro m x hm
      have em : m = 120 := by omega
      subst em
      refine Rn.cgt rfl (X_ild rfl <| X_i <| X_nil) (by first | omega | (simp (disch := omega) only [um_eq, um_na, um_ni, Int.toNat_natCast]; omega)) (by first | omega | (simp (disch := omega) only [um_eq, um_na, um_ni, Int.toNat_natCast]; omega)) (fun hc => ?_) (fun hc => absurd hc (by first | omega | decide | (simp (disch := omega) only [um_eq, um_na, um_ni, Int.toNat_natCast]; omega)))
      refine Rn.ri rfl (X_ild rfl <| X_nil) rfl
    | succ k ih =>
      intro m x hm
      have bd := bestS_in (f := f) (B := 5000) m (fun l hl => fb l (by omega))
      have fm := fb (m + 1) (by omega)
      have cj := dR (m + 1) (by omega)
      rw [← hf (m + 1)] at cj
      have nx := ih (m + 1) (some (vI (f (m + 1)))) (by omega)
      have em : ((m + 1 : Nat) : Int) = (m : Int) + 1 := by omega
      rw [em] at cj
      by_cases hb : (bestS f m).2 < f (m + 1)
      · rw [show bestS f (m + 1) = (((m + 1 : Nat) : Int), f (m + 1)) from if_pos hb, em] at nx
        refine Rn.cgt rfl (X_ild rfl <| X_i <| X_nil) (by first | omega | (simp (disch := omega) only [um_eq, um_na, um_ni, Int.toNat_natCast]; omega)) (by first | omega | (simp (disch := omega) only [um_eq, um_na, um_ni, Int.toNat_natCast]; omega)) (fun hc => absurd hc (by first | omega | decide | (simp (disch := omega) only [um_eq, um_na, um_ni, Int.toNat_natCast]; omega))) (fun hc => ?_)
        refine Rn.cal rfl (X_ald rfl <| X_ild rfl <| X_ild rfl <| X_nil) (vs := [_, _, _]) (rest := []) rfl rfl rfl (rcv_v hX.ob (by decide)) (cj) ?_
        refine Rn.cle rfl (X_ist rfl (L' := [_, _, _, _, _, _]) rfl <| X_ild rfl <| X_ild rfl <| X_nil) (by first | omega | (simp (disch := omega) only [um_eq, um_na, um_ni, Int.toNat_natCast]; omega)) (by first | omega | (simp (disch := omega) only [um_eq, um_na, um_ni, Int.toNat_natCast]; omega)) (fun hc => absurd hc (by first | omega | decide | (simp (disch := omega) only [um_eq, um_na, um_ni, Int.toNat_natCast]; omega))) (fun hc => ?_)
        refine Rn.fal rfl (X_ild rfl <| X_ist rfl (L' := [_, _, _, _, _, _]) rfl <| X_ild rfl <| X_ist rfl (L' := [_, _, _, _, _, _]) rfl <| X_nil) ?_
        refine Rn.jto rfl (X_inc rfl (L' := [_, _, _, _, _, _]) rfl <| X_nil) ?_
        exact nx
      · rw [show bestS f (m + 1) = bestS f m from if_neg hb, em] at nx
        refine Rn.cgt rfl (X_ild rfl <| X_i <| X_nil) (by first | omega | (simp (disch := omega) only [um_eq, um_na, um_ni, Int.toNat_natCast]; omega)) (by first | omega | (simp (disch := omega) only [um_eq, um_na, um_ni, Int.toNat_natCast]; omega)) (fun hc => absurd hc (by first | omega | decide | (simp (disch := omega) only [um_eq, um_na, um_ni, Int.toNat_natCast]; omega))) (fun hc => ?_)
        refine Rn.cal rfl (X_ald rfl <| X_ild rfl <| X_ild rfl <| X_nil) (vs := [_, _, _]) (rest := []) rfl rfl rfl (rcv_v hX.ob (by decide)) (cj) ?_
        refine Rn.cle rfl (X_ist rfl (L' := [_, _, _, _, _, _]) rfl <| X_ild rfl <| X_ild rfl <| X_nil) (by first | omega | (simp (disch := omega) only [um_eq, um_na, um_ni, Int.toNat_natCast]; omega)) (by first | omega | (simp (disch := omega) only [um_eq, um_na, um_ni, Int.toNat_natCast]; omega)) (fun hc => ?_) (fun hc => absurd hc (by first | omega | decide | (simp (disch := omega) only [um_eq, um_na, um_ni, Int.toNat_natCast]; omega)))
        refine Rn.jto rfl (X_inc rfl (L' := [_, _, _, _, _, _]) rfl <| X_nil) ?_
        exact nx
  -- the model
  have d121 : ∀ a, a < 28 ∨ 55 ≤ a → D 121 a = M a := fun a ha => by
    rw [(dP 121 (Nat.le_refl _)).2.2.2 a (by omega) (by omega) (by omega) (by omega)]
    exact fr a ha
  obtain ⟨M2, cl, ls, lw, lc, l76, lf⟩ := lay_of (S := S) (N := D 121) g (d121 77 (by omega))
  have m77 : M2 77 = M 77 := by rw [lf 77 (by decide) (by decide) (by decide) (by decide) (by decide)]; exact d121 77 (by omega)
  obtain ⟨E, e0, eP, eR⟩ := seq_of (P := fun _ N => (∀ k, k ≠ 63 + (i : Int) → N 77 k = M 77 k) ∧ (N 82 = M2 82 ∧ N 83 = M2 83 ∧ N 84 = M2 84) ∧ (N 76 17 = v ∧ N 76 18 = M 2 5) ∧ (∀ k, ¬ (17 ≤ k ∧ k ≤ 21) → N 76 k = M 76 k) ∧ (∀ a, a < 28 ∨ 55 ≤ a → ¬ (60 ≤ a ∧ a ≤ 77) → ¬ (81 ≤ a ∧ a ≤ 87) → N a = M a)) (R := fun m N N' => N' = setG (um N 77 (63 + (i : Int)) (m : Int)) (nightV (um M1 A 1 (m : Int)) 28) ∧ Cl S 158 [vR 76] (T, um N 77 (63 + (i : Int)) (m : Int)) (none, (T, N')) ∧ Cl S 159 [vR 76, vI (i : Int)] (T, N') (some (vI (nCost (um M1 A 1 (m : Int)) 28 (nightV (um M1 A 1 (m : Int)) 28) (2 * v) i)), (T, N')) ∧ (0 ≤ (nightV (um M1 A 1 (m : Int)) 28).1 ∧ (nightV (um M1 A 1 (m : Int)) 28).1 ≤ 300)) (c := M2) ⟨fun k _ => by rw [m77], ⟨rfl, rfl, rfl⟩, ⟨lw v (hw v dv), lc⟩, fun k hk => by rw [l76 k (by omega) (by omega), d121 76 (by omega)], fun a a1 a2 a3 => by rw [lf a (by omega) (by omega) (by omega) (by omega) (by omega)]; exact d121 a a1⟩ 121 (fun m N hm hN => by
    obtain ⟨n1, ⟨n82, n83, n84⟩, ⟨n17, n18⟩, n5, n6⟩ := hN
    have ue : ∀ a, a ≠ 77 → um N 77 (63 + (i : Int)) (m : Int) a = N a := fun a ha => um_fn ha
    have w := whatif_m (S := S) (T := T) (b := 28) (z := (M 5 1).toNat) (X := um M1 A 1 (m : Int)) (N := um N 77 (63 + (i : Int)) (m : Int)) (v := v) hM (by omega) (by rw [um_na (by omega), z1]; omega) (fun s hs => (xt m (by omega) s (by omega)).ok hK (by omega)) (by rw [um_na (by omega)]; exact f5) (by rw [um_ni (by omega), n1 6 (by omega), hz.1]; omega) (fun s hs k k0 k8 => by
      have l := ls s hs k k0 k8
      have c := hc.2.2.2.1 s (by omega) k k0 k8
      rw [← c] at l
      by_cases es : s = i ∧ k = 1
      · obtain ⟨rfl, rfl⟩ := es
        rw [V_1, um_eq, hA, um_eq]
      · have er : um M1 A 1 (m : Int) (28 + 16 + 2 * s) k = M1 (28 + 16 + 2 * s) k := by
          by_cases es2 : s = i
          · exact um_ni (fun q => es ⟨es2, q⟩)
          · exact um_na (by omega)
        rw [er, ← l]
        rcases (show k < 5 ∨ k = 5 ∨ k = 6 ∨ k = 7 by omega) with hk | rfl | rfl | rfl
        · rw [V_k s k hk, V_k s k hk, m77, um_ni (by omega)]
          exact n1 _ (by omega)
        · rw [V_5, V_5, ue 82 (by decide), n82]
        · rw [V_6, V_6, ue 83 (by decide), n83]
        · rw [V_7, V_7, ue 84 (by decide), n84]) (by rw [ue 76 (by decide)]; exact n17) (by
      rw [ue 76 (by decide), n18, um_na (by omega)]
      exact hc.1.2.2.2.2.2.1.symm)
    obtain ⟨w1, w2, w3⟩ := w
    refine ⟨_, ⟨fun k hk => ?_, ⟨?_, ?_, ?_⟩, ⟨?_, ?_⟩, fun k hk => ?_, fun a a1 a2 a3 => ?_⟩, rfl, w1, w2 i _ (by omega) (fun _ _ => rfl), w3.1, w3.2.1⟩
    · rw [setG_ne (by decide), um_ni hk]
      exact n1 k hk
    · rw [setG_ne (by decide), ue 82 (by decide)]; exact n82
    · rw [setG_ne (by decide), ue 83 (by decide)]; exact n83
    · rw [setG_ne (by decide), ue 84 (by decide)]; exact n84
    · rw [setG_k (by decide) (by decide) (by decide), ue 76 (by decide)]; exact n17
    · rw [setG_k (by decide) (by decide) (by decide), ue 76 (by decide)]; exact n18
    · rw [setG_k (by omega) (by omega) (by omega), ue 76 (by decide)]; exact n5 k hk
    · rw [setG_ne (by omega), ue a (by omega)]; exact n6 a a1 a2 a3)
  have mstp : ∀ (m : Nat) (fo mo : Int) (x : Option AV) r, m ≤ 120 → I32 fo → (-1000000000 ≤ mo ∧ mo ≤ 5000) → Rn S 172 36 ([], [some (vR 76), some (vI (i : Int)), some (vI (M 77 (63 + (i : Int)))), some (vI (if mo < f m then f m else mo)), some (vI (if mo < f m then (m : Int) else fo)), some (vI ((m : Int) + 1)), some (vI (f m))], T, E (m + 1)) r → Rn S 172 36 ([], [some (vR 76), some (vI (i : Int)), some (vI (M 77 (63 + (i : Int)))), some (vI mo), some (vI fo), some (vI (m : Int)), x], T, E m) r := by
    intro m fo mo x r hm ifo imo hr
    obtain ⟨r0, r1, r2, r3, r4⟩ := eR m (by omega)
    have fm := fb m hm
    have e19 : E (m + 1) 76 19 = (nightV (um M1 A 1 (m : Int)) 28).1 := by rw [r0]; exact setG_19
    have efm := hf m
    unfold joyV at efm
    generalize hP : (nightV (um M1 A 1 (m : Int)) 28).1 = pm at *
    generalize hQ : nCost (um M1 A 1 (m : Int)) 28 (nightV (um M1 A 1 (m : Int)) 28) (2 * v) i = qm at *
    have fin : Rn S 172 83 ([vI qm, vI (2 * (if pm < (m : Int) then pm else (m : Int)))], [some (vR 76), some (vI (i : Int)), some (vI (M 77 (63 + (i : Int)))), some (vI mo), some (vI fo), some (vI (m : Int)), x], T, E (m + 1)) r := by
      rw [efm] at fm
      by_cases hb : mo < f m
      · rw [if_pos hb, if_pos hb, efm] at hr
        rw [efm] at hb
        refine Rn.cle rfl (X_sub <| X_ist rfl (L' := [_, _, _, _, _, _, _]) rfl <| X_ild rfl <| X_ild rfl <| X_nil) (by first | omega | (simp (disch := omega) only [um_eq, um_na, um_ni, Int.toNat_natCast]; omega)) (by first | omega | (simp (disch := omega) only [um_eq, um_na, um_ni, Int.toNat_natCast]; omega)) (fun hc => absurd hc (by first | omega | decide | (simp (disch := omega) only [um_eq, um_na, um_ni, Int.toNat_natCast]; omega))) (fun hc => ?_)
        refine Rn.jto rfl (X_ild rfl <| X_nil) ?_
        refine Rn.cle rfl (X_ist rfl (L' := [_, _, _, _, _, _, _]) rfl <| X_ild rfl <| X_ild rfl <| X_nil) (by first | omega | (simp (disch := omega) only [um_eq, um_na, um_ni, Int.toNat_natCast]; omega)) (by first | omega | (simp (disch := omega) only [um_eq, um_na, um_ni, Int.toNat_natCast]; omega)) (fun hc => absurd hc (by first | omega | decide | (simp (disch := omega) only [um_eq, um_na, um_ni, Int.toNat_natCast]; omega))) (fun hc => ?_)
        refine Rn.jto rfl (X_ild rfl <| X_nil) ?_
        refine Rn.jto rfl (X_ist rfl (L' := [_, _, _, _, _, _, _]) rfl <| X_inc rfl (L' := [_, _, _, _, _, _, _]) rfl <| X_nil) ?_
        exact hr
      · rw [if_neg hb, if_neg hb, efm] at hr
        rw [efm] at hb
        refine Rn.cle rfl (X_sub <| X_ist rfl (L' := [_, _, _, _, _, _, _]) rfl <| X_ild rfl <| X_ild rfl <| X_nil) (by first | omega | (simp (disch := omega) only [um_eq, um_na, um_ni, Int.toNat_natCast]; omega)) (by first | omega | (simp (disch := omega) only [um_eq, um_na, um_ni, Int.toNat_natCast]; omega)) (fun hc => ?_) (fun hc => absurd hc (by first | omega | decide | (simp (disch := omega) only [um_eq, um_na, um_ni, Int.toNat_natCast]; omega)))
        refine Rn.fal rfl (X_ild rfl <| X_nil) ?_
        refine Rn.cle rfl (X_ist rfl (L' := [_, _, _, _, _, _, _]) rfl <| X_ild rfl <| X_ild rfl <| X_nil) (by first | omega | (simp (disch := omega) only [um_eq, um_na, um_ni, Int.toNat_natCast]; omega)) (by first | omega | (simp (disch := omega) only [um_eq, um_na, um_ni, Int.toNat_natCast]; omega)) (fun hc => ?_) (fun hc => absurd hc (by first | omega | decide | (simp (disch := omega) only [um_eq, um_na, um_ni, Int.toNat_natCast]; omega)))
        refine Rn.fal rfl (X_ild rfl <| X_nil) ?_
        refine Rn.jto rfl (X_ist rfl (L' := [_, _, _, _, _, _, _]) rfl <| X_inc rfl (L' := [_, _, _, _, _, _, _]) rfl <| X_nil) ?_
        exact hr
    by_cases hlt : (m : Int) < pm
    · rw [if_neg (by omega)] at fin
      refine Rn.cgt rfl (X_ild rfl <| X_i <| X_nil) (by first | omega | (simp (disch := omega) only [um_eq, um_na, um_ni, Int.toNat_natCast]; omega)) (by first | omega | (simp (disch := omega) only [um_eq, um_na, um_ni, Int.toNat_natCast]; omega)) (fun hc => absurd hc (by first | omega | decide | (simp (disch := omega) only [um_eq, um_na, um_ni, Int.toNat_natCast]; omega))) (fun hc => ?_)
      refine Rn.cal rfl (X_ald rfl <| X_gr 8 0 hM.ob ⟨rfl, rfl⟩ rfl rfl <| X_i <| X_ild rfl <| X_add <| X_ild rfl <| X_is hM.w (by first | omega | (simp (disch := omega) only [um_eq, um_na, um_ni, Int.toNat_natCast]; omega)) (by first | omega | (simp (disch := omega) only [um_eq, um_na, um_ni, Int.toNat_natCast]; omega)) rfl <| X_ald rfl <| X_nil) (vs := [_]) (rest := []) rfl rfl rfl (rcv_v hM.ob (by decide)) (r1) ?_
      refine Rn.cge rfl (X_i <| X_ild rfl <| X_ald rfl <| X_gi 8 19 19 hM.ob ⟨rfl, rfl, rfl⟩ (Or.inl rfl) <| X_nil) (by first | omega | (simp (disch := omega) only [um_eq, um_na, um_ni, Int.toNat_natCast]; omega)) (by first | omega | (simp (disch := omega) only [um_eq, um_na, um_ni, Int.toNat_natCast]; omega)) (fun hc => absurd hc (by first | omega | decide | (simp (disch := omega) only [um_eq, um_na, um_ni, Int.toNat_natCast]; omega))) (fun hc => ?_)
      refine Rn.jto rfl (X_ild rfl <| X_nil) ?_
      refine Rn.cal rfl (X_mul <| X_ald rfl <| X_ild rfl <| X_nil) (vs := [_, _]) (rest := [_]) rfl rfl rfl (rcv_v hM.ob (by decide)) (r2) ?_
      exact fin
    · have e : (if pm < (m : Int) then pm else (m : Int)) = pm := by split <;> omega
      rw [e] at fin
      refine Rn.cgt rfl (X_ild rfl <| X_i <| X_nil) (by first | omega | (simp (disch := omega) only [um_eq, um_na, um_ni, Int.toNat_natCast]; omega)) (by first | omega | (simp (disch := omega) only [um_eq, um_na, um_ni, Int.toNat_natCast]; omega)) (fun hc => absurd hc (by first | omega | decide | (simp (disch := omega) only [um_eq, um_na, um_ni, Int.toNat_natCast]; omega))) (fun hc => ?_)
      refine Rn.cal rfl (X_ald rfl <| X_gr 8 0 hM.ob ⟨rfl, rfl⟩ rfl rfl <| X_i <| X_ild rfl <| X_add <| X_ild rfl <| X_is hM.w (by first | omega | (simp (disch := omega) only [um_eq, um_na, um_ni, Int.toNat_natCast]; omega)) (by first | omega | (simp (disch := omega) only [um_eq, um_na, um_ni, Int.toNat_natCast]; omega)) rfl <| X_ald rfl <| X_nil) (vs := [_]) (rest := []) rfl rfl rfl (rcv_v hM.ob (by decide)) (r1) ?_
      refine Rn.cge rfl (X_i <| X_ild rfl <| X_ald rfl <| X_gi 8 19 19 hM.ob ⟨rfl, rfl, rfl⟩ (Or.inl rfl) <| X_nil) (by first | omega | (simp (disch := omega) only [um_eq, um_na, um_ni, Int.toNat_natCast]; omega)) (by first | omega | (simp (disch := omega) only [um_eq, um_na, um_ni, Int.toNat_natCast]; omega)) (fun hc => ?_) (fun hc => absurd hc (by first | omega | decide | (simp (disch := omega) only [um_eq, um_na, um_ni, Int.toNat_natCast]; omega)))
      refine Rn.fal rfl (X_ald rfl <| X_gi 8 19 19 hM.ob ⟨rfl, rfl, rfl⟩ (Or.inl rfl) <| X_nil) ?_
      rw [e19]
      refine Rn.cal rfl (X_mul <| X_ald rfl <| X_ild rfl <| X_nil) (vs := [_, _]) (rest := [_]) rfl rfl rfl (rcv_v hM.ob (by decide)) (r2) ?_
      exact fin
  have mloop : ∀ (k m : Nat) (x : Option AV), m + k = 120 → Rn S 172 36 ([], [some (vR 76), some (vI (i : Int)), some (vI (M 77 (63 + (i : Int)))), some (vI (bestS f m).2), some (vI (bestS f m).1), some (vI ((m : Int) + 1)), x], T, E (m + 1)) (some (vI (bestS f 120).1), (T, um (E 121) 77 (63 + (i : Int)) (M 77 (63 + (i : Int))))) := by
    intro k
    induction k with
    | zero =>
      intro m x hm
      have em : m = 120 := by omega
      subst em
      refine Rn.cgt rfl (X_ild rfl <| X_i <| X_nil) (by first | omega | (simp (disch := omega) only [um_eq, um_na, um_ni, Int.toNat_natCast]; omega)) (by first | omega | (simp (disch := omega) only [um_eq, um_na, um_ni, Int.toNat_natCast]; omega)) (fun hc => ?_) (fun hc => absurd hc (by first | omega | decide | (simp (disch := omega) only [um_eq, um_na, um_ni, Int.toNat_natCast]; omega)))
      refine Rn.ri rfl (X_ald rfl <| X_gr 8 0 hM.ob ⟨rfl, rfl⟩ rfl rfl <| X_i <| X_ild rfl <| X_add <| X_ild rfl <| X_is hM.w (by first | omega | (simp (disch := omega) only [um_eq, um_na, um_ni, Int.toNat_natCast]; omega)) (by first | omega | (simp (disch := omega) only [um_eq, um_na, um_ni, Int.toNat_natCast]; omega)) rfl <| X_ild rfl <| X_nil) rfl
    | succ k ih =>
      intro m x hm
      have bd := bestS_in (f := f) (B := 5000) m (fun l hl => fb l (by omega))
      have nx := ih (m + 1) (some (vI (f (m + 1)))) (by omega)
      have em : ((m + 1 : Nat) : Int) = (m : Int) + 1 := by omega
      have st := mstp (m + 1) (bestS f m).1 (bestS f m).2 x (some (vI (bestS f 120).1), (T, um (E 121) 77 (63 + (i : Int)) (M 77 (63 + (i : Int))))) (by omega) (by omega) (by omega)
      rw [em] at st nx
      refine st ?_
      by_cases hb : (bestS f m).2 < f (m + 1)
      · rw [show bestS f (m + 1) = (((m + 1 : Nat) : Int), f (m + 1)) from if_pos hb, em] at nx
        rw [if_pos hb, if_pos hb]
        exact nx
      · rw [show bestS f (m + 1) = bestS f m from if_neg hb] at nx
        rw [if_neg hb, if_neg hb]
        exact nx
  have bd := bestS_in (f := f) (B := 5000) 120 (fun l hl => fb l (by omega))
  obtain ⟨n1, ⟨n82, n83, n84⟩, ⟨n17, n18⟩, n5, n6⟩ := eP 121 (Nat.le_refl _)
  refine ⟨(bestS f 120).1, T, D 121, um (E 121) 77 (63 + (i : Int)) (M 77 (63 + (i : Int))), by omega, ⟨_, rfl, ?_⟩, ⟨_, rfl, ?_⟩, g.tried (fun a a1 a2 a3 => ?_) (fun k hk => by rw [um_na (by decide)]; exact n5 k hk)⟩
  · have l0 := cloop 120 0 none (by omega)
    have cj := dR 0 (by omega)
    rw [← hf 0, d0] at cj
    refine Rn.cal rfl (X_ald rfl <| X_gr 7 0 hX.ob ⟨rfl, rfl⟩ rfl rfl <| X_gr 6 1 hX.s1.st ⟨rfl, rfl⟩ rfl rfl <| X_ild rfl <| X_nil) (vs := [_, _]) (rest := []) rfl rfl rfl (rcv_v hX.s1.be (by decide)) (c_bhY hX hz.2 is h1) ?_
    refine Rn.ine rfl (X_nil) (by first | omega | (simp (disch := omega) only [um_eq, um_na, um_ni, Int.toNat_natCast]; omega)) (fun hc => ?_) (fun hc => absurd hc (by first | omega | decide | (simp (disch := omega) only [um_eq, um_na, um_ni, Int.toNat_natCast]; omega)))
    refine Rn.cal rfl (X_ald rfl <| X_gr 7 1 hX.ob ⟨rfl, rfl⟩ rfl rfl <| X_ald rfl <| X_gr 7 0 hX.ob ⟨rfl, rfl⟩ rfl rfl <| X_nil) (vs := [_, _]) (rest := []) rfl rfl rfl (rcv_v hX.s2.st (by decide)) (c1) ?_
    refine Rn.cal rfl (X_i <| X_ist rfl (L' := [_, _, _, _, _, _]) rfl <| X_ald rfl <| X_ild rfl <| X_i <| X_nil) (vs := [_, _, _]) (rest := []) rfl rfl rfl (rcv_v hX.ob (by decide)) (cj) ?_
    refine Rn.fal rfl (X_ist rfl (L' := [_, _, _, _, _, _]) rfl <| X_i <| X_ist rfl (L' := [_, _, _, _, _, _]) rfl <| X_nil) ?_
    exact l0
  · have l0 := mloop 120 0 (some (vI (f 0))) (by omega)
    have f0 := fb 0 (by omega)
    have st := mstp 0 0 (-1000000000) none _ (by omega) (by decide) (by omega) (by
      rw [if_pos (by omega), if_pos (by omega)]
      exact l0)
    rw [e0] at st
    refine Rn.cal rfl (X_ald rfl <| X_ild rfl <| X_nil) (vs := [_, _]) (rest := []) rfl rfl rfl (rcv_v hM.ob (by decide)) (c_ioY hM (by rw [d121 77 (by omega)]; exact hz.1) hz.2 is h1) ?_
    refine Rn.ine rfl (X_nil) (by first | omega | (simp (disch := omega) only [um_eq, um_na, um_ni, Int.toNat_natCast]; omega)) (fun hc => ?_) (fun hc => absurd hc (by first | omega | decide | (simp (disch := omega) only [um_eq, um_na, um_ni, Int.toNat_natCast]; omega)))
    refine Rn.cal rfl (X_ald rfl <| X_nil) (vs := [_]) (rest := []) rfl rfl rfl (rcv_v hM.ob (by decide)) (cl) ?_
    refine Rn.fal rfl (X_ald rfl <| X_gr 8 0 hM.ob ⟨rfl, rfl⟩ rfl rfl <| X_i <| X_ild rfl <| X_add <| X_ia hM.w (by first | omega | (simp (disch := omega) only [um_eq, um_na, um_ni, Int.toNat_natCast]; omega)) (by first | omega | (simp (disch := omega) only [um_eq, um_na, um_ni, Int.toNat_natCast]; omega)) rfl <| X_ist rfl (L' := [_, _, _, _, _, _, _]) rfl <| X_i <| X_ist rfl (L' := [_, _, _, _, _, _, _]) rfl <| X_i <| X_ist rfl (L' := [_, _, _, _, _, _, _]) rfl <| X_i <| X_ist rfl (L' := [_, _, _, _, _, _, _]) rfl <| X_nil) ?_
    rw [m77]
    exact st
  · by_cases ea : a = 77
    · subst ea
      funext k
      by_cases ek : k = 63 + (i : Int)
      · subst ek
        exact um_eq
      · rw [um_ni ek]
        exact n1 k ek
    · rw [um_fn ea]
      exact n6 a a1 (by omega) a3
end Reading
