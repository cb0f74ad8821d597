/-! A NIGHT GOES BY -/
section Spend
variable {S : List Int} {T : List Sh} {M : Nat → Int → Int} {b : Nat} {h : Hp}
/-- beds whose numbers fit -/
def BeOk (M : Nat → Int → Int) (b : Nat) : Prop := (0 ≤ M (b + 4) 1 ∧ M (b + 4) 1 ≤ 4) ∧ (0 ≤ M (b + 4) 2 ∧ M (b + 4) 2 ≤ 100000) ∧ (0 ≤ M (b + 4) 3 ∧ M (b + 4) 3 ≤ 8) ∧ ∀ i : Nat, (i : Int) < M (b + 4) 1 → TrOk M (b + 16 + 2 * i)
theorem nightF_cg {M' : Nat → Int → Int} {l : Int} {n : Nat} (h : ∀ i, i < n → M' (b + 16 + 2 * i) = M (b + 16 + 2 * i)) : nightF M' b l n = nightF M b l n := by
  induction n with
  | zero => rfl
  | succ n ih =>
    unfold nightF
    simp only [ih (fun i hi => h i (by omega)), upA_cg (h n (by omega)), waitC_cg (h n (by omega)), h n (by omega)]
/-- how this night ends -/
abbrev nightV (M : Nat → Int → Int) (b : Nat) : Int × Int × Int := nightF M b (lstC M b (M (b + 4) 1).toNat) (M (b + 4) 1).toNat
theorem nightV_in (hb : BeOk M b) : 0 ≤ (nightV M b).1 ∧ (nightV M b).1 ≤ 300 ∧ -1 ≤ (nightV M b).2.1 ∧ (nightV M b).2.1 < M (b + 4) 1 ∧ ((nightV M b).2.2 = 0 ∨ (nightV M b).2.2 = 1) ∧ ((nightV M b).2.1 = -1 → (nightV M b).2.2 = 0 ∧ (nightV M b).1 = 300) := by
  obtain ⟨b1, -, -, b4⟩ := hb
  have l0 := lstC_in (M := M) (b := b) (n := (M (b + 4) 1).toNat) (by omega) (fun i hi => b4 i (by omega))
  have h1 := nightF_in (M := M) (b := b) (n := (M (b + 4) 1).toNat) l0.1 (fun i hi => ⟨b4 i (by omega), lstC_le hi (fun j hj => by have := b4 j (by omega); omega)⟩)
  refine ⟨h1.1, h1.2.1, h1.2.2.1, ?_, h1.2.2.2.2⟩
  have h9 : (nightV M b).2.1 < (((M (b + 4) 1).toNat : Nat) : Int) := h1.2.2.2.1
  omega
theorem c_foresee (hS : isSt T b) (hf : FlOk M b) (hk : WalkOk M b) (hb : BeOk M b) : ∃ M', Cl S 56 [vR b] (T, M) (none, (T, M')) ∧ (∀ a, a ≠ b + 1 → a ≠ b + 3 → a ≠ b + 26 → M' a = M a) ∧ (∀ k, k ≠ 8 → M' (b + 1) k = M (b + 1) k) ∧ (∃ v, WayIs M b (M (b + 1) 3).toNat (M (b + 1) 2).toNat v ∧ M' (b + 1) 8 = 2 * v) ∧ (M' (b + 26) 0 = (nightV M b).1 ∧ M' (b + 26) 1 = (nightV M b).2.1 ∧ M' (b + 26) 2 = (nightV M b).2.2) := by
  obtain ⟨b1, -, -, b4⟩ := hb
  obtain ⟨M1, c1, p1, p2, v, p3, p4⟩ := c_mwalk (S := S) hS hf hk
  have f4 : M1 (b + 4) = M (b + 4) := p1 _ (by omega) (by omega)
  have ft : ∀ i, i < 4 → M1 (b + 16 + 2 * i) = M (b + 16 + 2 * i) := fun i hi => p1 _ (by omega) (by omega)
  have c2 := c_bforesee (S := S) (M := M1) hS (by rw [f4]; exact b1.1) (by rw [f4]; exact b1.2) (fun i hi => by rw [f4] at hi; exact TrOk_cg (ft i (by omega)) (b4 i hi))
  have e1 : lstC M1 b (M (b + 4) 1).toNat = lstC M b (M (b + 4) 1).toNat := lstC_cg (fun i hi => ft i (by omega))
  rw [f4, e1, nightF_cg (fun i hi => ft i (by omega))] at c2
  refine ⟨setN M1 b (nightV M b), ⟨_, rfl, ?_⟩, fun a a1 a3 a6 => ?_, fun k hk => ?_, ⟨v, p3, ?_⟩, setN_0, setN_1, setN_2⟩
  · refine Rn.cal rfl (X_ald rfl <| X_gr 6 0 hS.st ⟨rfl, rfl⟩ rfl rfl <| X_nil) (vs := [_]) (rest := []) rfl rfl rfl (rcv_v hS.fl (by decide)) (c1) ?_
    refine Rn.cal rfl (X_ald rfl <| X_gr 6 1 hS.st ⟨rfl, rfl⟩ rfl rfl <| X_ald rfl <| X_gr 6 3 hS.st ⟨rfl, rfl⟩ rfl rfl <| X_nil) (vs := [_, _]) (rest := []) rfl rfl rfl (rcv_v hS.be (by decide)) (c2) ?_
    refine Rn.rv rfl (X_nil) rfl
  · rw [setN_ne a6]
    exact p1 a a1 a3
  · rw [setN_ne (by omega)]
    exact p2 k hk
  · rw [setN_ne (by omega)]
    exact p4
/-- what a night that ends so costs one, with a walk of wk -/
def nCost (M : Nat → Int → Int) (b : Nat) (p : Int × Int × Int) (wk : Int) (s : Nat) : Int := if p.2.1 = (s : Int) ∧ M (b + 1) 5 = 0 then lightC M (b + 16 + 2 * s) p.1 + ((if p.2.2 = 0 then M (b + 16 + 2 * s) 3 else 0) + wk) else lightC M (b + 16 + 2 * s) p.1
theorem costV_n {N : Nat → Int → Int} {p : Int × Int × Int} {wk : Int} {s : Nat} (h0 : N (b + 26) 0 = p.1) (h1 : N (b + 26) 1 = p.2.1) (h2 : N (b + 26) 2 = p.2.2) (h5 : N (b + 1) 5 = M (b + 1) 5) (h8 : N (b + 1) 8 = wk) (ht : N (b + 16 + 2 * s) = M (b + 16 + 2 * s)) : costV N b s = nCost M b p wk s := by
  unfold costV nCost errV
  rw [h0, h1, h2, h5, h8, lightC_cg ht]
  by_cases c : p.2.1 = (s : Int) ∧ M (b + 1) 5 = 0
  · rw [if_pos c, if_pos c, if_neg (by omega)]
    have : p.2.1.toNat = s := by omega
    rw [this, ht]
  · rw [if_neg c, if_neg c]
/-- what one night leaves at b -/
def SpendP (M M' : Nat → Int → Int) (b : Nat) (v : Int) (p : Int × Int × Int) : Prop := ((∀ k, k ≠ 8 → M' (b + 1) k = M (b + 1) k) ∧ M' (b + 1) 8 = 2 * v) ∧ (M' (b + 26) 0 = p.1 ∧ M' (b + 26) 1 = p.2.1 ∧ M' (b + 26) 2 = p.2.2) ∧
    (M' (b + 4) 1 = M (b + 4) 1 ∧ M' (b + 4) 2 = M (b + 4) 2 + 1 ∧ M' (b + 4) 3 = (if 8 < M (b + 4) 3 + 1 then 8 else M (b + 4) 3 + 1)) ∧
    (M' (b + 7 + (M (b + 4) 2 % 8).toNat) 0 = M (b + 4) 1 ∧ ∀ i : Nat, (i : Int) < M (b + 4) 1 → M' (b + 7 + (M (b + 4) 2 % 8).toNat) (1 + 2 * i) = M (b + 16 + 2 * i) 6 ∧ M' (b + 7 + (M (b + 4) 2 % 8).toNat) (2 + 2 * i) = M (b + 16 + 2 * i) 7) ∧
    (∀ i : Nat, (i : Int) < M (b + 4) 1 → (∀ k, k ≠ 6 → k ≠ 7 → M' (b + 16 + 2 * i) k = M (b + 16 + 2 * i) k) ∧ M' (b + 16 + 2 * i) 6 = M (b + 16 + 2 * i) 6 + (if p.2.1 = (i : Int) then 1 else 0) ∧ M' (b + 16 + 2 * i) 7 = M (b + 16 + 2 * i) 7 + nCost M b p (2 * v) i) ∧
    (∀ a, a ≠ b + 1 → a ≠ b + 3 → a ≠ b + 4 → a ≠ b + 26 → a ≠ b + 7 + (M (b + 4) 2 % 8).toNat → (∀ i : Nat, (i : Int) < M (b + 4) 1 → a ≠ b + 16 + 2 * i) → M' a = M a)
theorem c_spend (hS : isSt T b) (hf : FlOk M b) (hk : WalkOk M b) (hb : BeOk M b) : ∃ M' v, Cl S 57 [vR b] (T, M) (some (vI (nightV M b).2.1), (T, M')) ∧ WayIs M b (M (b + 1) 3).toNat (M (b + 1) 2).toNat v ∧ SpendP M M' b v (nightV M b) := by
  obtain ⟨b1, b2, b3, b4⟩ := id hb
  have hnv := nightV_in hb
  have hf5 := hf.2.2.2.2.2.1
  obtain ⟨M1, c1, p1, p2, ⟨v, p3, p4⟩, p5, p6, p7⟩ := c_foresee (S := S) hS hf hk hb
  have f4 : M1 (b + 4) = M (b + 4) := p1 _ (by omega) (by omega) (by omega)
  have ft : ∀ i, i < 4 → M1 (b + 16 + 2 * i) = M (b + 16 + 2 * i) := fun i hi => p1 _ (by omega) (by omega) (by omega)
  obtain ⟨M2, c2, q1, q2, q3⟩ := c_remember (S := S) (M := M1) hS (by rw [f4]; exact b1.1) (by rw [f4]; exact b1.2) (by rw [f4]; exact b2) (by rw [f4]; exact b3)
  rw [f4] at q1 q2 q3
  unfold SpendP
  generalize hr : (M (b + 4) 2 % 8).toNat = rw at q2 q3 ⊢
  have hrw : rw < 8 := by omega
  have gt : ∀ i, i < 4 → M2 (b + 16 + 2 * i) = M (b + 16 + 2 * i) := fun i hi => by rw [q3 _ (by omega) (by omega), ft i hi]
  have g1 : M2 (b + 1) = M1 (b + 1) := q3 _ (by omega) (by omega)
  have g26 : M2 (b + 26) = M1 (b + 26) := q3 _ (by omega) (by omega)
  have gp0 : M2 (b + 26) 0 = (nightV M b).1 := by rw [g26]; exact p5
  have gp1 : M2 (b + 26) 1 = (nightV M b).2.1 := by rw [g26]; exact p6
  have gp2 : M2 (b + 26) 2 = (nightV M b).2.2 := by rw [g26]; exact p7
  have g5 : M2 (b + 1) 5 = M (b + 1) 5 := by rw [g1]; exact p2 5 (by omega)
  have g8 : M2 (b + 1) 8 = 2 * v := by rw [g1]; exact p4
  generalize hp : nightV M b = p at *
  -- each pays
  have loop : ∀ (k i : Nat) (N : Nat → Int → Int), i + k = (M (b + 4) 1).toNat → (∀ a, (∀ j, j < i → a ≠ b + 16 + 2 * j) → N a = M2 a) → (∀ j, j < i → (∀ c, c ≠ 7 → N (b + 16 + 2 * j) c = M (b + 16 + 2 * j) c) ∧ N (b + 16 + 2 * j) 7 = M (b + 16 + 2 * j) 7 + nCost M b p (2 * v) j) →
      ∃ N', (∀ r, Rn S 57 53 ([], [some (vR b), some (vI (M (b + 4) 1))], T, N') r → Rn S 57 13 ([], [some (vR b), some (vI (i : Int))], T, N) r) ∧ (∀ a, (∀ j : Nat, (j : Int) < M (b + 4) 1 → a ≠ b + 16 + 2 * j) → N' a = M2 a) ∧ (∀ j : Nat, (j : Int) < M (b + 4) 1 → (∀ c, c ≠ 7 → N' (b + 16 + 2 * j) c = M (b + 16 + 2 * j) c) ∧ N' (b + 16 + 2 * j) 7 = M (b + 16 + 2 * j) 7 + nCost M b p (2 * v) j) := by
    intro k
    induction k with
    | zero =>
      intro i N hi hN hT
      have e4 : N (b + 4) 1 = M (b + 4) 1 := by rw [hN _ (fun j hj => by omega)]; exact q1.1
      have ei : M (b + 4) 1 = (i : Int) := by omega
      refine ⟨N, fun r hr => ?_, fun a ha => hN a (fun j hj => ha j (by omega)), fun j hj => hT j (by omega)⟩
      rw [ei] at hr
      refine Rn.cge rfl (X_ild rfl <| X_ald rfl <| X_gr 6 1 hS.st ⟨rfl, rfl⟩ rfl rfl <| X_gi 0 1 1 hS.be ⟨rfl, rfl, rfl⟩ (Or.inl rfl) <| X_nil) (by first | omega | (simp (disch := omega) only [um_eq, um_na, um_ni, Int.toNat_natCast]; omega)) (by rw [e4]; omega) (fun hc => ?_) (fun hc => ?_)
      · exact hr
      · rw [e4] at hc
        exact absurd hc (by omega)
    | succ k ih =>
      intro i N hi hN hT
      have hi4 : i < 4 := by omega
      have e4 : N (b + 4) 1 = M (b + 4) 1 := by rw [hN _ (fun j hj => by omega)]; exact q1.1
      have et : N (b + 16 + 2 * i) = M (b + 16 + 2 * i) := by rw [hN _ (fun j hj => by omega), gt i hi4]
      have n26 : N (b + 26) = M2 (b + 26) := hN _ (fun j hj => by omega)
      have n1 : N (b + 1) = M2 (b + 1) := hN _ (fun j hj => by omega)
      have cc := c_cost (S := S) (M := N) (s := i) hS (by unfold NiOk; rw [n26, gp0, gp1, gp2]; exact ⟨⟨hnv.1, hnv.2.1⟩, ⟨hnv.2.2.1, by omega⟩, hnv.2.2.2.2.1⟩) hi4 (TrOk_cg et (b4 i (by omega))) (by rw [n1, g5]; exact hf5)
      have ecv : costV N b i = nCost M b p (2 * v) i := costV_n (by rw [n26, gp0]) (by rw [n26, gp1]) (by rw [n26, gp2]) (by rw [n1, g5]) (by rw [n1, g8]) et
      rw [ecv] at cc
      obtain ⟨N', r1, r2, r3⟩ := ih (i + 1) (um N (b + 16 + 2 * i) 7 (M (b + 16 + 2 * i) 7 + nCost M b p (2 * v) i)) (by omega) (fun a ha => by
          rw [um_fn (ha i (by omega))]
          exact hN a (fun j hj => ha j (by omega))) (fun j hj => by
          by_cases ej : j = i
          · subst ej
            exact ⟨fun c hc => by rw [um_ni hc, et], um_eq⟩
          · rw [um_fn (by omega)]
            exact hT j (by omega))
      refine ⟨N', fun r hr => ?_, r2, r3⟩
      have e7 : N (b + 16 + 2 * i) 7 = M (b + 16 + 2 * i) 7 := by rw [et]
      refine Rn.cge rfl (X_ild rfl <| X_ald rfl <| X_gr 6 1 hS.st ⟨rfl, rfl⟩ rfl rfl <| X_gi 0 1 1 hS.be ⟨rfl, rfl, rfl⟩ (Or.inl rfl) <| X_nil) (by first | omega | (simp (disch := omega) only [um_eq, um_na, um_ni, Int.toNat_natCast]; omega)) (by rw [e4]; omega) (fun hc => ?_) (fun hc => ?_)
      · rw [e4] at hc
        exact absurd hc (by omega)
      · refine Rn.cal rfl (X_ald rfl <| X_gr 6 1 hS.st ⟨rfl, rfl⟩ rfl rfl <| X_gr 0 0 hS.be ⟨rfl, rfl⟩ rfl rfl <| X_ild rfl <| X_aa hS.sl (by decide) (by first | omega | (simp (disch := omega) only [um_eq, um_na, um_ni, Int.toNat_natCast]; omega)) (by first | omega | (simp (disch := omega) only [um_eq, um_na, um_ni, Int.toNat_natCast]; omega)) rfl (rSl_at (by omega)) <| X_gr 5 0 (hS.se (by omega)) ⟨rfl, rfl⟩ rfl rfl <| X_i <| X_du2 <| X_ia (hS.tr (by omega)) (by first | omega | (simp (disch := omega) only [um_eq, um_na, um_ni, Int.toNat_natCast]; omega)) (by first | omega | (simp (disch := omega) only [um_eq, um_na, um_ni, Int.toNat_natCast]; omega)) rfl <| X_ald rfl <| X_ild rfl <| X_nil) (vs := [_, _]) (rest := [_, _, _]) rfl rfl rfl (rcv_v hS.st (by decide)) (cc) ?_
        show Rn S 57 45 ([vI (nCost M b p (2 * v) i), vI (N (b + 16 + 2 * i) 7), vI 7, vR (b + 16 + 2 * i)], [some (vR b), some (vI (i : Int))], T, N) r
        rw [e7]
        refine Rn.jto rfl (X_add <| X_is (hS.tr (by omega)) (by first | omega | (simp (disch := omega) only [um_eq, um_na, um_ni, Int.toNat_natCast]; omega)) (by first | omega | (simp (disch := omega) only [um_eq, um_na, um_ni, Int.toNat_natCast]; omega)) rfl <| X_inc rfl (L' := [_, _]) rfl <| X_nil) ?_
        exact r1 r hr
  obtain ⟨N, r1, r2, r3⟩ := loop (M (b + 4) 1).toNat 0 M2 (by omega) (fun a _ => rfl) (fun j hj => by omega)
  have n26 : N (b + 26) = M2 (b + 26) := r2 _ (fun j hj => by omega)
  have np1 : N (b + 26) 1 = p.2.1 := by rw [n26, gp1]
  have start : ∀ r, Rn S 57 53 ([], [some (vR b), some (vI (M (b + 4) 1))], T, N) r → Cl S 57 [vR b] (T, M) r := by
    intro r hr
    refine ⟨_, rfl, ?_⟩
    refine Rn.cal rfl (X_ald rfl <| X_nil) (vs := [_]) (rest := []) rfl rfl rfl (rcv_v hS.st (by decide)) (c1) ?_
    refine Rn.cal rfl (X_ald rfl <| X_gr 6 1 hS.st ⟨rfl, rfl⟩ rfl rfl <| X_nil) (vs := [_]) (rest := []) rfl rfl rfl (rcv_v hS.be (by decide)) (c2) ?_
    refine Rn.fal rfl (X_i <| X_ist rfl (L' := [_, _]) rfl <| X_nil) ?_
    exact r1 r hr
  -- who put it out counts one more
  have fin : ∀ M' : Nat → Int → Int, Cl S 57 [vR b] (T, M) (some (vI p.2.1), (T, M')) → (∀ a, (∀ i : Nat, (i : Int) < M (b + 4) 1 → a ≠ b + 16 + 2 * i) → M' a = N a) → (∀ i : Nat, (i : Int) < M (b + 4) 1 → (∀ k, k ≠ 6 → M' (b + 16 + 2 * i) k = N (b + 16 + 2 * i) k) ∧ M' (b + 16 + 2 * i) 6 = N (b + 16 + 2 * i) 6 + (if p.2.1 = (i : Int) then 1 else 0)) → ∃ M' v, Cl S 57 [vR b] (T, M) (some (vI p.2.1), (T, M')) ∧ WayIs M b (M (b + 1) 3).toNat (M (b + 1) 2).toNat v ∧ ((∀ k, k ≠ 8 → M' (b + 1) k = M (b + 1) k) ∧ M' (b + 1) 8 = 2 * v) ∧ (M' (b + 26) 0 = p.1 ∧ M' (b + 26) 1 = p.2.1 ∧ M' (b + 26) 2 = p.2.2) ∧
    (M' (b + 4) 1 = M (b + 4) 1 ∧ M' (b + 4) 2 = M (b + 4) 2 + 1 ∧ M' (b + 4) 3 = (if 8 < M (b + 4) 3 + 1 then 8 else M (b + 4) 3 + 1)) ∧
    (M' (b + 7 + rw) 0 = M (b + 4) 1 ∧ ∀ i : Nat, (i : Int) < M (b + 4) 1 → M' (b + 7 + rw) (1 + 2 * i) = M (b + 16 + 2 * i) 6 ∧ M' (b + 7 + rw) (2 + 2 * i) = M (b + 16 + 2 * i) 7) ∧
    (∀ i : Nat, (i : Int) < M (b + 4) 1 → (∀ k, k ≠ 6 → k ≠ 7 → M' (b + 16 + 2 * i) k = M (b + 16 + 2 * i) k) ∧ M' (b + 16 + 2 * i) 6 = M (b + 16 + 2 * i) 6 + (if p.2.1 = (i : Int) then 1 else 0) ∧ M' (b + 16 + 2 * i) 7 = M (b + 16 + 2 * i) 7 + nCost M b p (2 * v) i) ∧
    (∀ a, a ≠ b + 1 → a ≠ b + 3 → a ≠ b + 4 → a ≠ b + 26 → a ≠ b + 7 + rw → (∀ i : Nat, (i : Int) < M (b + 4) 1 → a ≠ b + 16 + 2 * i) → M' a = M a) := by
    intro M' hC h1 h2
    have k1 : M' (b + 1) = M2 (b + 1) := by rw [h1 _ (fun i hi => by omega), r2 _ (fun i hi => by omega)]
    have k26 : M' (b + 26) = M2 (b + 26) := by rw [h1 _ (fun i hi => by omega), r2 _ (fun i hi => by omega)]
    have k4 : M' (b + 4) = M2 (b + 4) := by rw [h1 _ (fun i hi => by omega), r2 _ (fun i hi => by omega)]
    have kr : M' (b + 7 + rw) = M2 (b + 7 + rw) := by rw [h1 _ (fun i hi => by omega), r2 _ (fun i hi => by omega)]
    refine ⟨M', v, hC, p3, ⟨fun k hk => by rw [k1, g1]; exact p2 k hk, by rw [k1]; exact g8⟩, ⟨by rw [k26]; exact gp0, by rw [k26]; exact gp1, by rw [k26]; exact gp2⟩, by rw [k4]; exact q1, ⟨by rw [kr]; exact q2.1, fun i hi => ?_⟩, fun i hi => ⟨fun k k6 k7 => ?_, ?_, ?_⟩, fun a a1 a3 a4 a6 ar at' => ?_⟩
    · rw [kr]
      have := q2.2 i hi
      rw [ft i (by omega)] at this
      exact this
    · rw [(h2 i hi).1 k k6, (r3 i hi).1 k k7]
    · rw [(h2 i hi).2, (r3 i hi).1 6 (by omega)]
    · rw [(h2 i hi).1 7 (by omega), (r3 i hi).2]
    · rw [h1 a at', r2 a at', q3 a a4 ar, p1 a a1 a3 a6]
  by_cases hwho : p.2.1 = -1
  · refine fin N (start _ ?_) (fun a _ => rfl) (fun i hi => ⟨fun k _ => rfl, ?_⟩)
    · refine Rn.ceq rfl (X_ald rfl <| X_gr 6 3 hS.st ⟨rfl, rfl⟩ rfl rfl <| X_gi 2 1 1 hS.ni ⟨rfl, rfl, rfl⟩ (Or.inl rfl) <| X_i <| X_nil) (by rw [np1]; omega) (by first | omega | (simp (disch := omega) only [um_eq, um_na, um_ni, Int.toNat_natCast]; omega)) (fun hc => ?_) (fun hc => ?_)
      · rw [← np1]
        refine Rn.ri rfl (X_ald rfl <| X_gr 6 3 hS.st ⟨rfl, rfl⟩ rfl rfl <| X_gi 2 1 1 hS.ni ⟨rfl, rfl, rfl⟩ (Or.inl rfl) <| X_nil) rfl
      · rw [np1] at hc
        exact absurd hwho hc
    · rw [if_neg (by omega)]
      omega
  · obtain ⟨j, hj⟩ : ∃ j : Nat, p.2.1 = (j : Int) := ⟨p.2.1.toNat, by omega⟩
    have hj4 : j < 4 := by omega
    have hjm : (j : Int) < M (b + 4) 1 := by omega
    have npj : N (b + 26) 1 = (j : Int) := by rw [np1, hj]
    refine fin (um N (b + 16 + 2 * j) 6 (N (b + 16 + 2 * j) 6 + 1)) (start _ ?_) (fun a ha => um_fn (ha j hjm)) (fun i hi => ?_)
    · refine Rn.ceq rfl (X_ald rfl <| X_gr 6 3 hS.st ⟨rfl, rfl⟩ rfl rfl <| X_gi 2 1 1 hS.ni ⟨rfl, rfl, rfl⟩ (Or.inl rfl) <| X_i <| X_nil) (by rw [np1]; omega) (by first | omega | (simp (disch := omega) only [um_eq, um_na, um_ni, Int.toNat_natCast]; omega)) (fun hc => ?_) (fun hc => ?_)
      · rw [np1] at hc
        exact absurd hc hwho
      · clear hc
        refine Rn.fal rfl (X_ald rfl <| X_gr 6 1 hS.st ⟨rfl, rfl⟩ rfl rfl <| X_gr 0 0 hS.be ⟨rfl, rfl⟩ rfl rfl <| X_ald rfl <| X_gr 6 3 hS.st ⟨rfl, rfl⟩ rfl rfl <| X_gi 2 1 1 hS.ni ⟨rfl, rfl, rfl⟩ (Or.inl rfl) <| X_aa hS.sl (by decide) (by rw [npj]; omega) (by rw [npj]; omega) rfl (b := b + 15 + 2 * j) (by rw [npj]; exact rSl_at hj4) <| X_gr 5 0 (hS.se hj4) ⟨rfl, rfl⟩ rfl rfl <| X_i <| X_du2 <| X_ia (hS.tr hj4) (by omega) (by omega) rfl <| X_i <| X_add <| X_is (hS.tr hj4) (by omega) (by omega) rfl <| X_nil) ?_
        have en : um N (b + 16 + 2 * j) 6 (N (b + 16 + 2 * j) 6 + 1) (b + 26) 1 = p.2.1 := by rw [um_na (by omega), np1]
        rw [← en]
        refine Rn.ri rfl (X_ald rfl <| X_gr 6 3 hS.st ⟨rfl, rfl⟩ rfl rfl <| X_gi 2 1 1 hS.ni ⟨rfl, rfl, rfl⟩ (Or.inl rfl) <| X_nil) rfl
    · by_cases ei : i = j
      · subst ei
        rw [if_pos hj]
        exact ⟨fun k hk => um_ni hk, um_eq⟩
      · rw [if_neg (by omega), um_fn (by omega)]
        exact ⟨fun k _ => rfl, by omega⟩
end Spend
