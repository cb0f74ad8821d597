/-! WORTH -/
section Worth
variable {S : List Int} {T : List Sh} {M N C C' : Nat → Int → Int} {a b b' K j : Nat} {v : Int} {h : Hp}
def sumF (f : Nat → Int) : Nat → Int
  | 0 => 0
  | n + 1 => sumF f n + f n
theorem sumF_one {f0 f1 : Nat → Int} {w e : Int} : ∀ n : Nat, (∀ s, s < n → f0 s = f1 s + (if w = (s : Int) then e else 0)) → sumF f0 n = sumF f1 n + (if 0 ≤ w ∧ w < (n : Int) then e else 0)
  | 0, _ => by
    unfold sumF
    rw [if_neg (by omega)]
    rfl
  | n + 1, h => by
    have ih := sumF_one n (fun s hs => h s (by omega))
    have hn := h n (by omega)
    unfold sumF
    rw [ih, hn]
    by_cases h1 : w = (n : Int)
    · rw [if_pos h1, if_neg (by omega), if_pos (by omega)]
      omega
    · rw [if_neg h1]
      by_cases h2 : 0 ≤ w ∧ w < (n : Int)
      · rw [if_pos h2, if_pos (by omega)]
        omega
      · rw [if_neg h2, if_neg (by omega)]
        omega
theorem sumF_dif {f0 f1 f2 : Nat → Int} : ∀ n : Nat, (∀ s, s < n → f0 s = f1 s + f2 s) → sumF f0 n = sumF f1 n + sumF f2 n
  | 0, _ => rfl
  | n + 1, h => by
    have ih := sumF_dif n (fun s hs => h s (by omega))
    have hn := h n (by omega)
    unfold sumF
    omega
theorem sumT_add {M' : Nat → Int → Int} {t : Int} {f : Nat → Int} : ∀ n : Nat, (∀ s, s < n → M' (b + 16 + 2 * s) t = M (b + 16 + 2 * s) t + f s) → sumT M' b t n = sumT M b t n + sumF f n
  | 0, _ => rfl
  | n + 1, h => by
    have ih := sumT_add n (fun s hs => h s (by omega))
    have hn := h n (by omega)
    unfold sumT sumF
    omega
theorem first_of {P : Nat → Prop} : ∀ n : Nat, ∃ q, q ≤ n ∧ (∀ l, l < q → ¬ P l) ∧ (q < n → P q)
  | 0 => ⟨0, Nat.le_refl 0, fun l hl => by omega, fun h => by omega⟩
  | n + 1 => by
    obtain ⟨q, q1, q2, q3⟩ := first_of (P := P) n
    by_cases hq : q < n
    · exact ⟨q, by omega, q2, fun _ => q3 hq⟩
    · have e : q = n := by omega
      subst e
      by_cases hp : P q
      · exact ⟨q, by omega, q2, fun _ => hp⟩
      · refine ⟨q + 1, Nat.le_refl _, fun l hl => ?_, fun h => by omega⟩
        by_cases el : l = q
        · subst el; exact hp
        · exact q2 l (by omega)
/-- what a night costs them all -/
def totN (c v : Int) (C : Nat → Int → Int) (z : Nat) : Int := sumF (fun s => nCo c C 28 (nightV C 28) (2 * v) s) z
theorem totN_er {z : Nat} (hz : C (28 + 4) 1 = (z : Int)) (hb : BeOk C 28) (hp : SpendP C C' 28 v (nightV C 28)) : totN 0 v C z = totN 1 v C z + errV C' 28 := by
  have ni := nightV_in hb
  rw [hz] at ni
  obtain ⟨⟨p1, p2⟩, ⟨n0, n1, n2⟩, ⟨q1, q2, q3⟩, pr, pt, pf⟩ := hp
  unfold totN
  rw [sumF_one (f1 := fun s => nCo 1 C 28 (nightV C 28) (2 * v) s) (w := (nightV C 28).2.1) (e := errV C' 28) z (fun s hs => ?_)]
  · congr 1
    by_cases hw : (nightV C 28).2.1 = -1
    · rw [if_neg (by omega)]
      unfold errV
      rw [n1, if_pos hw]
    · rw [if_pos (by omega)]
  · unfold nCo
    by_cases hw : (nightV C 28).2.1 = (s : Int)
    · rw [if_pos ⟨hw, rfl⟩, if_neg (fun (x : _ ∧ (1 : Int) = 0) => absurd x.2 (by decide)), if_pos hw]
      unfold errV
      rw [n1, n2, p2, hw, if_neg (show ¬ (s : Int) = -1 by omega), Int.toNat_natCast, (pt s (by rw [hz]; omega)).1 3 (by decide) (by decide)]
    · rw [if_neg (fun x => hw x.1), if_neg (fun x => hw x.1), if_neg hw, Int.add_zero]
/-- the model beside the class's trial, by a purse of its own -/
def WtOk (M N C : Nat → Int → Int) (v c : Int) (K i : Nat) (F : Int) : Prop := Sm7 (M 5 1).toNat (V N) 0 C 28 ∧ N 77 = M 77 ∧ N 76 17 = v ∧ N 76 18 = c ∧ (∀ k, ¬ (17 ≤ k ∧ k ≤ 21) → N 76 k = M 76 k) ∧ (∀ s : Nat, (s : Int) < M 5 1 → 0 ≤ N 84 (s : Int) ∧ N 84 (s : Int) ≤ 120000 * (K : Int) + 4000 * (i : Int)) ∧ sumT (V N) 0 7 (M 5 1).toNat = F ∧ (∀ a, a < 28 ∨ 55 ≤ a → a ≠ 76 → ¬ (81 ≤ a ∧ a ≤ 85) → N a = M a)
theorem WtOk.step {c F : Int} {i : Nat} (g : Gl T M K) (hK : K ≤ 100) (hi : i ≤ 70) (hc : c = 0 ∨ c = 1) (nt : NtOk C 28 K i) (ez : C (28 + 4) 1 = M 5 1) (v2 : 0 ≤ v ∧ v ≤ 200) (hp : SpendP C C' 28 v (nightV C 28)) (hw : WtOk M N C v c K i F) : ∃ P N', Cl S 158 [vR 76] (T, N) (none, (T, P)) ∧ Cl S 160 [vR 76] (T, P) (none, (T, N')) ∧ WtOk M N' C' v c K (i + 1) (F + totN c v C (M 5 1).toNat) ∧ N' 85 = N 85 := by
  have hM := g.m
  have hz := g.sz
  have ni := nightV_in (nt.be hK (by omega))
  obtain ⟨w1, w2, w3, w4, w5, w6, w7, w8⟩ := hw
  obtain ⟨P, N', k1, k2, k3, k4, k5, k6, k7, k8⟩ := mstep7 (S := S) (C' := C') (v := v) hM hK (by omega) nt (by rw [ez]; exact w1) (fun s hs => by
    rw [ez] at hs
    have := w6 s hs
    omega) (by rw [w2, ez]; exact hz.1) w3 (by rw [w4]; omega) hp
  rw [ez, w4] at k4
  rw [ez] at k3
  refine ⟨P, N', k1, k2, ⟨k3, by rw [k7 77 (by decide) (by decide) (by decide)]; exact w2, by rw [k6 17 (by decide) (by decide) (by decide)]; exact w3, by rw [k6 18 (by decide) (by decide) (by decide)]; exact w4, fun k hk => by rw [k6 k (by omega) (by omega) (by omega)]; exact w5 k hk, fun s hs => ?_, ?_, fun a a1 a2 a3 => by rw [k7 a a2 (by omega) (by omega)]; exact w8 a a1 a2 a3⟩, k7 85 (by decide) (by decide) (by decide)⟩
  · have x := w6 s hs
    have y := nCo_in (M := C) (b := 28) (c := c) (s := s) (p := nightV C 28) (wk := 2 * v) ((nt.2.2.2.2 s (by rw [ez]; exact hs)).ok hK (by omega)) (by omega) (by omega) (by omega) (by omega)
    rw [k4 s hs]
    omega
  · rw [← w7]
    exact sumT_add _ (fun s hs => by
      rw [V_7, V_7]
      exact k4 s (by omega))
theorem WtOk.w85 {c F x : Int} {i : Nat} {l : Int} (hw : WtOk M N C v c K i F) : WtOk M (um N 85 l x) C v c K i F := by
  obtain ⟨w1, w2, w3, w4, w5, w6, w7, w8⟩ := hw
  have e : ∀ a, a ≠ 85 → um N 85 l x a = N a := fun a ha => um_fn ha
  have ev : V (um N 85 l x) = V N := V_fn (e 77 (by decide)) (e 82 (by decide)) (e 83 (by decide)) (e 84 (by decide))
  unfold WtOk
  rw [ev, e 77 (by decide), e 76 (by decide), e 84 (by decide)]
  exact ⟨w1, w2, w3, w4, w5, w6, w7, fun a a1 a2 a3 => by rw [e a (by omega)]; exact w8 a a1 a2 a3⟩
theorem WtOk.bd {c F : Int} {i : Nat} (hw : WtOk M N C v c K i F) (hK : K ≤ 100) (hi : i ≤ 70) (hz : 0 ≤ M 5 1 ∧ M 5 1 ≤ 4) : 0 ≤ F ∧ F ≤ 80000000 := by
  obtain ⟨w1, w2, w3, w4, w5, w6, w7, w8⟩ := hw
  have bd := sumT_bd (M := V N) (b := 0) (t := 7) (B := 20000000) (M 5 1).toNat (fun s hs => by
    have := w6 s (by omega)
    rw [V_7]
    omega)
  omega
/-- the model lays its numbers for a trial -/
theorem lay_wt {D : Nat → Int → Int} (g : Gl T M K) (hc : CpSt M D 1 28) (hw : ∀ v, WayIs D 28 (D 29 3).toNat (D 29 2).toNat v → WayIs M 1 (M 2 3).toNat (M 2 2).toNat v) (hv : WayIs D 28 (D 29 3).toNat (D 29 2).toNat v) (n77 : N 77 = M 77) (n76 : ∀ k, ¬ (17 ≤ k ∧ k ≤ 21) → N 76 k = M 76 k) (nf : ∀ a, a < 28 ∨ 55 ≤ a → a ≠ 76 → ¬ (81 ≤ a ∧ a ≤ 85) → N a = M a) : ∃ M2, Cl S 156 [vR 76] (T, N) (none, (T, M2)) ∧ (∀ c, WtOk M (um M2 76 18 c) D v c K 0 (sumT M 1 7 (M 5 1).toNat)) ∧ M2 85 = N 85 := by
  have hz := g.sz
  obtain ⟨M2, cl, ls, lw, lc, l76, lf⟩ := lay_of (S := S) (N := N) g n77
  refine ⟨M2, cl, fun c => ?_, lf 85 (by decide) (by decide) (by decide) (by decide) (by decide)⟩
  have e : ∀ a, a ≠ 76 → um M2 76 18 c a = M2 a := fun a ha => um_fn ha
  have ev : V (um M2 76 18 c) = V M2 := V_fn (e 77 (by decide)) (e 82 (by decide)) (e 83 (by decide)) (e 84 (by decide))
  unfold WtOk
  rw [ev, e 77 (by decide), e 84 (by decide)]
  refine ⟨fun i hi k k0 k7 => ?_, by rw [lf 77 (by decide) (by decide) (by decide) (by decide) (by decide)]; exact n77, by rw [um_ni (by decide)]; exact lw v (hw v hv), um_eq, fun k hk => by rw [um_ni (by omega), l76 k (by omega) (by omega)]; exact n76 k hk, fun s hs => ?_, sumT_pw (by decide) (by decide) _ ls, fun a a1 a2 a3 => by rw [e a a2, lf a a2 (by omega) (by omega) (by omega) (by omega)]; exact nf a a1 a2 a3⟩
  · rw [ls i hi k k0 (by omega)]
    exact (hc.2.2.2.1 i (by omega) k k0 (by omega)).symm
  · have x := ls s (by omega) 7 (by decide) (by decide)
    rw [V_7] at x
    have t := (g.rg.tr s hs).2.2
    rw [x]
    omega
theorem op_worth {n : Int} (g : Gl T M K) (hK : K ≤ 100) (inn : I32 n) : Op S 86 171 [vI n] T M K := by
  have hX := g.x
  have hM := g.m
  have hz := g.sz
  by_cases h1 : 0 ≤ n ∧ n ≤ 9999
  case neg =>
    refine Op.bad (v := -2) (k := 0) g (by decide) (by decide) (by decide) ⟨_, rfl, ?_⟩ (fun M1 h80 => ⟨_, rfl, ?_⟩) trivial
    · refine Rn.cal rfl (X_ild rfl <| X_i <| X_i <| X_nil) (vs := [_, _, _]) (rest := []) rfl rfl rfl rfl (c_wN (by omega) (by decide) (by decide) h1) ?_
      refine Rn.ine rfl (X_nil) (by first | omega | (simp (disch := omega) only [um_eq, um_na, um_ni, Int.toNat_natCast]; omega)) (fun hc => absurd hc (by first | omega | decide | (simp (disch := omega) only [um_eq, um_na, um_ni, Int.toNat_natCast]; omega))) (fun hc => ?_)
      refine Rn.cal rfl (X_ald rfl <| X_i <| X_nil) (vs := [_, _]) (rest := []) rfl rfl rfl (rcv_v hX.ob (by decide)) (c_bad hX) ?_
      refine Rn.ri rfl (X_nil) rfl
    · refine Rn.cal rfl (X_ild rfl <| X_i2l (by first | omega | (simp (disch := omega) only [um_eq, um_na, um_ni, Int.toNat_natCast]; omega)) <| X_l <| X_l <| X_nil) (vs := [_, _, _]) (rest := []) rfl rfl rfl rfl (c_iN (by omega) (by decide) (by decide) h1) ?_
      refine Rn.ine rfl (X_nil) (by first | omega | (simp (disch := omega) only [um_eq, um_na, um_ni, Int.toNat_natCast]; omega)) (fun hc => absurd hc (by first | omega | decide | (simp (disch := omega) only [um_eq, um_na, um_ni, Int.toNat_natCast]; omega))) (fun hc => ?_)
      refine Rn.cal rfl (X_ald rfl <| X_nil) (vs := [_]) (rest := []) rfl rfl rfl (rcv_v hM.ob (by decide)) (c_mbad hM) ?_
      refine Rn.ri rfl (X_nil) rfl
  obtain ⟨M1, c1, nt, hc, hw⟩ := trial_of (S := S) g
  obtain ⟨D, v, d0, dv, v2, dP, dR⟩ := nights_of (S := S) hX.s2 hK 61 (by omega) nt
  have fr := hc.2.2.2.2.2.2.2
  have z1 : M1 (28 + 4) 1 = M 5 1 := hc.2.2.1.1
  have dz : ∀ i, i ≤ 61 → D i (28 + 4) 1 = M 5 1 := fun i hi => by rw [(dP i hi).2.2.2.1]; exact z1
  have df : ∀ i, i ≤ 61 → ∀ a, a < 28 ∨ 55 ≤ a → D i a = M a := fun i hi a ha => by
    rw [(dP i hi).2.2.2.2 a (by omega)]
    exact fr a ha
  have zz : M 5 1 = (((M 5 1).toNat : Nat) : Int) := by omega
  -- what is saved
  generalize hF : sumT M 1 7 (M 5 1).toNat = F0
  have er : ∀ i, i < 61 → totN 0 v (D i) (M 5 1).toNat = totN 1 v (D i) (M 5 1).toNat + errV (D (i + 1)) 28 := fun i hi => totN_er (by rw [dz i (by omega)]; exact zz) ((dP i (by omega)).1.be hK (by omega)) (dR i hi).2
  have dif : ∀ i, i ≤ 61 → sumF (fun j => totN 0 v (D j) (M 5 1).toNat) i = sumF (fun j => totN 1 v (D j) (M 5 1).toNat) i + sumF (fun j => errV (D (j + 1)) 28) i := fun i hi => sumF_dif i (fun s hs => er s (by omega))
  have eb : ∀ i, i < 61 → 0 ≤ errV (D (i + 1)) 28 ∧ errV (D (i + 1)) 28 ≤ 420 := fun i hi => by
    have ni := nightV_in ((dP i (by omega)).1.be hK (by omega))
    have ez := dz i (by omega)
    obtain ⟨⟨p1, p2⟩, ⟨n0, n1, n2⟩, ⟨q1, q2, q3⟩, pr, pt, pf⟩ := (dR i hi).2
    unfold errV
    rw [n1, n2, p2]
    split
    · omega
    · have t := ((dP i (by omega)).1.2.2.2.2 (nightV (D i) 28).2.1.toNat (by omega)).1.2.2.2.1
      have e3 := (pt (nightV (D i) 28).2.1.toNat (by omega)).1 3 (by decide) (by decide)
      rw [e3]
      split <;> omega
  have sb : ∀ i, i ≤ 61 → 0 ≤ sumF (fun j => errV (D (j + 1)) 28) i ∧ sumF (fun j => errV (D (j + 1)) 28) i ≤ 420 * (i : Int) := fun i => by
    induction i with
    | zero => intro _; unfold sumF; omega
    | succ i ih =>
      intro hi
      have x := ih (by omega)
      have y := eb i (by omega)
      have e : sumF (fun j => errV (D (j + 1)) 28) (i + 1) = sumF (fun j => errV (D (j + 1)) 28) i + errV (D (i + 1)) 28 := rfl
      rw [e]
      omega
  obtain ⟨q, q1, q2, q3⟩ := first_of (P := fun i => n ≤ sumF (fun j => errV (D (j + 1)) 28) i) 61
  obtain ⟨x, hx⟩ : ∃ x : Int, x = if q < 61 then (q : Int) else -1 := ⟨_, rfl⟩
  have cloop : ∀ (k i : Nat), i + k = q → Rn S 86 33 ([], [some (vR 0), some (vI n), some (vI (sumF (fun j => errV (D (j + 1)) 28) i)), some (vI (i : Int))], T, D i) (some (vI x), (T, D q)) := by
    intro k
    induction k with
    | zero =>
      intro i hi
      have ei : i = q := by omega
      subst ei
      have y := sb i q1
      by_cases hq : i < 61
      · have hq3 := q3 hq
        rw [if_pos hq] at hx
        rw [hx]
        refine Rn.cgt rfl (X_ild rfl <| X_i <| X_nil) (by first | omega | (simp (disch := omega) only [um_eq, um_na, um_ni, Int.toNat_natCast]; omega)) (by first | omega | (simp (disch := omega) only [um_eq, um_na, um_ni, Int.toNat_natCast]; omega)) (fun hc => absurd hc (by first | omega | decide | (simp (disch := omega) only [um_eq, um_na, um_ni, Int.toNat_natCast]; omega))) (fun hc => ?_)
        refine Rn.clt rfl (X_ild rfl <| X_ild rfl <| X_nil) (by first | omega | (simp (disch := omega) only [um_eq, um_na, um_ni, Int.toNat_natCast]; omega)) (by first | omega | (simp (disch := omega) only [um_eq, um_na, um_ni, Int.toNat_natCast]; omega)) (fun hc => absurd hc (by first | omega | decide | (simp (disch := omega) only [um_eq, um_na, um_ni, Int.toNat_natCast]; omega))) (fun hc => ?_)
        refine Rn.ri rfl (X_ild rfl <| X_nil) rfl
      · rw [if_neg hq] at hx
        rw [hx]
        refine Rn.cgt rfl (X_ild rfl <| X_i <| X_nil) (by first | omega | (simp (disch := omega) only [um_eq, um_na, um_ni, Int.toNat_natCast]; omega)) (by first | omega | (simp (disch := omega) only [um_eq, um_na, um_ni, Int.toNat_natCast]; omega)) (fun hc => ?_) (fun hc => absurd hc (by first | omega | decide | (simp (disch := omega) only [um_eq, um_na, um_ni, Int.toNat_natCast]; omega)))
        refine Rn.ri rfl (X_i <| X_nil) rfl
    | succ k ih =>
      intro i hi
      have nx := ih (i + 1) (by omega)
      have cs := (dR i (by omega)).1
      have y := sb i (by omega)
      have hq2 := q2 i (by omega)
      have ni := nightV_in ((dP i (by omega)).1.be hK (by omega))
      have ez := dz i (by omega)
      have n012 := (dR i (by omega)).2.2.1
      have ce := c_errand (S := S) (M := D (i + 1)) (b := 28) hX.s2 ⟨by rw [n012.1]; omega, by rw [n012.2.1]; omega, by rw [n012.2.2]; exact ni.2.2.2.2.1⟩
      refine Rn.cgt rfl (X_ild rfl <| X_i <| X_nil) (by first | omega | (simp (disch := omega) only [um_eq, um_na, um_ni, Int.toNat_natCast]; omega)) (by first | omega | (simp (disch := omega) only [um_eq, um_na, um_ni, Int.toNat_natCast]; omega)) (fun hc => absurd hc (by first | omega | decide | (simp (disch := omega) only [um_eq, um_na, um_ni, Int.toNat_natCast]; omega))) (fun hc => ?_)
      refine Rn.clt rfl (X_ild rfl <| X_ild rfl <| X_nil) (by first | omega | (simp (disch := omega) only [um_eq, um_na, um_ni, Int.toNat_natCast]; omega)) (by first | omega | (simp (disch := omega) only [um_eq, um_na, um_ni, Int.toNat_natCast]; omega)) (fun hc => ?_) (fun hc => absurd hc (by first | omega | decide | (simp (disch := omega) only [um_eq, um_na, um_ni, Int.toNat_natCast]; omega)))
      refine Rn.cal rfl (X_ald rfl <| X_gr 7 1 hX.ob ⟨rfl, rfl⟩ rfl rfl <| X_nil) (vs := [_]) (rest := []) rfl rfl rfl (rcv_v hX.s2.st (by decide)) (cs) ?_
      refine Rn.cal rfl (X_pop <| X_ild rfl <| X_ald rfl <| X_gr 7 1 hX.ob ⟨rfl, rfl⟩ rfl rfl <| X_nil) (vs := [_]) (rest := [_]) rfl rfl rfl (rcv_v hX.s2.st (by decide)) (ce) ?_
      refine Rn.jto rfl (X_add <| X_ist rfl (L' := [_, _, _, _]) rfl <| X_inc rfl (L' := [_, _, _, _]) rfl <| X_nil) ?_
      exact nx
  -- the model: without a cord
  have dq77 : D q 77 = M 77 := df q q1 77 (by omega)
  obtain ⟨A0, ca, a1, a2⟩ := lay_wt (S := S) (N := D q) g hc hw dv dq77 (fun k _ => by rw [df q q1 76 (by omega)]) (fun a ha _ _ => df q q1 a ha)
  rw [hF] at a1
  obtain ⟨A, e0, eP, eR⟩ := seq_of (P := fun i N => WtOk M N (D i) v 0 K i (F0 + sumF (fun j => totN 0 v (D j) (M 5 1).toNat) i) ∧ ∀ l : Nat, l < i → N 85 (l : Int) = F0 + sumF (fun j => totN 0 v (D j) (M 5 1).toNat) l ∧ 0 ≤ N 85 (l : Int) ∧ N 85 (l : Int) ≤ 80000000) (R := fun i N N' => ∃ P, Cl S 158 [vR 76] (T, um N 85 (i : Int) (F0 + sumF (fun j => totN 0 v (D j) (M 5 1).toNat) i)) (none, (T, P)) ∧ Cl S 160 [vR 76] (T, P) (none, (T, N'))) (c := um A0 76 18 0) ⟨by
      rw [d0, show F0 + sumF (fun j => totN 0 v (D j) (M 5 1).toNat) 0 = F0 from Int.add_zero F0]
      exact a1 0, fun l hl => by omega⟩ 61 (fun i N hi hN => by
    obtain ⟨n1, n2⟩ := hN
    have bd := n1.bd hK (by omega) hz.2
    obtain ⟨P, N', k1, k2, k3, k4⟩ := WtOk.step (S := S) (C' := D (i + 1)) (i := i) g hK (by omega) (Or.inl rfl) (dP i (by omega)).1 (dz i (by omega)) v2 (dR i hi).2 (n1.w85 (l := (i : Int)) (x := F0 + sumF (fun j => totN 0 v (D j) (M 5 1).toNat) i))
    refine ⟨N', ⟨?_, fun l hl => ?_⟩, P, k1, k2⟩
    · rw [Int.add_assoc] at k3
      exact k3
    · rw [k4]
      by_cases el : l = i
      · subst el
        rw [um_eq]
        exact ⟨rfl, bd⟩
      · rw [um_ni (by omega)]
        exact n2 l (by omega))
  have aloop : ∀ (k i : Nat), i + k = 61 → Rn S 170 11 ([], [some (vR 76), some (vI (i : Int))], T, A i) (none, (T, A 61)) := by
    intro k
    induction k with
    | zero =>
      intro i hi
      have ei : i = 61 := by omega
      subst ei
      refine Rn.cgt rfl (X_ild rfl <| X_i <| X_nil) (by first | omega | (simp (disch := omega) only [um_eq, um_na, um_ni, Int.toNat_natCast]; omega)) (by first | omega | (simp (disch := omega) only [um_eq, um_na, um_ni, Int.toNat_natCast]; omega)) (fun hc => ?_) (fun hc => absurd hc (by first | omega | decide | (simp (disch := omega) only [um_eq, um_na, um_ni, Int.toNat_natCast]; omega)))
      refine Rn.rv rfl (X_nil) rfl
    | succ k ih =>
      intro i hi
      have nx := ih (i + 1) (by omega)
      obtain ⟨P, k1, k2⟩ := eR i (by omega)
      obtain ⟨w1, w2, w3, w4, w5, w6, w7, w8⟩ := (eP i (by omega)).1
      have cs := c_sumOf (S := S) (M := A i) (w := 1) (n := (M 5 1).toNat) hM (by rw [w2, hz.1]; exact zz) (by omega) (Or.inr rfl)
      rw [show (6 : Int) + 1 = 7 from rfl, w7] at cs
      refine Rn.cgt rfl (X_ild rfl <| X_i <| X_nil) (by first | omega | (simp (disch := omega) only [um_eq, um_na, um_ni, Int.toNat_natCast]; omega)) (by first | omega | (simp (disch := omega) only [um_eq, um_na, um_ni, Int.toNat_natCast]; omega)) (fun hc => absurd hc (by first | omega | decide | (simp (disch := omega) only [um_eq, um_na, um_ni, Int.toNat_natCast]; omega))) (fun hc => ?_)
      refine Rn.cal rfl (X_ald rfl <| X_gr 8 22 hM.ob ⟨rfl, rfl⟩ rfl rfl <| X_ild rfl <| X_ald rfl <| X_i <| X_nil) (vs := [_, _]) (rest := [_, _]) rfl rfl rfl (rcv_v hM.ob (by decide)) (cs) ?_
      refine Rn.cal rfl (X_is hM.wo (by first | omega | (simp (disch := omega) only [um_eq, um_na, um_ni, Int.toNat_natCast]; omega)) (by first | omega | (simp (disch := omega) only [um_eq, um_na, um_ni, Int.toNat_natCast]; omega)) rfl <| X_ald rfl <| X_nil) (vs := [_]) (rest := []) rfl rfl rfl (rcv_v hM.ob (by decide)) (k1) ?_
      refine Rn.cal rfl (X_ald rfl <| X_nil) (vs := [_]) (rest := []) rfl rfl rfl (rcv_v hM.ob (by decide)) (k2) ?_
      refine Rn.jto rfl (X_inc rfl (L' := [_, _]) rfl <| X_nil) ?_
      exact nx
  have cwo : Cl S 170 [vR 76] (T, D q) (none, (T, A 61)) := by
    have l0 := aloop 61 0 (by omega)
    rw [e0] at l0
    refine ⟨_, rfl, ?_⟩
    refine Rn.cal rfl (X_ald rfl <| X_nil) (vs := [_]) (rest := []) rfl rfl rfl (rcv_v hM.ob (by decide)) (ca) ?_
    refine Rn.fal rfl (X_ald rfl <| X_i <| X_pi 8 18 18 hM.ob ⟨rfl, rfl, rfl⟩ (Or.inl rfl) <| X_i <| X_ist rfl (L' := [_, _]) rfl <| X_nil) ?_
    exact l0
  -- .. and with one
  obtain ⟨⟨w1, w2, w3, w4, w5, w6, w7, w8⟩, wo⟩ := eP 61 (Nat.le_refl 61)
  obtain ⟨B0, cb, b1, b2⟩ := lay_wt (S := S) (N := A 61) g hc hw dv w2 w5 w8
  rw [hF] at b1
  obtain ⟨B, f0, fP, fR⟩ := seq_of (P := fun i N => WtOk M N (D i) v 1 K i (F0 + sumF (fun j => totN 1 v (D j) (M 5 1).toNat) i) ∧ N 85 = A 61 85) (R := fun i N N' => ∃ P, Cl S 158 [vR 76] (T, N) (none, (T, P)) ∧ Cl S 160 [vR 76] (T, P) (none, (T, N'))) (c := um B0 76 18 1) ⟨by
      rw [d0, show F0 + sumF (fun j => totN 1 v (D j) (M 5 1).toNat) 0 = F0 from Int.add_zero F0]
      exact b1 1, by rw [um_fn (by decide)]; exact b2⟩ q (fun i N hi hN => by
    obtain ⟨n1, n2⟩ := hN
    obtain ⟨P, N', k1, k2, k3, k4⟩ := WtOk.step (S := S) (C' := D (i + 1)) (i := i) g hK (by omega) (Or.inr rfl) (dP i (by omega)).1 (dz i (by omega)) v2 (dR i (by omega)).2 n1
    refine ⟨N', ⟨?_, by rw [k4]; exact n2⟩, P, k1, k2⟩
    rw [Int.add_assoc] at k3
    exact k3)
  have bloop : ∀ (k i : Nat), i + k = q → Rn S 171 32 ([], [some (vR 76), some (vI n), some (vI (i : Int))], T, B i) (some (vI x), (T, B q)) := by
    intro k
    induction k with
    | zero =>
      intro i hi
      have ei : i = q := by omega
      subst ei
      by_cases hq : i < 61
      · have hq3 : n ≤ sumF (fun j => errV (D (j + 1)) 28) i := q3 hq
        rw [if_pos hq] at hx
        rw [hx]
        obtain ⟨y1, y2⟩ := fP i (Nat.le_refl i)
        have bd := y1.bd hK (by omega) hz.2
        obtain ⟨x1, x2, x3, x4, x5, x6, x7, x8⟩ := y1
        have cs := c_sumOf (S := S) (M := B i) (w := 1) (n := (M 5 1).toNat) hM (by rw [x2, hz.1]; exact zz) (by omega) (Or.inr rfl)
        rw [show (6 : Int) + 1 = 7 from rfl, x7] at cs
        have wi := wo i hq
        rw [← y2] at wi
        have di := dif i (by omega)
        refine Rn.cgt rfl (X_ild rfl <| X_i <| X_nil) (by first | omega | (simp (disch := omega) only [um_eq, um_na, um_ni, Int.toNat_natCast]; omega)) (by first | omega | (simp (disch := omega) only [um_eq, um_na, um_ni, Int.toNat_natCast]; omega)) (fun hc => absurd hc (by first | omega | decide | (simp (disch := omega) only [um_eq, um_na, um_ni, Int.toNat_natCast]; omega))) (fun hc => ?_)
        refine Rn.cal rfl (X_ald rfl <| X_i <| X_nil) (vs := [_, _]) (rest := []) rfl rfl rfl (rcv_v hM.ob (by decide)) (cs) ?_
        refine Rn.cgt rfl (X_ild rfl <| X_add <| X_ald rfl <| X_gr 8 22 hM.ob ⟨rfl, rfl⟩ rfl rfl <| X_ild rfl <| X_ia hM.wo (by first | omega | (simp (disch := omega) only [um_eq, um_na, um_ni, Int.toNat_natCast]; omega)) (by first | omega | (simp (disch := omega) only [um_eq, um_na, um_ni, Int.toNat_natCast]; omega)) rfl <| X_nil) (by first | omega | (simp (disch := omega) only [um_eq, um_na, um_ni, Int.toNat_natCast]; omega)) (by first | omega | (simp (disch := omega) only [um_eq, um_na, um_ni, Int.toNat_natCast]; omega)) (fun hc => absurd hc (by first | omega | decide | (simp (disch := omega) only [um_eq, um_na, um_ni, Int.toNat_natCast]; omega))) (fun hc => ?_)
        refine Rn.ri rfl (X_ild rfl <| X_nil) rfl
      · rw [if_neg hq] at hx
        rw [hx]
        refine Rn.cgt rfl (X_ild rfl <| X_i <| X_nil) (by first | omega | (simp (disch := omega) only [um_eq, um_na, um_ni, Int.toNat_natCast]; omega)) (by first | omega | (simp (disch := omega) only [um_eq, um_na, um_ni, Int.toNat_natCast]; omega)) (fun hc => ?_) (fun hc => absurd hc (by first | omega | decide | (simp (disch := omega) only [um_eq, um_na, um_ni, Int.toNat_natCast]; omega)))
        refine Rn.ri rfl (X_i <| X_nil) rfl
    | succ k ih =>
      intro i hi
      have nx := ih (i + 1) (by omega)
      have hq2 : ¬ n ≤ sumF (fun j => errV (D (j + 1)) 28) i := q2 i (by omega)
      obtain ⟨y1, y2⟩ := fP i (by omega)
      have bd := y1.bd hK (by omega) hz.2
      obtain ⟨x1, x2, x3, x4, x5, x6, x7, x8⟩ := y1
      have cs := c_sumOf (S := S) (M := B i) (w := 1) (n := (M 5 1).toNat) hM (by rw [x2, hz.1]; exact zz) (by omega) (Or.inr rfl)
      rw [show (6 : Int) + 1 = 7 from rfl, x7] at cs
      have wi := wo i (by omega)
      rw [← y2] at wi
      have di := dif i (by omega)
      obtain ⟨P, k1, k2⟩ := fR i (by omega)
      refine Rn.cgt rfl (X_ild rfl <| X_i <| X_nil) (by first | omega | (simp (disch := omega) only [um_eq, um_na, um_ni, Int.toNat_natCast]; omega)) (by first | omega | (simp (disch := omega) only [um_eq, um_na, um_ni, Int.toNat_natCast]; omega)) (fun hc => absurd hc (by first | omega | decide | (simp (disch := omega) only [um_eq, um_na, um_ni, Int.toNat_natCast]; omega))) (fun hc => ?_)
      refine Rn.cal rfl (X_ald rfl <| X_i <| X_nil) (vs := [_, _]) (rest := []) rfl rfl rfl (rcv_v hM.ob (by decide)) (cs) ?_
      refine Rn.cgt rfl (X_ild rfl <| X_add <| X_ald rfl <| X_gr 8 22 hM.ob ⟨rfl, rfl⟩ rfl rfl <| X_ild rfl <| X_ia hM.wo (by first | omega | (simp (disch := omega) only [um_eq, um_na, um_ni, Int.toNat_natCast]; omega)) (by first | omega | (simp (disch := omega) only [um_eq, um_na, um_ni, Int.toNat_natCast]; omega)) rfl <| X_nil) (by first | omega | (simp (disch := omega) only [um_eq, um_na, um_ni, Int.toNat_natCast]; omega)) (by first | omega | (simp (disch := omega) only [um_eq, um_na, um_ni, Int.toNat_natCast]; omega)) (fun hc => ?_) (fun hc => absurd hc (by first | omega | decide | (simp (disch := omega) only [um_eq, um_na, um_ni, Int.toNat_natCast]; omega)))
      refine Rn.cal rfl (X_ald rfl <| X_nil) (vs := [_]) (rest := []) rfl rfl rfl (rcv_v hM.ob (by decide)) (k1) ?_
      refine Rn.cal rfl (X_ald rfl <| X_nil) (vs := [_]) (rest := []) rfl rfl rfl (rcv_v hM.ob (by decide)) (k2) ?_
      refine Rn.jto rfl (X_inc rfl (L' := [_, _, _]) rfl <| X_nil) ?_
      exact nx
  obtain ⟨⟨x1, x2, x3, x4, x5, x6, x7, x8⟩, y2⟩ := fP q (Nat.le_refl q)
  refine ⟨x, T, D q, B q, by rw [hx]; split <;> omega, ⟨_, rfl, ?_⟩, ⟨_, rfl, ?_⟩, g.tried (fun a a1 a2 a3 => x8 a a1 (by omega) (by omega)) x5⟩
  · have l0 := cloop q 0 (by omega)
    rw [d0] at l0
    refine Rn.cal rfl (X_ild rfl <| X_i <| X_i <| X_nil) (vs := [_, _, _]) (rest := []) rfl rfl rfl rfl (c_wY (by omega) (by decide) (by decide) h1) ?_
    refine Rn.ine rfl (X_nil) (by first | omega | (simp (disch := omega) only [um_eq, um_na, um_ni, Int.toNat_natCast]; omega)) (fun hc => ?_) (fun hc => absurd hc (by first | omega | decide | (simp (disch := omega) only [um_eq, um_na, um_ni, Int.toNat_natCast]; omega)))
    refine Rn.cal rfl (X_ald rfl <| X_gr 7 1 hX.ob ⟨rfl, rfl⟩ rfl rfl <| X_ald rfl <| X_gr 7 0 hX.ob ⟨rfl, rfl⟩ rfl rfl <| X_nil) (vs := [_, _]) (rest := []) rfl rfl rfl (rcv_v hX.s2.st (by decide)) (c1) ?_
    refine Rn.fal rfl (X_i <| X_ist rfl (L' := [_, _, _, _]) rfl <| X_i <| X_ist rfl (L' := [_, _, _, _]) rfl <| X_nil) ?_
    exact l0
  · have l0 := bloop q 0 (by omega)
    rw [f0] at l0
    refine Rn.cal rfl (X_ild rfl <| X_i2l (by first | omega | (simp (disch := omega) only [um_eq, um_na, um_ni, Int.toNat_natCast]; omega)) <| X_l <| X_l <| X_nil) (vs := [_, _, _]) (rest := []) rfl rfl rfl rfl (c_iY (by omega) (by decide) (by decide) h1) ?_
    refine Rn.ine rfl (X_nil) (by first | omega | (simp (disch := omega) only [um_eq, um_na, um_ni, Int.toNat_natCast]; omega)) (fun hc => ?_) (fun hc => absurd hc (by first | omega | decide | (simp (disch := omega) only [um_eq, um_na, um_ni, Int.toNat_natCast]; omega)))
    refine Rn.cal rfl (X_ald rfl <| X_nil) (vs := [_]) (rest := []) rfl rfl rfl (rcv_v hM.ob (by decide)) (cwo) ?_
    refine Rn.cal rfl (X_ald rfl <| X_nil) (vs := [_]) (rest := []) rfl rfl rfl (rcv_v hM.ob (by decide)) (cb) ?_
    refine Rn.fal rfl (X_ald rfl <| X_i <| X_pi 8 18 18 hM.ob ⟨rfl, rfl, rfl⟩ (Or.inl rfl) <| X_i <| X_ist rfl (L' := [_, _, _]) rfl <| X_nil) ?_
    exact l0
end Worth
