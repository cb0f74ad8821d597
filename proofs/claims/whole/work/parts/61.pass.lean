/-! PASS -/
section Pass
variable {S : List Int} {T : List Sh} {M N C C' : Nat → Int → Int} {a b b' K j : Nat} {v : Int} {h : Hp}
/-- both have gone a night, and both can undo it -/
theorem Rg.night {W W' : Int → Int} {r t e : Int} {p : Int × Int × Int} (h : Rg C b W r (K + 1)) (nc : NtOk C b K j) (nt : NtOk C' b K (j + 1)) (hj : j + 1 ≤ 30) (hp : SpendP C C' b v p) (hte : (W (r + 9) = 8 ∧ t = 7 ∧ e = 1) ∨ (W (r + 9) ≠ 8 ∧ t = W (r + 9) ∧ e = 0)) (wk : ∀ k, (0 ≤ k ∧ k < 83) ∨ (91 ≤ k ∧ k < 107) → k ≠ 8 → k ≠ 9 → W' (r + k) = W (r + k)) (w8 : W' (r + 8) = W (r + 8) + 1) (w9 : W' (r + 9) = t + 1) (w6 : ∀ s : Nat, (s : Int) < C (b + 4) 1 → W' (r + 83 + (s : Int)) = C' (b + 16 + 2 * s) 6 ∧ W' (r + 87 + (s : Int)) = C' (b + 16 + 2 * s) 7) (wr : ∀ i j : Int, 0 ≤ i → i < t → 0 ≤ j → j < 10 → W' (r + 107 + 10 * i + j) = W (r + 107 + 10 * (i + e) + j)) (wn : ∀ s : Int, 0 ≤ s → s < 4 → W' (r + 107 + 10 * t + s) = W (r + 83 + s) ∧ W' (r + 107 + 10 * t + 4 + s) = W (r + 87 + s)) (wl : W' (r + 107 + 10 * t + 8) = W (r + 8) ∧ W' (r + 107 + 10 * t + 9) = W (r + 6)) : Rg C' b W' r (K + 1) := by
  have u8 := h.u8
  have eu := h.u
  have en := h.n
  have ez := h.z
  have z4 := h.z4
  have n4 := nt.2.2.1
  have nu := nt.2.2.2.1
  have wk' : ∀ k, (r ≤ k ∧ k < r + 83) ∨ (r + 91 ≤ k ∧ k < r + 107) → k ≠ r + 8 → k ≠ r + 9 → W' k = W k := fun k k1 k2 k3 => by
    have := wk (k - r) (by omega) (by omega) (by omega)
    rw [show r + (k - r) = k by omega] at this
    exact this
  obtain ⟨⟨p1, p2⟩, p3, ⟨q1, q2, q3⟩, ⟨pr0, pr⟩, pt, pf⟩ := hp
  have q3' : C' (b + 4) 3 = t + 1 := by
    rw [q3]
    split <;> omega
  have f2 : C' (b + 2) = C (b + 2) := pf (b + 2) (by omega) (by omega) (by omega) (by omega) (by omega) (fun i _ => by omega)
  have f23 : C' (b + 23) = C (b + 23) := pf (b + 23) (by omega) (by omega) (by omega) (by omega) (by omega) (fun i _ => by omega)
  have f24 : C' (b + 24) = C (b + 24) := pf (b + 24) (by omega) (by omega) (by omega) (by omega) (by omega) (fun i _ => by omega)
  have f25 : C' (b + 25) = C (b + 25) := pf (b + 25) (by omega) (by omega) (by omega) (by omega) (by omega) (fun i _ => by omega)
  unfold Rg
  refine ⟨fun k k0 k6 => ?_, fun c c0 c1 => ?_, ?_, ?_, ?_, ?_, fun i hi k k0 k8 => ?_, fun i i0 i1 => ?_, fun i hi => ?_, nt.1, nt.2.1, by omega, nu, ?_, fun i hi => ?_⟩
  · rw [p1 k (by omega), wk k (by omega) (by omega) (by omega)]
    exact h.f k k0 k6
  · rw [f2, wk' _ (by omega) (by omega) (by omega)]
    exact h.t c c0 c1
  · rw [q1, wk 6 (by omega) (by omega) (by omega)]
    exact ez
  · rw [f23, wk 7 (by omega) (by omega) (by omega)]
    exact h.m
  · rw [q2, w8, en]
  · rw [q3', w9]
  · rw [q1] at hi
    obtain ⟨t1, t2, t3⟩ := pt i hi
    rcases (show k < 6 ∨ k = 6 ∨ k = 7 by omega) with hk | rfl | rfl
    · rw [t1 k (by omega) (by omega), wk' _ (by omega) (by omega) (by omega)]
      exact h.s i hi k k0 k8
    · rw [← (w6 i hi).1]
      congr 1 <;> omega
    · rw [← (w6 i hi).2]
      congr 1 <;> omega
  · rw [f23] at i1
    have m8 := h.m8
    rw [f24, f25, wk' (r + 91 + i) (by omega) (by omega) (by omega), wk' (r + 99 + i) (by omega) (by omega) (by omega)]
    exact h.no i i0 i1
  · rw [q3'] at hi
    have ha : rowA C' b i = b + 7 + ((C (b + 4) 2 - t + (i : Int)) % 8).toNat := by
      unfold rowA
      rw [q2, q3', show C (b + 4) 2 + 1 - (t + 1) + (i : Int) = C (b + 4) 2 - t + (i : Int) by omega]
    rw [ha]
    by_cases hit : (i : Int) < t
    · obtain ⟨e', he'⟩ : ∃ e' : Nat, e = (e' : Int) := ⟨e.toNat, by omega⟩
      have old := h.p (i + e') (by omega)
      have ho : rowA C b (i + e') = b + 7 + ((C (b + 4) 2 - t + (i : Int)) % 8).toNat := by
        unfold rowA
        rw [show C (b + 4) 2 - C (b + 4) 3 + ((i + e' : Nat) : Int) = C (b + 4) 2 - t + (i : Int) by omega]
      rw [ho] at old
      generalize hA : b + 7 + ((C (b + 4) 2 - t + (i : Int)) % 8).toNat = A at *
      have cA : C' A = C A := pf A (by omega) (by omega) (by omega) (by omega) (by omega) (fun i _ => by omega)
      unfold RowOk at old ⊢
      obtain ⟨o1, o2, o3, o4⟩ := old
      rw [cA, q2, q3', wr i 9 (by omega) hit (by omega) (by omega), wr i 8 (by omega) hit (by omega) (by omega)]
      have ei : (i : Int) + e = ((i + e' : Nat) : Int) := by omega
      rw [ei]
      refine ⟨o1, o2, by omega, fun s hs => ?_⟩
      obtain ⟨s1, s2, s3⟩ := o4 s hs
      have r1 := wr i s (by omega) hit (by omega) (by omega)
      have r2 := wr i (4 + s) (by omega) hit (by omega) (by omega)
      rw [ei] at r1 r2
      refine ⟨⟨by rw [r1]; exact s1.1, ?_⟩, s2, s3⟩
      rw [show r + 107 + 10 * (i : Int) + 4 + (s : Int) = r + 107 + 10 * (i : Int) + (4 + (s : Int)) by omega, r2, s1.2]
      congr 1 <;> omega
    · have ei : (i : Int) = t := by omega
      rw [show C (b + 4) 2 - t + (i : Int) = C (b + 4) 2 by omega]
      unfold RowOk
      rw [ei, q2, q3', wl.1, wl.2, pr0]
      refine ⟨ez, z4, by omega, fun s hs => ?_⟩
      obtain ⟨s1, s2⟩ := pr s hs
      have tn := (nc.2.2.2.2 s hs).2
      have x6 := h.s s hs 6 (by decide) (by decide)
      have x7 := h.s s hs 7 (by decide) (by decide)
      obtain ⟨y1, y2⟩ := wn (s : Int) (by omega) (by omega)
      rw [y1, y2, s1, s2]
      refine ⟨⟨?_, ?_⟩, by omega, by omega⟩
      · rw [x6]
        congr 1 <;> omega
      · rw [x7]
        congr 1 <;> omega
  · rw [f23]
    exact h.m8
  · obtain ⟨t1, t2, t3⟩ := nt.2.2.2.2 i hi
    exact ⟨t1, by omega, by omega⟩
/-- the model writes a night down -/
theorem c_back {z : Nat} {n k : Int} (hM : isM T) (h6 : N 77 6 = (z : Int)) (hz : z ≤ 4) : ∃ N', (∀ o r, Rn S 162 25 ([], [some (vR 76), some (vI n), some (vI o), some (vI (k + 1)), some (vI (z : Int))], T, N') r → Rn S 162 61 ([], [some (vR 76), some (vI n), some (vI o), some (vI k), some (vI 0)], T, N) r) ∧ (∀ s : Nat, s < z → N' 77 (83 + (s : Int)) = N 83 (s : Int) ∧ N' 77 (87 + (s : Int)) = N 84 (s : Int)) ∧ N' 77 8 = N 77 8 + 1 ∧ (∀ j, j ≠ 8 → (j < 83 ∨ 91 ≤ j) → N' 77 j = N 77 j) ∧ (∀ a, a ≠ 77 → N' a = N a) := by
  have loop : ∀ (d i : Nat) (P : Nat → Int → Int), i + d = z → (∀ j, j < 83 ∨ 91 ≤ j → P 77 j = N 77 j) → (∀ s : Nat, s < i → P 77 (83 + (s : Int)) = N 83 (s : Int) ∧ P 77 (87 + (s : Int)) = N 84 (s : Int)) → (∀ a, a ≠ 77 → P a = N a) → ∃ P', (∀ o r, Rn S 162 113 ([], [some (vR 76), some (vI n), some (vI o), some (vI k), some (vI (z : Int))], T, P') r → Rn S 162 61 ([], [some (vR 76), some (vI n), some (vI o), some (vI k), some (vI (i : Int))], T, P) r) ∧ (∀ j, j < 83 ∨ 91 ≤ j → P' 77 j = N 77 j) ∧ (∀ s : Nat, s < z → P' 77 (83 + (s : Int)) = N 83 (s : Int) ∧ P' 77 (87 + (s : Int)) = N 84 (s : Int)) ∧ (∀ a, a ≠ 77 → P' a = N a) := by
    intro d
    induction d with
    | zero =>
      intro i P hi p1 p2 p3
      have ei : i = z := by omega
      subst ei
      have p6 := p1 6 (by omega)
      refine ⟨P, fun o r hr => ?_, p1, p2, p3⟩
      refine Rn.cge rfl (X_ild rfl <| X_ald rfl <| X_gr 8 0 hM.ob ⟨rfl, rfl⟩ rfl rfl <| X_i <| X_ia hM.w (by first | omega | (simp (disch := omega) only [um_eq, um_na, um_ni, Int.toNat_natCast]; omega)) (by first | omega | (simp (disch := omega) only [um_eq, um_na, um_ni, Int.toNat_natCast]; omega)) rfl <| X_nil) (by first | omega | (simp (disch := omega) only [um_eq, um_na, um_ni, Int.toNat_natCast]; omega)) (by first | omega | (simp (disch := omega) only [um_eq, um_na, um_ni, Int.toNat_natCast]; omega)) (fun hc => ?_) (fun hc => absurd hc (by first | omega | decide | (simp (disch := omega) only [um_eq, um_na, um_ni, Int.toNat_natCast]; omega)))
      exact hr
    | succ d ih =>
      intro i P hi p1 p2 p3
      have p6 := p1 6 (by omega)
      have p83 := p3 83 (by decide)
      have p84 := p3 84 (by decide)
      obtain ⟨P', r1, r2, r3, r4⟩ := ih (i + 1) (um (um P 77 (83 + (i : Int)) (N 83 (i : Int))) 77 (87 + (i : Int)) (N 84 (i : Int))) (by omega) (fun j hj => by rw [um_ni (by omega), um_ni (by omega)]; exact p1 j hj) (fun s s1 => by
        by_cases es : s = i
        · subst es
          rw [um_ni (by omega), um_eq, um_eq]
          exact ⟨rfl, rfl⟩
        · have := p2 s (by omega)
          rw [um_ni (by omega), um_ni (by omega), um_ni (by omega), um_ni (by omega)]
          exact this) (fun a ha => by rw [um_fn ha, um_fn ha]; exact p3 a ha)
      refine ⟨P', fun o r hr => ?_, r2, r3, r4⟩
      refine Rn.cge rfl (X_ild rfl <| X_ald rfl <| X_gr 8 0 hM.ob ⟨rfl, rfl⟩ rfl rfl <| X_i <| X_ia hM.w (by first | omega | (simp (disch := omega) only [um_eq, um_na, um_ni, Int.toNat_natCast]; omega)) (by first | omega | (simp (disch := omega) only [um_eq, um_na, um_ni, Int.toNat_natCast]; omega)) rfl <| X_nil) (by first | omega | (simp (disch := omega) only [um_eq, um_na, um_ni, Int.toNat_natCast]; omega)) (by first | omega | (simp (disch := omega) only [um_eq, um_na, um_ni, Int.toNat_natCast]; omega)) (fun hc => absurd hc (by first | omega | decide | (simp (disch := omega) only [um_eq, um_na, um_ni, Int.toNat_natCast]; omega))) (fun hc => ?_)
      refine Rn.jto rfl (X_ald rfl <| X_gr 8 0 hM.ob ⟨rfl, rfl⟩ rfl rfl <| X_i <| X_ild rfl <| X_add <| X_ald rfl <| X_gr 8 15 hM.ob ⟨rfl, rfl⟩ rfl rfl <| X_ild rfl <| X_ia hM.co (by first | omega | (simp (disch := omega) only [um_eq, um_na, um_ni, Int.toNat_natCast]; omega)) (by first | omega | (simp (disch := omega) only [um_eq, um_na, um_ni, Int.toNat_natCast]; omega)) rfl <| X_is hM.w (by first | omega | (simp (disch := omega) only [um_eq, um_na, um_ni, Int.toNat_natCast]; omega)) (by first | omega | (simp (disch := omega) only [um_eq, um_na, um_ni, Int.toNat_natCast]; omega)) rfl <| X_ald rfl <| X_gr 8 0 hM.ob ⟨rfl, rfl⟩ rfl rfl <| X_i <| X_ild rfl <| X_add <| X_ald rfl <| X_gr 8 16 hM.ob ⟨rfl, rfl⟩ rfl rfl <| X_ild rfl <| X_ia hM.pa (by first | omega | (simp (disch := omega) only [um_eq, um_na, um_ni, Int.toNat_natCast]; omega)) (by first | omega | (simp (disch := omega) only [um_eq, um_na, um_ni, Int.toNat_natCast]; omega)) rfl <| X_is hM.w (by first | omega | (simp (disch := omega) only [um_eq, um_na, um_ni, Int.toNat_natCast]; omega)) (by first | omega | (simp (disch := omega) only [um_eq, um_na, um_ni, Int.toNat_natCast]; omega)) rfl <| X_inc rfl (L' := [_, _, _, _, _]) rfl <| X_nil) ?_
      simp (disch := omega) only [um_na, ne_eq, p83, p84]
      exact r1 o r hr
  obtain ⟨P, r1, r2, r3, r4⟩ := loop z 0 N (by omega) (fun _ _ => rfl) (fun s hs => by omega) (fun _ _ => rfl)
  have p8 := r2 8 (by omega)
  refine ⟨um P 77 8 (N 77 8 + 1), fun o r hr => ?_, fun s hs => ?_, um_eq, fun j j1 j2 => ?_, fun a ha => by rw [um_fn ha]; exact r4 a ha⟩
  · refine r1 o r ?_
    refine Rn.jto rfl (X_ald rfl <| X_gr 8 0 hM.ob ⟨rfl, rfl⟩ rfl rfl <| X_i <| X_du2 <| X_ia hM.w (by first | omega | (simp (disch := omega) only [um_eq, um_na, um_ni, Int.toNat_natCast]; omega)) (by first | omega | (simp (disch := omega) only [um_eq, um_na, um_ni, Int.toNat_natCast]; omega)) rfl <| X_i <| X_add <| X_is hM.w (by first | omega | (simp (disch := omega) only [um_eq, um_na, um_ni, Int.toNat_natCast]; omega)) (by first | omega | (simp (disch := omega) only [um_eq, um_na, um_ni, Int.toNat_natCast]; omega)) rfl <| X_inc rfl (L' := [_, _, _, _, _]) rfl <| X_nil) ?_
    rw [p8]
    exact hr
  · rw [um_ni (by omega), um_ni (by omega)]
    exact r3 s hs
  · rw [um_ni j1]
    exact r2 j j2
/-- how often it was put out -/
def cntN (D : Nat → Nat → Int → Int) (b : Nat) : Nat → Int
  | 0 => 0
  | i + 1 => cntN D b i + (if (nightV (D i) b).2.1 = -1 then 0 else 1)
theorem cntN_in {D : Nat → Nat → Int → Int} {b : Nat} : ∀ i : Nat, 0 ≤ cntN D b i ∧ cntN D b i ≤ (i : Int)
  | 0 => by unfold cntN; omega
  | i + 1 => by
    have ih := cntN_in (D := D) (b := b) i
    unfold cntN
    split <;> omega
theorem op_pass {n : Int} (g : Gl T M K) (hK : K ≤ 100) (inn : I32 n) : Op S 78 162 [vI n] T M K := by
  have hX := g.x
  have hM := g.m
  have hz := g.sz
  by_cases h1 : 1 ≤ n ∧ n ≤ 30
  case neg =>
    refine Op.bad (v := -2) (k := 0) g (by decide) (by decide) (by decide) ⟨_, rfl, ?_⟩ (fun M1 h80 => ⟨_, rfl, ?_⟩) trivial
    · refine Rn.cal rfl (X_ild rfl <| X_i <| X_i <| X_nil) (vs := [_, _, _]) (rest := []) rfl rfl rfl rfl (c_wN (by omega) (by decide) (by decide) h1) ?_
      refine Rn.ine rfl (X_nil) (by first | omega | (simp (disch := omega) only [um_eq, um_na, um_ni, Int.toNat_natCast]; omega)) (fun hc => absurd hc (by first | omega | decide | (simp (disch := omega) only [um_eq, um_na, um_ni, Int.toNat_natCast]; omega))) (fun hc => ?_)
      refine Rn.cal rfl (X_ald rfl <| X_i <| X_nil) (vs := [_, _]) (rest := []) rfl rfl rfl (rcv_v hX.ob (by decide)) (c_bad hX) ?_
      refine Rn.ri rfl (X_nil) rfl
    · refine Rn.cal rfl (X_ild rfl <| X_i2l (by first | omega | (simp (disch := omega) only [um_eq, um_na, um_ni, Int.toNat_natCast]; omega)) <| X_l <| X_l <| X_nil) (vs := [_, _, _]) (rest := []) rfl rfl rfl rfl (c_iN (by omega) (by decide) (by decide) h1) ?_
      refine Rn.ine rfl (X_nil) (by first | omega | (simp (disch := omega) only [um_eq, um_na, um_ni, Int.toNat_natCast]; omega)) (fun hc => absurd hc (by first | omega | decide | (simp (disch := omega) only [um_eq, um_na, um_ni, Int.toNat_natCast]; omega))) (fun hc => ?_)
      refine Rn.cal rfl (X_ald rfl <| X_nil) (vs := [_]) (rest := []) rfl rfl rfl (rcv_v hM.ob (by decide)) (c_mbad hM) ?_
      refine Rn.ri rfl (X_nil) rfl
  obtain ⟨q, rfl⟩ : ∃ q : Nat, n = (q : Int) := ⟨n.toNat, by omega⟩
  obtain ⟨D, v, d0, dv, v2, dP, dR⟩ := nights_of (S := S) hX.s1 hK q (by omega) g.rg.nt
  have dz : ∀ i, i ≤ q → D i (1 + 4) 1 = M 5 1 := fun i hi => (dP i hi).2.2.2.1
  have df : ∀ i, i ≤ q → ∀ a, a < 1 ∨ 28 ≤ a → D i a = M a := fun i hi a ha => (dP i hi).2.2.2.2 a (by omega)
  have d5 : ∀ i, i ≤ q → D i (1 + 1) 5 = M 2 5 := fun i hi => (dP i hi).2.1 5 (by decide)
  have ni : ∀ i, i ≤ q → -1 ≤ (nightV (D i) 1).2.1 ∧ (nightV (D i) 1).2.1 < 4 := fun i hi => by
    have x := nightV_in ((dP i hi).1.be hK (by omega))
    have y := (dP i hi).1.2.1
    omega
  have cloop : ∀ (k i : Nat), i + k = q → Rn S 78 21 ([], [some (vR 0), some (vI (q : Int)), some (vI (cntN D 1 i)), some (vI (i : Int))], T, D i) (some (vI (cntN D 1 q)), (T, D q)) := by
    intro k
    induction k with
    | zero =>
      intro i hi
      have ei : i = q := by omega
      subst ei
      refine Rn.cge rfl (X_ild rfl <| X_ild rfl <| X_nil) (by first | omega | (simp (disch := omega) only [um_eq, um_na, um_ni, Int.toNat_natCast]; omega)) (by first | omega | (simp (disch := omega) only [um_eq, um_na, um_ni, Int.toNat_natCast]; omega)) (fun hc => ?_) (fun hc => absurd hc (by first | omega | decide | (simp (disch := omega) only [um_eq, um_na, um_ni, Int.toNat_natCast]; omega)))
      refine Rn.ri rfl (X_ild rfl <| X_nil) rfl
    | succ k ih =>
      intro i hi
      have nx := ih (i + 1) (by omega)
      have cs := (dR i (by omega)).1
      have nb := ni i (by omega)
      rw [show cntN D 1 (i + 1) = cntN D 1 i + (if (nightV (D i) 1).2.1 = -1 then 0 else 1) from rfl] at nx
      by_cases hw : (nightV (D i) 1).2.1 = -1
      · rw [if_pos hw, Int.add_zero] at nx
        refine Rn.cge rfl (X_ild rfl <| X_ild rfl <| X_nil) (by first | omega | (simp (disch := omega) only [um_eq, um_na, um_ni, Int.toNat_natCast]; omega)) (by first | omega | (simp (disch := omega) only [um_eq, um_na, um_ni, Int.toNat_natCast]; omega)) (fun hc => absurd hc (by first | omega | decide | (simp (disch := omega) only [um_eq, um_na, um_ni, Int.toNat_natCast]; omega))) (fun hc => ?_)
        refine Rn.cal rfl (X_ald rfl <| X_gr 7 0 hX.ob ⟨rfl, rfl⟩ rfl rfl <| X_nil) (vs := [_]) (rest := []) rfl rfl rfl (rcv_v hX.s1.st (by decide)) (cs) ?_
        refine Rn.ceq rfl (X_i <| X_nil) (by first | omega | (simp (disch := omega) only [um_eq, um_na, um_ni, Int.toNat_natCast]; omega)) (by first | omega | (simp (disch := omega) only [um_eq, um_na, um_ni, Int.toNat_natCast]; omega)) (fun hc => ?_) (fun hc => absurd hc (by first | omega | decide | (simp (disch := omega) only [um_eq, um_na, um_ni, Int.toNat_natCast]; omega)))
        refine Rn.jto rfl (X_inc rfl (L' := [_, _, _, _]) rfl <| X_nil) ?_
        exact nx
      · rw [if_neg hw] at nx
        refine Rn.cge rfl (X_ild rfl <| X_ild rfl <| X_nil) (by first | omega | (simp (disch := omega) only [um_eq, um_na, um_ni, Int.toNat_natCast]; omega)) (by first | omega | (simp (disch := omega) only [um_eq, um_na, um_ni, Int.toNat_natCast]; omega)) (fun hc => absurd hc (by first | omega | decide | (simp (disch := omega) only [um_eq, um_na, um_ni, Int.toNat_natCast]; omega))) (fun hc => ?_)
        refine Rn.cal rfl (X_ald rfl <| X_gr 7 0 hX.ob ⟨rfl, rfl⟩ rfl rfl <| X_nil) (vs := [_]) (rest := []) rfl rfl rfl (rcv_v hX.s1.st (by decide)) (cs) ?_
        refine Rn.ceq rfl (X_i <| X_nil) (by first | omega | (simp (disch := omega) only [um_eq, um_na, um_ni, Int.toNat_natCast]; omega)) (by first | omega | (simp (disch := omega) only [um_eq, um_na, um_ni, Int.toNat_natCast]; omega)) (fun hc => absurd hc (by first | omega | decide | (simp (disch := omega) only [um_eq, um_na, um_ni, Int.toNat_natCast]; omega))) (fun hc => ?_)
        refine Rn.fal rfl (X_inc rfl (L' := [_, _, _, _]) rfl <| X_nil) ?_
        refine Rn.jto rfl (X_inc rfl (L' := [_, _, _, _]) rfl <| X_nil) ?_
        exact nx
  -- the model
  have dq77 : D q 77 = M 77 := df q (Nat.le_refl q) 77 (by omega)
  obtain ⟨M2, cl, ls, lw, lc, l76, lf⟩ := lay_of (S := S) (N := D q) g dq77
  have m77 : M2 77 = M 77 := by rw [lf 77 (by decide) (by decide) (by decide) (by decide) (by decide)]; exact dq77
  obtain ⟨E, e0, eP, eR⟩ := seq_of (P := fun i N => Rg (D i) 1 (N 77) 0 (K + 1) ∧ SmB (M 5 1).toNat (V N) 0 (D i) 1 ∧ N 76 17 = v ∧ N 76 18 = M 2 5 ∧ (∀ k, ¬ (17 ≤ k ∧ k ≤ 21) → N 76 k = M 76 k) ∧ (∀ k, 187 ≤ k → N 77 k = M 77 k) ∧ (∀ a, a ≠ 76 → a ≠ 77 → ¬ (81 ≤ a ∧ a ≤ 84) → N a = D q a)) (R := fun i N N' => ∀ x o r, Rn S 162 25 ([], [some (vR 76), some (vI (q : Int)), some (vI (o + (if (nightV (D i) 1).2.1 = -1 then 0 else 1))), some (vI ((i : Int) + 1)), some (vI (M 5 1))], T, N') r → Rn S 162 30 ([], [some (vR 76), some (vI (q : Int)), some (vI o), some (vI (i : Int)), x], T, N) r) (c := M2) ⟨by rw [d0, m77]; exact g.rg.cg (fun _ _ _ _ => rfl) (by omega), by rw [d0]; exact ls, lw v dv, lc, fun k hk => by rw [l76 k (by omega) (by omega), df q (Nat.le_refl q) 76 (by omega)], fun k _ => by rw [m77], fun a a1 a2 a3 => lf a a1 (by omega) (by omega) (by omega) (by omega)⟩ q (fun i N hi hN => by
    obtain ⟨n0, n1, n3, n4, n5, n6, n7⟩ := hN
    have ez := dz i (by omega)
    have eu := n0.u
    have u8 := n0.u8
    have e6 : D i (1 + 4) 1 = N 77 (0 + 6) := n0.z
    have e6' : N 77 6 = M 5 1 := by rw [← ez]; exact e6.symm
    rw [eu] at u8
    have u8' : 0 ≤ N 77 9 ∧ N 77 9 ≤ 8 := ⟨u8.1, u8.2.1⟩
    obtain ⟨N1, cm, m9, mr, mn, ml, mk, mf⟩ := c_minds (S := S) (M := N) hM u8'
    have v1 : SmB (D i (1 + 4) 1).toNat (V N1) 0 (D i) 1 := by
      rw [ez]
      refine SmB.trans (fun s hs k k0 k8 => ?_) n1
      rcases (show k < 5 ∨ k = 5 ∨ k = 6 ∨ k = 7 by omega) with hk | rfl | rfl | rfl
      · rw [V_k s k hk, V_k s k hk]
        exact mk _ (by omega) (by omega)
      · rw [V_5, V_5, mf 82 (by decide)]
      · rw [V_6, V_6, mf 83 (by decide)]
      · rw [V_7, V_7, mf 84 (by decide)]
    have e61 : N1 77 6 = M 5 1 := by rw [mk 6 (by decide) (by omega)]; exact e6'
    obtain ⟨P, N2, k1, k2, k3, k4, k5, k6, k7⟩ := mstep (S := S) (K := K) (j := i) (v := v) hM hK (by omega) (dP i (by omega)).1 v1 (by rw [e61, ez]) (by rw [mf 76 (by decide)]; exact n3) (by rw [mf 76 (by decide), n4, d5 i (by omega)]) (dR i hi).2
    rw [ez] at k3
    have e277 : N2 77 = N1 77 := k6 77 (by decide) (by decide) (by decide)
    have zz : N2 77 6 = (((M 5 1).toNat : Nat) : Int) := by rw [e277, e61]; omega
    obtain ⟨N3, cb, b6, b8, bk, bf⟩ := c_back (S := S) (T := T) (N := N2) (n := (q : Int)) (k := (i : Int)) hM zz (by omega)
    have nb := ni i (by omega)
    have wAll : ∀ k, k ≠ 8 → k ≠ 9 → (k < 83 ∨ (91 ≤ k ∧ k < 107)) → N3 77 k = N 77 k := fun k h8 h9 hk => by
      rw [bk k h8 (by omega), e277, mk k h9 (by omega)]
    refine ⟨N3, ⟨?_, fun s hs k k0 k8 => ?_, ?_, ?_, fun k hk => ?_, fun k hk => ?_, fun a a1 a2 a3 => ?_⟩, fun x o r hr => ?_⟩
    · refine Rg.night (t := if N 77 9 = 8 then 7 else N 77 9) (e := if N 77 9 = 8 then 1 else 0) (j := i) n0 (dP i (by omega)).1 (dP (i + 1) (by omega)).1 (by omega) (dR i hi).2 ?_ ?_ ?_ ?_ ?_ ?_ ?_ ?_
      · show (N 77 9 = 8 ∧ _) ∨ (N 77 9 ≠ 8 ∧ _ = N 77 9 ∧ _)
        by_cases h8 : N 77 9 = 8
        · rw [if_pos h8, if_pos h8]; exact Or.inl ⟨h8, rfl, rfl⟩
        · rw [if_neg h8, if_neg h8]; exact Or.inr ⟨h8, rfl, rfl⟩
      · intro k k0 k8 k9
        exact wAll _ (by omega) (by omega) (by omega)
      · show N3 77 8 = N 77 8 + 1
        rw [b8, e277, mk 8 (by decide) (by omega)]
      · show N3 77 9 = _
        rw [bk 9 (by decide) (by omega), e277, m9]
        split <;> omega
      · intro s hs
        rw [ez] at hs
        obtain ⟨x1, x2⟩ := b6 s (by omega)
        have y6 := k3 s (by omega) 6 (by decide) (by decide)
        have y7 := k3 s (by omega) 7 (by decide) (by decide)
        rw [V_6] at y6
        rw [V_7] at y7
        rw [Int.zero_add, Int.zero_add, x1, x2]
        exact ⟨y6, y7⟩
      · intro x y x0 x1 y0 y1
        rw [Int.zero_add, bk _ (by omega) (by omega), e277]
        exact mr x y x0 x1 y0 y1
      · intro s s0 s4
        rw [Int.zero_add, Int.zero_add, Int.zero_add]
        have t0 : 0 ≤ (if N 77 9 = 8 then 7 else N 77 9) := by split <;> omega
        rw [bk _ (by omega) (by omega), bk _ (by omega) (by omega), e277]
        exact mn s s0 s4
      · rw [Int.zero_add]
        have t0 : 0 ≤ (if N 77 9 = 8 then 7 else N 77 9) := by split <;> omega
        rw [bk _ (by omega) (by omega), bk _ (by omega) (by omega), e277]
        exact ml
    · rw [← k3 s hs k k0 k8]
      rcases (show k < 5 ∨ k = 5 ∨ k = 6 ∨ k = 7 by omega) with hk | rfl | rfl | rfl
      · rw [V_k s k hk, V_k s k hk]
        exact bk _ (by omega) (by omega)
      · rw [V_5, V_5, bf 82 (by decide)]
      · rw [V_6, V_6, bf 83 (by decide)]
      · rw [V_7, V_7, bf 84 (by decide)]
    · rw [bf 76 (by decide), k5 17 (by decide) (by decide) (by decide), mf 76 (by decide)]
      exact n3
    · rw [bf 76 (by decide), k5 18 (by decide) (by decide) (by decide), mf 76 (by decide)]
      exact n4
    · rw [bf 76 (by decide), k5 k (by omega) (by omega) (by omega), mf 76 (by decide)]
      exact n5 k hk
    · rw [bk k (by omega) (by omega), e277, mk k (by omega) (by omega)]
      exact n6 k hk
    · rw [bf a a2, k6 a a1 (by omega) (by omega), mf a a2]
      exact n7 a a1 a2 a3
    · have cb' := cb (o + (if (nightV (D i) 1).2.1 = -1 then 0 else 1)) r
      have ezz : (((M 5 1).toNat : Nat) : Int) = M 5 1 := by omega
      rw [ezz] at cb'
      have nx := cb' hr
      by_cases hw : (nightV (D i) 1).2.1 = -1
      · rw [if_pos hw] at nx
        refine Rn.cal rfl (X_ald rfl <| X_nil) (vs := [_]) (rest := []) rfl rfl rfl (rcv_v hM.ob (by decide)) (cm) ?_
        refine Rn.cal rfl (X_ald rfl <| X_nil) (vs := [_]) (rest := []) rfl rfl rfl (rcv_v hM.ob (by decide)) (k1) ?_
        refine Rn.cal rfl (X_ald rfl <| X_nil) (vs := [_]) (rest := []) rfl rfl rfl (rcv_v hM.ob (by decide)) (k2) ?_
        refine Rn.cne rfl (X_ild rfl <| X_ald rfl <| X_gi 8 20 20 hM.ob ⟨rfl, rfl, rfl⟩ (Or.inl rfl) <| X_i <| X_nil) (by first | omega | (simp (disch := omega) only [um_eq, um_na, um_ni, Int.toNat_natCast]; omega)) (by first | omega | (simp (disch := omega) only [um_eq, um_na, um_ni, Int.toNat_natCast]; omega)) (fun hc => absurd hc (by first | omega | decide | (simp (disch := omega) only [um_eq, um_na, um_ni, Int.toNat_natCast]; omega))) (fun hc => ?_)
        refine Rn.jto rfl (X_i <| X_nil) ?_
        refine Rn.fal rfl (X_add <| X_ist rfl (L' := [_, _, _, _, _]) rfl <| X_i <| X_ist rfl (L' := [_, _, _, _, _]) rfl <| X_nil) ?_
        exact nx
      · rw [if_neg hw] at nx
        refine Rn.cal rfl (X_ald rfl <| X_nil) (vs := [_]) (rest := []) rfl rfl rfl (rcv_v hM.ob (by decide)) (cm) ?_
        refine Rn.cal rfl (X_ald rfl <| X_nil) (vs := [_]) (rest := []) rfl rfl rfl (rcv_v hM.ob (by decide)) (k1) ?_
        refine Rn.cal rfl (X_ald rfl <| X_nil) (vs := [_]) (rest := []) rfl rfl rfl (rcv_v hM.ob (by decide)) (k2) ?_
        refine Rn.cne rfl (X_ild rfl <| X_ald rfl <| X_gi 8 20 20 hM.ob ⟨rfl, rfl, rfl⟩ (Or.inl rfl) <| X_i <| X_nil) (by first | omega | (simp (disch := omega) only [um_eq, um_na, um_ni, Int.toNat_natCast]; omega)) (by first | omega | (simp (disch := omega) only [um_eq, um_na, um_ni, Int.toNat_natCast]; omega)) (fun hc => ?_) (fun hc => absurd hc (by first | omega | decide | (simp (disch := omega) only [um_eq, um_na, um_ni, Int.toNat_natCast]; omega)))
        refine Rn.fal rfl (X_i <| X_nil) ?_
        refine Rn.fal rfl (X_add <| X_ist rfl (L' := [_, _, _, _, _]) rfl <| X_i <| X_ist rfl (L' := [_, _, _, _, _]) rfl <| X_nil) ?_
        exact nx)
  have mloop : ∀ (k i : Nat) (x : Option AV), i + k = q → Rn S 162 25 ([], [some (vR 76), some (vI (q : Int)), some (vI (cntN D 1 i)), some (vI (i : Int)), x], T, E i) (some (vI (cntN D 1 q)), (T, E q)) := by
    intro k
    induction k with
    | zero =>
      intro i x hi
      have ei : i = q := by omega
      subst ei
      refine Rn.cge rfl (X_ild rfl <| X_ild rfl <| X_nil) (by first | omega | (simp (disch := omega) only [um_eq, um_na, um_ni, Int.toNat_natCast]; omega)) (by first | omega | (simp (disch := omega) only [um_eq, um_na, um_ni, Int.toNat_natCast]; omega)) (fun hc => ?_) (fun hc => absurd hc (by first | omega | decide | (simp (disch := omega) only [um_eq, um_na, um_ni, Int.toNat_natCast]; omega)))
      refine Rn.ri rfl (X_ild rfl <| X_nil) rfl
    | succ k ih =>
      intro i x hi
      have nx := ih (i + 1) (some (vI (M 5 1))) (by omega)
      rw [show cntN D 1 (i + 1) = cntN D 1 i + (if (nightV (D i) 1).2.1 = -1 then 0 else 1) from rfl] at nx
      have st := eR i (by omega) x (cntN D 1 i) _ nx
      refine Rn.cge rfl (X_ild rfl <| X_ild rfl <| X_nil) (by first | omega | (simp (disch := omega) only [um_eq, um_na, um_ni, Int.toNat_natCast]; omega)) (by first | omega | (simp (disch := omega) only [um_eq, um_na, um_ni, Int.toNat_natCast]; omega)) (fun hc => absurd hc (by first | omega | decide | (simp (disch := omega) only [um_eq, um_na, um_ni, Int.toNat_natCast]; omega))) (fun hc => ?_)
      exact st
  obtain ⟨n0, n1, n3, n4, n5, n6, n7⟩ := eP q (Nat.le_refl q)
  have ci := cntN_in (D := D) (b := 1) q
  have ef : ∀ a, a < 1 ∨ 28 ≤ a → a ≠ 76 → a ≠ 77 → ¬ (81 ≤ a ∧ a ≤ 84) → E q a = M a := fun a a1 a2 a3 a4 => by rw [n7 a a2 a3 a4]; exact df q (Nat.le_refl q) a a1
  refine ⟨cntN D 1 q, T, D q, E q, by omega, ⟨_, rfl, ?_⟩, ⟨_, rfl, ?_⟩, ?_⟩
  · have l0 := cloop q 0 (by omega)
    rw [d0] at l0
    refine Rn.cal rfl (X_ild rfl <| X_i <| X_i <| X_nil) (vs := [_, _, _]) (rest := []) rfl rfl rfl rfl (c_wY (by omega) (by decide) (by decide) h1) ?_
    refine Rn.ine rfl (X_nil) (by first | omega | (simp (disch := omega) only [um_eq, um_na, um_ni, Int.toNat_natCast]; omega)) (fun hc => ?_) (fun hc => absurd hc (by first | omega | decide | (simp (disch := omega) only [um_eq, um_na, um_ni, Int.toNat_natCast]; omega)))
    refine Rn.fal rfl (X_i <| X_ist rfl (L' := [_, _, _, _]) rfl <| X_i <| X_ist rfl (L' := [_, _, _, _]) rfl <| X_nil) ?_
    exact l0
  · have l0 := mloop q 0 none (by omega)
    rw [e0] at l0
    refine Rn.cal rfl (X_ild rfl <| X_i2l (by first | omega | (simp (disch := omega) only [um_eq, um_na, um_ni, Int.toNat_natCast]; omega)) <| X_l <| X_l <| X_nil) (vs := [_, _, _]) (rest := []) rfl rfl rfl rfl (c_iY (by omega) (by decide) (by decide) h1) ?_
    refine Rn.ine rfl (X_nil) (by first | omega | (simp (disch := omega) only [um_eq, um_na, um_ni, Int.toNat_natCast]; omega)) (fun hc => ?_) (fun hc => absurd hc (by first | omega | decide | (simp (disch := omega) only [um_eq, um_na, um_ni, Int.toNat_natCast]; omega)))
    refine Rn.cal rfl (X_ald rfl <| X_nil) (vs := [_]) (rest := []) rfl rfl rfl (rcv_v hM.ob (by decide)) (cl) ?_
    refine Rn.fal rfl (X_i <| X_ist rfl (L' := [_, _, _, _, _]) rfl <| X_i <| X_ist rfl (L' := [_, _, _, _, _]) rfl <| X_nil) ?_
    exact l0
  · refine g.upd (Kept.of (fun a ha => ef a (by omega) (by omega) (by omega) (by omega)) (n5 _ (by decide)) (n5 _ (by decide)) (n5 _ (by decide)) (fun k k0 k1 => n6 k k0)) ?_ (g.re.cg (ef _ (by omega) (by decide) (by decide) (by omega)) (ef _ (by omega) (by decide) (by decide) (by omega)) (by omega)) (by omega)
    exact n0.cg (fun a a1 a2 _ => n7 a (by omega) (by omega) (by omega)) (by omega)
end Pass
