/-! TURNS: both -/
section TurnsD
variable {S : List Int} {T : List Sh} {M N D : Nat → Int → Int} {b z n K : Nat} {B v : Int} {h : Hp} {tt : Nat → Nat}
def FrT (N P : Nat → Int → Int) : Prop := (∀ k, ¬ (19 ≤ k ∧ k ≤ 21) → P 76 k = N 76 k) ∧ (∀ a, a ≠ 76 → a ≠ 84 → P a = N a)
theorem MtOk.fr {P : Nat → Int → Int} (hm : MtOk D N b z n) (f : FrT N P) : MtOk D P b z n := by
  obtain ⟨h, h6, ht, h17, h18⟩ := hm
  have p2 : P 77 = N 77 := f.2 77 (by decide) (by decide)
  exact ⟨h, by rw [p2]; exact h6, fun s hs k k0 k5 => by rw [p2]; exact ht s hs k k0 k5, by rw [f.1 17 (by decide)]; exact h17, by rw [f.1 18 (by decide)]; exact h18⟩
/-- the model's loop over all codes -/
theorem t_codes {G p : Nat} {i : Int} (hM : isM T) (hm : MtOk D N b z n) (hp : z ^ n = p) (p5 : p < 5000) (hG : G < p) (B9 : B < 1000000000) (B0 : 0 ≤ B) (g1 : moT z n (lT D b) (eT D b) G = B) (g2 : ∀ c, c < G → B < moT z n (lT D b) (eT D b) c) (g3 : ∀ c, B ≤ moT z n (lT D b) (eT D b) c) : ∃ P y, (∀ r, Rn S 177 108 ([], [some (vR 76), some (vI (n : Int)), some (vI i), some (vI B), some (vI (G : Int)), some (vI (p : Int)), y], T, P) r → Rn S 177 40 ([], [some (vR 76), some (vI (n : Int)), some (vI i), none, none, none, none], T, N) r) ∧ FrT N P := by
  have n6 := hm.1.2.2.1
  have z4 := hm.1.2.1
  have mo9 : ∀ c, moT z n (lT D b) (eT D b) c ≤ 30000 := fun c => mxT_le (by decide) z (fun t ht => (hm.1.bu (s := t) (o := cnR z t n c) ht (by have := cnR_le (z := z) (s := t) n c; omega)).2)
  have loop : ∀ (k c : Nat) (ls fd : Int) (P : Nat → Int → Int) (x : Option AV), c + k = p → (c ≤ G → B < ls ∧ ls ≤ 1000000000) → (G < c → ls = B ∧ fd = (G : Int)) → I32 fd → FrT N P → ∃ P' y, (∀ r, Rn S 177 108 ([], [some (vR 76), some (vI (n : Int)), some (vI i), some (vI B), some (vI (G : Int)), some (vI (p : Int)), y], T, P') r → Rn S 177 49 ([], [some (vR 76), some (vI (n : Int)), some (vI i), some (vI ls), some (vI fd), some (vI (c : Int)), x], T, P) r) ∧ FrT N P' := by
    intro k
    induction k with
    | zero =>
      intro c ls fd P x hc h1 h2 ifd f
      have ec : c = p := by omega
      subst ec
      obtain ⟨e1, e2⟩ := h2 hG
      subst e1
      subst e2
      have e6 := (hm.fr f).2.1
      have cp := t_power (S := S) (h := (T, P)) (z := z) (n := n) (by omega)
      rw [hp, ← e6] at cp
      refine ⟨P, x, fun r hr => ?_, f⟩
      refine Rn.cal rfl (X_ild rfl <| X_ald rfl <| X_gr 8 0 hM.ob ⟨rfl, rfl⟩ rfl rfl <| X_i <| X_ia hM.w (by first | omega | (simp (disch := omega) only [um_eq, um_na, um_ni, Int.toNat_natCast]; omega)) (by first | omega | (simp (disch := omega) only [um_eq, um_na, um_ni, Int.toNat_natCast]; omega)) rfl <| X_ild rfl <| X_nil) (vs := [_, _]) (rest := [_]) rfl rfl rfl rfl (cp) ?_
      refine Rn.cge rfl (X_nil) (by first | omega | (simp (disch := omega) only [um_eq, um_na, um_ni, Int.toNat_natCast]; omega)) (by first | omega | (simp (disch := omega) only [um_eq, um_na, um_ni, Int.toNat_natCast]; omega)) (fun hc => ?_) (fun hc => absurd hc (by first | omega | decide | (simp (disch := omega) only [um_eq, um_na, um_ni, Int.toNat_natCast]; omega)))
      exact hr
    | succ k ih =>
      intro c ls fd P x hc h1 h2 ifd f
      have mP := hm.fr f
      have e6 := mP.2.1
      have cp := t_power (S := S) (h := (T, P)) (z := z) (n := n) (by omega)
      rw [hp, ← e6] at cp
      obtain ⟨Q, cm, q1, q2⟩ := t_mostBy (S := S) (c := c) hM mP (by omega)
      have fQ : FrT N Q := ⟨fun k hk => by rw [q1 k hk]; exact f.1 k hk, fun a a1 a2 => by rw [q2 a a1 a2]; exact f.2 a a1 a2⟩
      have m9 := mo9 c
      have m0 := g3 c
      have ls9 : B ≤ ls ∧ ls ≤ 1000000000 := by
        by_cases cc : c ≤ G
        · have := h1 cc; omega
        · have := h2 (by omega); omega
      generalize hmo : moT z n (lT D b) (eT D b) c = mo at *
      by_cases cl : mo < ls
      · obtain ⟨P', y, r1, r2⟩ := ih (c + 1) mo (c : Int) Q (some (vI mo)) (by omega) (fun hcG => by
          have := g2 c (by omega)
          rw [hmo] at this
          omega) (fun hcG => by
          by_cases ec : c = G
          · subst ec
            exact ⟨by omega, rfl⟩
          · have := h2 (by omega)
            omega) (by omega) fQ
        refine ⟨P', y, fun r hr => ?_, r2⟩
        have nx := r1 r hr
        refine Rn.cal rfl (X_ild rfl <| X_ald rfl <| X_gr 8 0 hM.ob ⟨rfl, rfl⟩ rfl rfl <| X_i <| X_ia hM.w (by first | omega | (simp (disch := omega) only [um_eq, um_na, um_ni, Int.toNat_natCast]; omega)) (by first | omega | (simp (disch := omega) only [um_eq, um_na, um_ni, Int.toNat_natCast]; omega)) rfl <| X_ild rfl <| X_nil) (vs := [_, _]) (rest := [_]) rfl rfl rfl rfl (cp) ?_
        refine Rn.cge rfl (X_nil) (by first | omega | (simp (disch := omega) only [um_eq, um_na, um_ni, Int.toNat_natCast]; omega)) (by first | omega | (simp (disch := omega) only [um_eq, um_na, um_ni, Int.toNat_natCast]; omega)) (fun hc => absurd hc (by first | omega | decide | (simp (disch := omega) only [um_eq, um_na, um_ni, Int.toNat_natCast]; omega))) (fun hc => ?_)
        refine Rn.cal rfl (X_ald rfl <| X_ild rfl <| X_ild rfl <| X_nil) (vs := [_, _, _]) (rest := []) rfl rfl rfl (rcv_v hM.ob (by decide)) (cm) ?_
        refine Rn.cge rfl (X_ist rfl (L' := [_, _, _, _, _, _, _]) rfl <| X_ild rfl <| X_ild rfl <| X_nil) (by first | omega | (simp (disch := omega) only [um_eq, um_na, um_ni, Int.toNat_natCast]; omega)) (by first | omega | (simp (disch := omega) only [um_eq, um_na, um_ni, Int.toNat_natCast]; omega)) (fun hc => absurd hc (by first | omega | decide | (simp (disch := omega) only [um_eq, um_na, um_ni, Int.toNat_natCast]; omega))) (fun hc => ?_)
        refine Rn.jto rfl (X_ild rfl <| X_nil) ?_
        refine Rn.cge rfl (X_ist rfl (L' := [_, _, _, _, _, _, _]) rfl <| X_ild rfl <| X_ild rfl <| X_nil) (by first | omega | (simp (disch := omega) only [um_eq, um_na, um_ni, Int.toNat_natCast]; omega)) (by first | omega | (simp (disch := omega) only [um_eq, um_na, um_ni, Int.toNat_natCast]; omega)) (fun hc => absurd hc (by first | omega | decide | (simp (disch := omega) only [um_eq, um_na, um_ni, Int.toNat_natCast]; omega))) (fun hc => ?_)
        refine Rn.jto rfl (X_ild rfl <| X_nil) ?_
        refine Rn.jto rfl (X_ist rfl (L' := [_, _, _, _, _, _, _]) rfl <| X_inc rfl (L' := [_, _, _, _, _, _, _]) rfl <| X_nil) ?_
        exact nx
      · obtain ⟨P', y, r1, r2⟩ := ih (c + 1) ls fd Q (some (vI mo)) (by omega) (fun hcG => h1 (by omega)) (fun hcG => by
          by_cases ec : c = G
          · subst ec
            have := h1 (Nat.le_refl c)
            omega
          · exact h2 (by omega)) ifd fQ
        refine ⟨P', y, fun r hr => ?_, r2⟩
        have nx := r1 r hr
        refine Rn.cal rfl (X_ild rfl <| X_ald rfl <| X_gr 8 0 hM.ob ⟨rfl, rfl⟩ rfl rfl <| X_i <| X_ia hM.w (by first | omega | (simp (disch := omega) only [um_eq, um_na, um_ni, Int.toNat_natCast]; omega)) (by first | omega | (simp (disch := omega) only [um_eq, um_na, um_ni, Int.toNat_natCast]; omega)) rfl <| X_ild rfl <| X_nil) (vs := [_, _]) (rest := [_]) rfl rfl rfl rfl (cp) ?_
        refine Rn.cge rfl (X_nil) (by first | omega | (simp (disch := omega) only [um_eq, um_na, um_ni, Int.toNat_natCast]; omega)) (by first | omega | (simp (disch := omega) only [um_eq, um_na, um_ni, Int.toNat_natCast]; omega)) (fun hc => absurd hc (by first | omega | decide | (simp (disch := omega) only [um_eq, um_na, um_ni, Int.toNat_natCast]; omega))) (fun hc => ?_)
        refine Rn.cal rfl (X_ald rfl <| X_ild rfl <| X_ild rfl <| X_nil) (vs := [_, _, _]) (rest := []) rfl rfl rfl (rcv_v hM.ob (by decide)) (cm) ?_
        refine Rn.cge rfl (X_ist rfl (L' := [_, _, _, _, _, _, _]) rfl <| X_ild rfl <| X_ild rfl <| X_nil) (by first | omega | (simp (disch := omega) only [um_eq, um_na, um_ni, Int.toNat_natCast]; omega)) (by first | omega | (simp (disch := omega) only [um_eq, um_na, um_ni, Int.toNat_natCast]; omega)) (fun hc => ?_) (fun hc => absurd hc (by first | omega | decide | (simp (disch := omega) only [um_eq, um_na, um_ni, Int.toNat_natCast]; omega)))
        refine Rn.fal rfl (X_ild rfl <| X_nil) ?_
        refine Rn.cge rfl (X_ist rfl (L' := [_, _, _, _, _, _, _]) rfl <| X_ild rfl <| X_ild rfl <| X_nil) (by first | omega | (simp (disch := omega) only [um_eq, um_na, um_ni, Int.toNat_natCast]; omega)) (by first | omega | (simp (disch := omega) only [um_eq, um_na, um_ni, Int.toNat_natCast]; omega)) (fun hc => ?_) (fun hc => absurd hc (by first | omega | decide | (simp (disch := omega) only [um_eq, um_na, um_ni, Int.toNat_natCast]; omega)))
        refine Rn.fal rfl (X_ild rfl <| X_nil) ?_
        refine Rn.jto rfl (X_ist rfl (L' := [_, _, _, _, _, _, _]) rfl <| X_inc rfl (L' := [_, _, _, _, _, _, _]) rfl <| X_nil) ?_
        exact nx
  obtain ⟨P, y, r1, r2⟩ := loop p 0 1000000000 0 N none (by omega) (fun _ => ⟨B9, Int.le_refl _⟩) (fun hc => by omega) (by decide) ⟨fun _ _ => rfl, fun _ _ _ => rfl⟩
  refine ⟨P, y, fun r hr => ?_, r2⟩
  refine Rn.fal rfl (X_i <| X_ist rfl (L' := [_, _, _, _, _, _, _]) rfl <| X_i <| X_ist rfl (L' := [_, _, _, _, _, _, _]) rfl <| X_i <| X_ist rfl (L' := [_, _, _, _, _, _, _]) rfl <| X_nil) ?_
  exact r1 r hr
theorem op_turns {n' i : Int} (g : Gl T M K) (hK : K ≤ 100) (in' : I32 n') (ii : I32 i) : Op S 89 177 [vI n', vI i] T M K := by
  have hX := g.x
  have hM := g.m
  have hS := hX.s1
  have hz := g.sz
  have e45 : M (1 + 4) 1 = M 5 1 := rfl
  by_cases h1 : 0 ≤ n' ∧ n' ≤ 6
  case neg =>
    refine Op.bad1 (v := -10) (k := 0) g (by decide) (by decide) (by decide) ⟨_, rfl, ?_⟩ ⟨_, rfl, ?_⟩
    · refine Rn.cal rfl (X_ild rfl <| X_i <| X_i <| X_nil) (vs := [_, _, _]) (rest := []) rfl rfl rfl rfl (c_wN (by omega) (by decide) (by decide) h1) ?_
      refine Rn.ieq rfl (X_nil) (by first | omega | (simp (disch := omega) only [um_eq, um_na, um_ni, Int.toNat_natCast]; omega)) (fun hc => ?_) (fun hc => absurd hc (by first | omega | decide | (simp (disch := omega) only [um_eq, um_na, um_ni, Int.toNat_natCast]; omega)))
      refine Rn.cal rfl (X_ald rfl <| X_i <| X_nil) (vs := [_, _]) (rest := []) rfl rfl rfl (rcv_v hX.ob (by decide)) (c_bad hX) ?_
      refine Rn.ri rfl (X_nil) rfl
    · refine Rn.cal rfl (X_ild rfl <| X_i2l (by first | omega | (simp (disch := omega) only [um_eq, um_na, um_ni, Int.toNat_natCast]; omega)) <| X_l <| X_l <| X_nil) (vs := [_, _, _]) (rest := []) rfl rfl rfl rfl (c_iN (by omega) (by decide) (by decide) h1) ?_
      refine Rn.ieq rfl (X_nil) (by first | omega | (simp (disch := omega) only [um_eq, um_na, um_ni, Int.toNat_natCast]; omega)) (fun hc => ?_) (fun hc => absurd hc (by first | omega | decide | (simp (disch := omega) only [um_eq, um_na, um_ni, Int.toNat_natCast]; omega)))
      refine Rn.cal rfl (X_ald rfl <| X_i <| X_nil) (vs := [_, _]) (rest := []) rfl rfl rfl (rcv_v hM.ob (by decide)) (c_mbadAs hM) ?_
      refine Rn.ri rfl (X_nil) rfl
  by_cases h2 : -1 ≤ i
  case neg =>
    refine Op.bad1 (v := -10) (k := 0) g (by decide) (by decide) (by decide) ⟨_, rfl, ?_⟩ ⟨_, rfl, ?_⟩
    · refine Rn.cal rfl (X_ild rfl <| X_i <| X_i <| X_nil) (vs := [_, _, _]) (rest := []) rfl rfl rfl rfl (c_wY (by omega) (by decide) (by decide) h1) ?_
      refine Rn.ieq rfl (X_nil) (by first | omega | (simp (disch := omega) only [um_eq, um_na, um_ni, Int.toNat_natCast]; omega)) (fun hc => absurd hc (by first | omega | decide | (simp (disch := omega) only [um_eq, um_na, um_ni, Int.toNat_natCast]; omega))) (fun hc => ?_)
      refine Rn.cge rfl (X_ild rfl <| X_i <| X_nil) (by first | omega | (simp (disch := omega) only [um_eq, um_na, um_ni, Int.toNat_natCast]; omega)) (by first | omega | (simp (disch := omega) only [um_eq, um_na, um_ni, Int.toNat_natCast]; omega)) (fun hc => absurd hc (by first | omega | decide | (simp (disch := omega) only [um_eq, um_na, um_ni, Int.toNat_natCast]; omega))) (fun hc => ?_)
      refine Rn.cal rfl (X_ald rfl <| X_i <| X_nil) (vs := [_, _]) (rest := []) rfl rfl rfl (rcv_v hX.ob (by decide)) (c_bad hX) ?_
      refine Rn.ri rfl (X_nil) rfl
    · refine Rn.cal rfl (X_ild rfl <| X_i2l (by first | omega | (simp (disch := omega) only [um_eq, um_na, um_ni, Int.toNat_natCast]; omega)) <| X_l <| X_l <| X_nil) (vs := [_, _, _]) (rest := []) rfl rfl rfl rfl (c_iY (by omega) (by decide) (by decide) h1) ?_
      refine Rn.ieq rfl (X_nil) (by first | omega | (simp (disch := omega) only [um_eq, um_na, um_ni, Int.toNat_natCast]; omega)) (fun hc => absurd hc (by first | omega | decide | (simp (disch := omega) only [um_eq, um_na, um_ni, Int.toNat_natCast]; omega))) (fun hc => ?_)
      refine Rn.cge rfl (X_ild rfl <| X_i <| X_nil) (by first | omega | (simp (disch := omega) only [um_eq, um_na, um_ni, Int.toNat_natCast]; omega)) (by first | omega | (simp (disch := omega) only [um_eq, um_na, um_ni, Int.toNat_natCast]; omega)) (fun hc => absurd hc (by first | omega | decide | (simp (disch := omega) only [um_eq, um_na, um_ni, Int.toNat_natCast]; omega))) (fun hc => ?_)
      refine Rn.cal rfl (X_ald rfl <| X_i <| X_nil) (vs := [_, _]) (rest := []) rfl rfl rfl (rcv_v hM.ob (by decide)) (c_mbadAs hM) ?_
      refine Rn.ri rfl (X_nil) rfl
  obtain ⟨n, rfl⟩ : ∃ n : Nat, n' = (n : Int) := ⟨n'.toNat, by omega⟩
  have n6 : n ≤ 6 := by omega
  by_cases hz0 : M 5 1 = 0
  · have mz : M 77 6 = 0 := by rw [hz.1]; exact hz0
    refine ⟨-1, T, M, M, by decide, ⟨_, rfl, ?_⟩, ⟨_, rfl, ?_⟩, g.measured (fun _ _ _ => rfl)⟩
    · refine Rn.cal rfl (X_ild rfl <| X_i <| X_i <| X_nil) (vs := [_, _, _]) (rest := []) rfl rfl rfl rfl (c_wY (by omega) (by decide) (by decide) h1) ?_
      refine Rn.ieq rfl (X_nil) (by first | omega | (simp (disch := omega) only [um_eq, um_na, um_ni, Int.toNat_natCast]; omega)) (fun hc => absurd hc (by first | omega | decide | (simp (disch := omega) only [um_eq, um_na, um_ni, Int.toNat_natCast]; omega))) (fun hc => ?_)
      refine Rn.cge rfl (X_ild rfl <| X_i <| X_nil) (by first | omega | (simp (disch := omega) only [um_eq, um_na, um_ni, Int.toNat_natCast]; omega)) (by first | omega | (simp (disch := omega) only [um_eq, um_na, um_ni, Int.toNat_natCast]; omega)) (fun hc => ?_) (fun hc => absurd hc (by first | omega | decide | (simp (disch := omega) only [um_eq, um_na, um_ni, Int.toNat_natCast]; omega)))
      refine Rn.ine rfl (X_ald rfl <| X_gr 7 0 hX.ob ⟨rfl, rfl⟩ rfl rfl <| X_gr 6 1 hX.s1.st ⟨rfl, rfl⟩ rfl rfl <| X_gi 0 1 1 hX.s1.be ⟨rfl, rfl, rfl⟩ (Or.inl rfl) <| X_nil) (by first | omega | (simp (disch := omega) only [um_eq, um_na, um_ni, Int.toNat_natCast]; omega)) (fun hc => absurd hc (by first | omega | decide | (simp (disch := omega) only [um_eq, um_na, um_ni, Int.toNat_natCast]; omega))) (fun hc => ?_)
      refine Rn.ri rfl (X_i <| X_nil) rfl
    · refine Rn.cal rfl (X_ild rfl <| X_i2l (by first | omega | (simp (disch := omega) only [um_eq, um_na, um_ni, Int.toNat_natCast]; omega)) <| X_l <| X_l <| X_nil) (vs := [_, _, _]) (rest := []) rfl rfl rfl rfl (c_iY (by omega) (by decide) (by decide) h1) ?_
      refine Rn.ieq rfl (X_nil) (by first | omega | (simp (disch := omega) only [um_eq, um_na, um_ni, Int.toNat_natCast]; omega)) (fun hc => absurd hc (by first | omega | decide | (simp (disch := omega) only [um_eq, um_na, um_ni, Int.toNat_natCast]; omega))) (fun hc => ?_)
      refine Rn.cge rfl (X_ild rfl <| X_i <| X_nil) (by first | omega | (simp (disch := omega) only [um_eq, um_na, um_ni, Int.toNat_natCast]; omega)) (by first | omega | (simp (disch := omega) only [um_eq, um_na, um_ni, Int.toNat_natCast]; omega)) (fun hc => ?_) (fun hc => absurd hc (by first | omega | decide | (simp (disch := omega) only [um_eq, um_na, um_ni, Int.toNat_natCast]; omega)))
      refine Rn.ine rfl (X_ald rfl <| X_gr 8 0 hM.ob ⟨rfl, rfl⟩ rfl rfl <| X_i <| X_ia hM.w (by first | omega | (simp (disch := omega) only [um_eq, um_na, um_ni, Int.toNat_natCast]; omega)) (by first | omega | (simp (disch := omega) only [um_eq, um_na, um_ni, Int.toNat_natCast]; omega)) rfl <| X_nil) (by first | omega | (simp (disch := omega) only [um_eq, um_na, um_ni, Int.toNat_natCast]; omega)) (fun hc => absurd hc (by first | omega | decide | (simp (disch := omega) only [um_eq, um_na, um_ni, Int.toNat_natCast]; omega))) (fun hc => ?_)
      refine Rn.ri rfl (X_i <| X_nil) rfl
  obtain ⟨z, ez⟩ : ∃ z : Nat, M 5 1 = (z : Int) := ⟨(M 5 1).toNat, by omega⟩
  have f2 : 0 ≤ M 2 2 ∧ M 2 2 < M 2 0 * M 2 1 := g.rg.fl.1.2.2.1
  have f3 : 0 ≤ M 2 3 ∧ M 2 3 < M 2 0 * M 2 1 := g.rg.fl.1.2.2.2.1
  have f5 : 0 ≤ M 2 5 ∧ M 2 5 ≤ 1 := g.rg.fl.1.2.2.2.2.2.1
  obtain ⟨D, c1, fr, fk, v, v1, v2⟩ := c_mwalk (S := S) (M := M) (b := 1) hS g.rg.fl.1 g.rg.fl.2
  have hv := WayIs.le (M := M) (b := 1) g.rg.fl.1 (show ((M 2 3).toNat : Int) < M 2 0 * M 2 1 by omega) (show ((M 2 2).toNat : Int) < M 2 0 * M 2 1 by omega) v1
  have d5 : D 5 = M 5 := fr 5 (by decide) (by decide)
  have tu : TuOk D 1 z n := by
    refine ⟨?_, by omega, n6, fun s hs => TrOk_cg (fr _ (by omega) (by omega)) ((g.rg.tr s (show (s : Int) < M 5 1 by omega)).ok hK), by omega, ?_⟩
    · show D 5 1 = _
      rw [d5]
      exact ez
    · have : D (1 + 1) 5 = M (1 + 1) 5 := fk 5 (by decide)
      rw [this]
      exact f5
  obtain ⟨B, cb, hL, hn, hB⟩ := t_least (S := S) (T := T) hS tu
  obtain ⟨tt, ht⟩ := tt_ex hn
  have he : ∀ s, s < z → 0 ≤ eT D 1 s := fun s hs => (tu.e hs).1
  obtain ⟨x1, x2⟩ := LoT_end (by omega) he hL ht
  have hG := grT_lt ht n (Nat.le_refl n)
  obtain ⟨p, hp⟩ : ∃ p, z ^ n = p := ⟨_, rfl⟩
  have p1 : z ^ n ≤ 4 ^ n := Nat.pow_le_pow_left (by omega) n
  have p2 : 4 ^ n ≤ 4 ^ 6 := Nat.pow_le_pow_right (by decide) n6
  have p3 : (4 : Nat) ^ 6 = 4096 := by decide
  rw [p3] at p2
  generalize 4 ^ n = q4 at p1 p2
  rw [hp] at hG p1
  generalize hGG : grT z tt n = G at *
  have b0 := hL.1
  -- the model, from any memory with the same numbers
  have mod : ∀ P : Nat → Int → Int, P 77 = M 77 → ∃ P1 P2 y, Cl S 156 [vR 76] (T, P) (none, (T, P1)) ∧ (∀ r, Rn S 177 108 ([], [some (vR 76), some (vI (n : Int)), some (vI i), some (vI B), some (vI (G : Int)), some (vI (p : Int)), y], T, P2) r → Rn S 177 40 ([], [some (vR 76), some (vI (n : Int)), some (vI i), none, none, none, none], T, P1) r) ∧ (∀ k, ¬ (17 ≤ k ∧ k ≤ 21) → P2 76 k = P 76 k) ∧ (∀ a, a ≠ 76 → ¬ (81 ≤ a ∧ a ≤ 84) → P2 a = P a) := by
    intro P p77
    obtain ⟨P1, cl, ls, lw, lc, l76, lf⟩ := lay_of (S := S) (N := P) g p77
    have q77 : P1 77 = M 77 := by rw [lf 77 (by decide) (by decide) (by decide) (by decide) (by decide)]; exact p77
    have hm : MtOk D P1 1 z n := by
      refine ⟨tu, by rw [q77, hz.1]; exact ez, fun s hs k k0 k5 => ?_, ?_, ?_⟩
      · rw [fr _ (by omega) (by omega), q77]
        have := g.rg.s s (show (s : Int) < M 5 1 by omega) k k0 (by omega)
        rw [this]
        congr 1 <;> omega
      · rw [lw v v1]
        exact v2.symm
      · rw [lc]
        exact (fk 5 (by decide)).symm
    obtain ⟨P2, y, r1, r2⟩ := t_codes (S := S) (i := i) hM hm hp (by omega) hG hB b0 x1 x2 hL.2.2
    exact ⟨P1, P2, y, cl, r1, fun k hk => by rw [r2.1 k (by omega), l76 k (by omega) (by omega)], fun a a1 a2 => by rw [r2.2 a a1 (by omega), lf a a1 (by omega) (by omega) (by omega) (by omega)]⟩
  by_cases h3 : (n : Int) ≤ i
  · obtain ⟨P1, P2, y, cl, r1, r2, r3⟩ := mod M rfl
    have hG' : Gl T P2 (K + 1) := g.tried (fun a a1 a2 a3 => r3 a (by omega) (by omega)) r2
    refine ⟨-5, T, M, P2, by decide, ⟨_, rfl, ?_⟩, ⟨_, rfl, ?_⟩, hG'⟩
    · refine Rn.cal rfl (X_ild rfl <| X_i <| X_i <| X_nil) (vs := [_, _, _]) (rest := []) rfl rfl rfl rfl (c_wY (by omega) (by decide) (by decide) h1) ?_
      refine Rn.ieq rfl (X_nil) (by first | omega | (simp (disch := omega) only [um_eq, um_na, um_ni, Int.toNat_natCast]; omega)) (fun hc => absurd hc (by first | omega | decide | (simp (disch := omega) only [um_eq, um_na, um_ni, Int.toNat_natCast]; omega))) (fun hc => ?_)
      refine Rn.cge rfl (X_ild rfl <| X_i <| X_nil) (by first | omega | (simp (disch := omega) only [um_eq, um_na, um_ni, Int.toNat_natCast]; omega)) (by first | omega | (simp (disch := omega) only [um_eq, um_na, um_ni, Int.toNat_natCast]; omega)) (fun hc => ?_) (fun hc => absurd hc (by first | omega | decide | (simp (disch := omega) only [um_eq, um_na, um_ni, Int.toNat_natCast]; omega)))
      refine Rn.ine rfl (X_ald rfl <| X_gr 7 0 hX.ob ⟨rfl, rfl⟩ rfl rfl <| X_gr 6 1 hX.s1.st ⟨rfl, rfl⟩ rfl rfl <| X_gi 0 1 1 hX.s1.be ⟨rfl, rfl, rfl⟩ (Or.inl rfl) <| X_nil) (by first | omega | (simp (disch := omega) only [um_eq, um_na, um_ni, Int.toNat_natCast]; omega)) (fun hc => ?_) (fun hc => absurd hc (by first | omega | decide | (simp (disch := omega) only [um_eq, um_na, um_ni, Int.toNat_natCast]; omega)))
      refine Rn.clt rfl (X_ild rfl <| X_ild rfl <| X_nil) (by first | omega | (simp (disch := omega) only [um_eq, um_na, um_ni, Int.toNat_natCast]; omega)) (by first | omega | (simp (disch := omega) only [um_eq, um_na, um_ni, Int.toNat_natCast]; omega)) (fun hc => absurd hc (by first | omega | decide | (simp (disch := omega) only [um_eq, um_na, um_ni, Int.toNat_natCast]; omega))) (fun hc => ?_)
      refine Rn.ri rfl (X_i <| X_nil) rfl
    · refine Rn.cal rfl (X_ild rfl <| X_i2l (by first | omega | (simp (disch := omega) only [um_eq, um_na, um_ni, Int.toNat_natCast]; omega)) <| X_l <| X_l <| X_nil) (vs := [_, _, _]) (rest := []) rfl rfl rfl rfl (c_iY (by omega) (by decide) (by decide) h1) ?_
      refine Rn.ieq rfl (X_nil) (by first | omega | (simp (disch := omega) only [um_eq, um_na, um_ni, Int.toNat_natCast]; omega)) (fun hc => absurd hc (by first | omega | decide | (simp (disch := omega) only [um_eq, um_na, um_ni, Int.toNat_natCast]; omega))) (fun hc => ?_)
      refine Rn.cge rfl (X_ild rfl <| X_i <| X_nil) (by first | omega | (simp (disch := omega) only [um_eq, um_na, um_ni, Int.toNat_natCast]; omega)) (by first | omega | (simp (disch := omega) only [um_eq, um_na, um_ni, Int.toNat_natCast]; omega)) (fun hc => ?_) (fun hc => absurd hc (by first | omega | decide | (simp (disch := omega) only [um_eq, um_na, um_ni, Int.toNat_natCast]; omega)))
      refine Rn.ine rfl (X_ald rfl <| X_gr 8 0 hM.ob ⟨rfl, rfl⟩ rfl rfl <| X_i <| X_ia hM.w (by first | omega | (simp (disch := omega) only [um_eq, um_na, um_ni, Int.toNat_natCast]; omega)) (by first | omega | (simp (disch := omega) only [um_eq, um_na, um_ni, Int.toNat_natCast]; omega)) rfl <| X_nil) (by first | omega | (simp (disch := omega) only [um_eq, um_na, um_ni, Int.toNat_natCast]; omega)) (fun hc => ?_) (fun hc => absurd hc (by first | omega | decide | (simp (disch := omega) only [um_eq, um_na, um_ni, Int.toNat_natCast]; omega)))
      refine Rn.cal rfl (X_ald rfl <| X_nil) (vs := [_]) (rest := []) rfl rfl rfl (rcv_v hM.ob (by decide)) (cl) ?_
      refine r1 _ ?_
      refine Rn.cne rfl (X_ild rfl <| X_i <| X_nil) (by first | omega | (simp (disch := omega) only [um_eq, um_na, um_ni, Int.toNat_natCast]; omega)) (by first | omega | (simp (disch := omega) only [um_eq, um_na, um_ni, Int.toNat_natCast]; omega)) (fun hc => ?_) (fun hc => absurd hc (by first | omega | decide | (simp (disch := omega) only [um_eq, um_na, um_ni, Int.toNat_natCast]; omega)))
      refine Rn.cge rfl (X_ild rfl <| X_ild rfl <| X_nil) (by first | omega | (simp (disch := omega) only [um_eq, um_na, um_ni, Int.toNat_natCast]; omega)) (by first | omega | (simp (disch := omega) only [um_eq, um_na, um_ni, Int.toNat_natCast]; omega)) (fun hc => ?_) (fun hc => absurd hc (by first | omega | decide | (simp (disch := omega) only [um_eq, um_na, um_ni, Int.toNat_natCast]; omega)))
      refine Rn.fal rfl (X_i <| X_nil) ?_
      refine Rn.ri rfl (X_nil) rfl
  have d77 : D 77 = M 77 := fr 77 (by decide) (by decide)
  obtain ⟨P1, P2, y, cl, r1, r2, r3⟩ := mod D d77
  have hG' : Gl T P2 (K + 1) := by
    refine g.foreseen (fun a a1 a2 a3 a4 a5 a6 a7 a8 => by rw [r3 a a4 (by omega)]; exact fr a a1 a2) (fun k hk => by rw [r3 2 (by decide) (by omega)]; exact fk k hk) ⟨v, v1, by rw [r3 2 (by decide) (by omega)]; exact v2⟩ (fun k k1 k2 k3 k4 k5 => by rw [r2 k (by omega), fr 76 (by decide) (by decide)])
  have d6 : D 77 6 = M 5 1 := by rw [d77]; exact hz.1
  have p77 : P2 77 6 = (z : Int) := by rw [r3 77 (by decide) (by omega), d6]; exact ez
  by_cases h4 : i = -1
  · subst h4
    refine ⟨B, T, D, P2, by omega, ⟨_, rfl, ?_⟩, ⟨_, rfl, ?_⟩, hG'⟩
    · refine Rn.cal rfl (X_ild rfl <| X_i <| X_i <| X_nil) (vs := [_, _, _]) (rest := []) rfl rfl rfl rfl (c_wY (by omega) (by decide) (by decide) h1) ?_
      refine Rn.ieq rfl (X_nil) (by first | omega | (simp (disch := omega) only [um_eq, um_na, um_ni, Int.toNat_natCast]; omega)) (fun hc => absurd hc (by first | omega | decide | (simp (disch := omega) only [um_eq, um_na, um_ni, Int.toNat_natCast]; omega))) (fun hc => ?_)
      refine Rn.cge rfl (X_ild rfl <| X_i <| X_nil) (by first | omega | (simp (disch := omega) only [um_eq, um_na, um_ni, Int.toNat_natCast]; omega)) (by first | omega | (simp (disch := omega) only [um_eq, um_na, um_ni, Int.toNat_natCast]; omega)) (fun hc => ?_) (fun hc => absurd hc (by first | omega | decide | (simp (disch := omega) only [um_eq, um_na, um_ni, Int.toNat_natCast]; omega)))
      refine Rn.ine rfl (X_ald rfl <| X_gr 7 0 hX.ob ⟨rfl, rfl⟩ rfl rfl <| X_gr 6 1 hX.s1.st ⟨rfl, rfl⟩ rfl rfl <| X_gi 0 1 1 hX.s1.be ⟨rfl, rfl, rfl⟩ (Or.inl rfl) <| X_nil) (by first | omega | (simp (disch := omega) only [um_eq, um_na, um_ni, Int.toNat_natCast]; omega)) (fun hc => ?_) (fun hc => absurd hc (by first | omega | decide | (simp (disch := omega) only [um_eq, um_na, um_ni, Int.toNat_natCast]; omega)))
      refine Rn.clt rfl (X_ild rfl <| X_ild rfl <| X_nil) (by first | omega | (simp (disch := omega) only [um_eq, um_na, um_ni, Int.toNat_natCast]; omega)) (by first | omega | (simp (disch := omega) only [um_eq, um_na, um_ni, Int.toNat_natCast]; omega)) (fun hc => ?_) (fun hc => absurd hc (by first | omega | decide | (simp (disch := omega) only [um_eq, um_na, um_ni, Int.toNat_natCast]; omega)))
      refine Rn.cal rfl (X_ald rfl <| X_gr 7 0 hX.ob ⟨rfl, rfl⟩ rfl rfl <| X_gr 6 0 hX.s1.st ⟨rfl, rfl⟩ rfl rfl <| X_nil) (vs := [_]) (rest := []) rfl rfl rfl (rcv_v hX.s1.fl (by decide)) (c1) ?_
      refine Rn.cal rfl (X_ald rfl <| X_gr 7 0 hX.ob ⟨rfl, rfl⟩ rfl rfl <| X_ild rfl <| X_nil) (vs := [_, _]) (rest := []) rfl rfl rfl (rcv_v hX.s1.st (by decide)) (cb) ?_
      refine Rn.cne rfl (X_ist rfl (L' := [_, _, _, _]) rfl <| X_ild rfl <| X_i <| X_nil) (by first | omega | (simp (disch := omega) only [um_eq, um_na, um_ni, Int.toNat_natCast]; omega)) (by first | omega | (simp (disch := omega) only [um_eq, um_na, um_ni, Int.toNat_natCast]; omega)) (fun hc => absurd hc (by first | omega | decide | (simp (disch := omega) only [um_eq, um_na, um_ni, Int.toNat_natCast]; omega))) (fun hc => ?_)
      refine Rn.jto rfl (X_ild rfl <| X_nil) ?_
      refine Rn.ri rfl (X_nil) rfl
    · refine Rn.cal rfl (X_ild rfl <| X_i2l (by first | omega | (simp (disch := omega) only [um_eq, um_na, um_ni, Int.toNat_natCast]; omega)) <| X_l <| X_l <| X_nil) (vs := [_, _, _]) (rest := []) rfl rfl rfl rfl (c_iY (by omega) (by decide) (by decide) h1) ?_
      refine Rn.ieq rfl (X_nil) (by first | omega | (simp (disch := omega) only [um_eq, um_na, um_ni, Int.toNat_natCast]; omega)) (fun hc => absurd hc (by first | omega | decide | (simp (disch := omega) only [um_eq, um_na, um_ni, Int.toNat_natCast]; omega))) (fun hc => ?_)
      refine Rn.cge rfl (X_ild rfl <| X_i <| X_nil) (by first | omega | (simp (disch := omega) only [um_eq, um_na, um_ni, Int.toNat_natCast]; omega)) (by first | omega | (simp (disch := omega) only [um_eq, um_na, um_ni, Int.toNat_natCast]; omega)) (fun hc => ?_) (fun hc => absurd hc (by first | omega | decide | (simp (disch := omega) only [um_eq, um_na, um_ni, Int.toNat_natCast]; omega)))
      refine Rn.ine rfl (X_ald rfl <| X_gr 8 0 hM.ob ⟨rfl, rfl⟩ rfl rfl <| X_i <| X_ia hM.w (by first | omega | (simp (disch := omega) only [um_eq, um_na, um_ni, Int.toNat_natCast]; omega)) (by first | omega | (simp (disch := omega) only [um_eq, um_na, um_ni, Int.toNat_natCast]; omega)) rfl <| X_nil) (by first | omega | (simp (disch := omega) only [um_eq, um_na, um_ni, Int.toNat_natCast]; omega)) (fun hc => ?_) (fun hc => absurd hc (by first | omega | decide | (simp (disch := omega) only [um_eq, um_na, um_ni, Int.toNat_natCast]; omega)))
      refine Rn.cal rfl (X_ald rfl <| X_nil) (vs := [_]) (rest := []) rfl rfl rfl (rcv_v hM.ob (by decide)) (cl) ?_
      refine r1 _ ?_
      refine Rn.cne rfl (X_ild rfl <| X_i <| X_nil) (by first | omega | (simp (disch := omega) only [um_eq, um_na, um_ni, Int.toNat_natCast]; omega)) (by first | omega | (simp (disch := omega) only [um_eq, um_na, um_ni, Int.toNat_natCast]; omega)) (fun hc => absurd hc (by first | omega | decide | (simp (disch := omega) only [um_eq, um_na, um_ni, Int.toNat_natCast]; omega))) (fun hc => ?_)
      refine Rn.jto rfl (X_ild rfl <| X_nil) ?_
      refine Rn.ri rfl (X_nil) rfl
  · obtain ⟨j, rfl⟩ : ∃ j : Nat, i = (j : Int) := ⟨i.toNat, by omega⟩
    have hj : j < n := by omega
    have cw := t_whose (S := S) (B := B) (i := j) hS tu (by omega) ht hj
    have tj := (ht j hj).1
    have cp := t_power (S := S) (h := (T, P2)) (z := z) (n := n - 1 - j) (by omega)
    rw [← p77, show ((n - 1 - j : Nat) : Int) = (n : Int) - 1 - (j : Int) by omega] at cp
    have gp := grT_pow ht (n - 1 - j) (j + 1) (by omega)
    rw [show j + 1 + (n - 1 - j) = n by omega, hGG] at gp
    have gm := grT_mod (z := z) (tt := tt) tj
    have q1 : z ^ (n - 1 - j) ≤ 4 ^ (n - 1 - j) := Nat.pow_le_pow_left (by omega) _
    have q2 : 4 ^ (n - 1 - j) ≤ 4 ^ 6 := Nat.pow_le_pow_right (by decide) (by omega)
    have q0 : 0 < z ^ (n - 1 - j) := Nat.pow_pos (by omega)
    rw [p3] at q2
    generalize z ^ (n - 1 - j) = u at *
    generalize 4 ^ (n - 1 - j) = u4 at *
    have ev : (G : Int) / (u : Int) % (z : Int) = ((tt j : Nat) : Int) := by
      rw [← Int.natCast_ediv, ← Int.natCast_emod, gp, gm]
    have du : 0 ≤ (G : Int) / (u : Int) ∧ (G : Int) / (u : Int) ≤ G := ⟨Int.ediv_nonneg (by omega) (by omega), Int.ediv_le_self _ (by omega)⟩
    refine ⟨((tt j : Nat) : Int), T, D, P2, by omega, ⟨_, rfl, ?_⟩, ⟨_, rfl, ?_⟩, hG'⟩
    · refine Rn.cal rfl (X_ild rfl <| X_i <| X_i <| X_nil) (vs := [_, _, _]) (rest := []) rfl rfl rfl rfl (c_wY (by omega) (by decide) (by decide) h1) ?_
      refine Rn.ieq rfl (X_nil) (by first | omega | (simp (disch := omega) only [um_eq, um_na, um_ni, Int.toNat_natCast]; omega)) (fun hc => absurd hc (by first | omega | decide | (simp (disch := omega) only [um_eq, um_na, um_ni, Int.toNat_natCast]; omega))) (fun hc => ?_)
      refine Rn.cge rfl (X_ild rfl <| X_i <| X_nil) (by first | omega | (simp (disch := omega) only [um_eq, um_na, um_ni, Int.toNat_natCast]; omega)) (by first | omega | (simp (disch := omega) only [um_eq, um_na, um_ni, Int.toNat_natCast]; omega)) (fun hc => ?_) (fun hc => absurd hc (by first | omega | decide | (simp (disch := omega) only [um_eq, um_na, um_ni, Int.toNat_natCast]; omega)))
      refine Rn.ine rfl (X_ald rfl <| X_gr 7 0 hX.ob ⟨rfl, rfl⟩ rfl rfl <| X_gr 6 1 hX.s1.st ⟨rfl, rfl⟩ rfl rfl <| X_gi 0 1 1 hX.s1.be ⟨rfl, rfl, rfl⟩ (Or.inl rfl) <| X_nil) (by first | omega | (simp (disch := omega) only [um_eq, um_na, um_ni, Int.toNat_natCast]; omega)) (fun hc => ?_) (fun hc => absurd hc (by first | omega | decide | (simp (disch := omega) only [um_eq, um_na, um_ni, Int.toNat_natCast]; omega)))
      refine Rn.clt rfl (X_ild rfl <| X_ild rfl <| X_nil) (by first | omega | (simp (disch := omega) only [um_eq, um_na, um_ni, Int.toNat_natCast]; omega)) (by first | omega | (simp (disch := omega) only [um_eq, um_na, um_ni, Int.toNat_natCast]; omega)) (fun hc => ?_) (fun hc => absurd hc (by first | omega | decide | (simp (disch := omega) only [um_eq, um_na, um_ni, Int.toNat_natCast]; omega)))
      refine Rn.cal rfl (X_ald rfl <| X_gr 7 0 hX.ob ⟨rfl, rfl⟩ rfl rfl <| X_gr 6 0 hX.s1.st ⟨rfl, rfl⟩ rfl rfl <| X_nil) (vs := [_]) (rest := []) rfl rfl rfl (rcv_v hX.s1.fl (by decide)) (c1) ?_
      refine Rn.cal rfl (X_ald rfl <| X_gr 7 0 hX.ob ⟨rfl, rfl⟩ rfl rfl <| X_ild rfl <| X_nil) (vs := [_, _]) (rest := []) rfl rfl rfl (rcv_v hX.s1.st (by decide)) (cb) ?_
      refine Rn.cne rfl (X_ist rfl (L' := [_, _, _, _]) rfl <| X_ild rfl <| X_i <| X_nil) (by first | omega | (simp (disch := omega) only [um_eq, um_na, um_ni, Int.toNat_natCast]; omega)) (by first | omega | (simp (disch := omega) only [um_eq, um_na, um_ni, Int.toNat_natCast]; omega)) (fun hc => ?_) (fun hc => absurd hc (by first | omega | decide | (simp (disch := omega) only [um_eq, um_na, um_ni, Int.toNat_natCast]; omega)))
      refine Rn.cal rfl (X_ald rfl <| X_gr 7 0 hX.ob ⟨rfl, rfl⟩ rfl rfl <| X_ild rfl <| X_ild rfl <| X_ild rfl <| X_nil) (vs := [_, _, _, _]) (rest := []) rfl rfl rfl (rcv_v hX.s1.st (by decide)) (cw) ?_
      refine Rn.ri rfl (X_nil) rfl
    · refine Rn.cal rfl (X_ild rfl <| X_i2l (by first | omega | (simp (disch := omega) only [um_eq, um_na, um_ni, Int.toNat_natCast]; omega)) <| X_l <| X_l <| X_nil) (vs := [_, _, _]) (rest := []) rfl rfl rfl rfl (c_iY (by omega) (by decide) (by decide) h1) ?_
      refine Rn.ieq rfl (X_nil) (by first | omega | (simp (disch := omega) only [um_eq, um_na, um_ni, Int.toNat_natCast]; omega)) (fun hc => absurd hc (by first | omega | decide | (simp (disch := omega) only [um_eq, um_na, um_ni, Int.toNat_natCast]; omega))) (fun hc => ?_)
      refine Rn.cge rfl (X_ild rfl <| X_i <| X_nil) (by first | omega | (simp (disch := omega) only [um_eq, um_na, um_ni, Int.toNat_natCast]; omega)) (by first | omega | (simp (disch := omega) only [um_eq, um_na, um_ni, Int.toNat_natCast]; omega)) (fun hc => ?_) (fun hc => absurd hc (by first | omega | decide | (simp (disch := omega) only [um_eq, um_na, um_ni, Int.toNat_natCast]; omega)))
      refine Rn.ine rfl (X_ald rfl <| X_gr 8 0 hM.ob ⟨rfl, rfl⟩ rfl rfl <| X_i <| X_ia hM.w (by first | omega | (simp (disch := omega) only [um_eq, um_na, um_ni, Int.toNat_natCast]; omega)) (by first | omega | (simp (disch := omega) only [um_eq, um_na, um_ni, Int.toNat_natCast]; omega)) rfl <| X_nil) (by first | omega | (simp (disch := omega) only [um_eq, um_na, um_ni, Int.toNat_natCast]; omega)) (fun hc => ?_) (fun hc => absurd hc (by first | omega | decide | (simp (disch := omega) only [um_eq, um_na, um_ni, Int.toNat_natCast]; omega)))
      refine Rn.cal rfl (X_ald rfl <| X_nil) (vs := [_]) (rest := []) rfl rfl rfl (rcv_v hM.ob (by decide)) (cl) ?_
      refine r1 _ ?_
      refine Rn.cne rfl (X_ild rfl <| X_i <| X_nil) (by first | omega | (simp (disch := omega) only [um_eq, um_na, um_ni, Int.toNat_natCast]; omega)) (by first | omega | (simp (disch := omega) only [um_eq, um_na, um_ni, Int.toNat_natCast]; omega)) (fun hc => ?_) (fun hc => absurd hc (by first | omega | decide | (simp (disch := omega) only [um_eq, um_na, um_ni, Int.toNat_natCast]; omega)))
      refine Rn.cge rfl (X_ild rfl <| X_ild rfl <| X_nil) (by first | omega | (simp (disch := omega) only [um_eq, um_na, um_ni, Int.toNat_natCast]; omega)) (by first | omega | (simp (disch := omega) only [um_eq, um_na, um_ni, Int.toNat_natCast]; omega)) (fun hc => absurd hc (by first | omega | decide | (simp (disch := omega) only [um_eq, um_na, um_ni, Int.toNat_natCast]; omega))) (fun hc => ?_)
      refine Rn.cal rfl (X_ild rfl <| X_ald rfl <| X_gr 8 0 hM.ob ⟨rfl, rfl⟩ rfl rfl <| X_i <| X_ia hM.w (by first | omega | (simp (disch := omega) only [um_eq, um_na, um_ni, Int.toNat_natCast]; omega)) (by first | omega | (simp (disch := omega) only [um_eq, um_na, um_ni, Int.toNat_natCast]; omega)) rfl <| X_ild rfl <| X_i <| X_sub <| X_ild rfl <| X_sub <| X_nil) (vs := [_, _]) (rest := [_]) rfl rfl rfl rfl (cp) ?_
      rw [← ev, ← p77]
      refine Rn.jto rfl (X_div (by first | omega | (simp (disch := omega) only [um_eq, um_na, um_ni, Int.toNat_natCast]; omega)) (by first | omega | (simp (disch := omega) only [um_eq, um_na, um_ni, Int.toNat_natCast]; omega)) <| X_ald rfl <| X_gr 8 0 hM.ob ⟨rfl, rfl⟩ rfl rfl <| X_i <| X_ia hM.w (by first | omega | (simp (disch := omega) only [um_eq, um_na, um_ni, Int.toNat_natCast]; omega)) (by first | omega | (simp (disch := omega) only [um_eq, um_na, um_ni, Int.toNat_natCast]; omega)) rfl <| X_rem (by first | omega | (simp (disch := omega) only [um_eq, um_na, um_ni, Int.toNat_natCast]; omega)) (by first | omega | (simp (disch := omega) only [um_eq, um_na, um_ni, Int.toNat_natCast]; omega)) <| X_nil) ?_
      refine Rn.ri rfl (X_nil) rfl
end TurnsD
