/-! COUNT, NOTE, PART -/
section Ops8
variable {S : List Int} {T : List Sh} {M N C : Nat → Int → Int} {K : Nat} {h : Hp}
def cntV (M : Nat → Int → Int) (k : Int) : Int := if k = 10 then M 76 3 else M 77 k
theorem c_countOf {k : Int} (hM : isM T) (k0 : 0 ≤ k) (k10 : k ≤ 10) : Cl S 192 [vR 76, vI k] (T, M) (some (vI (cntV M k)), (T, M)) := by
  refine ⟨_, rfl, ?_⟩
  unfold cntV
  by_cases e : k = 10
  · rw [if_pos e]
    refine Rn.cne rfl (X_ild rfl <| X_i <| X_nil) (by first | omega | (simp (disch := omega) only [um_eq, um_na, um_ni, Int.toNat_natCast]; omega)) (by first | omega | (simp (disch := omega) only [um_eq, um_na, um_ni, Int.toNat_natCast]; omega)) (fun hc => absurd hc (by first | omega | decide | (simp (disch := omega) only [um_eq, um_na, um_ni, Int.toNat_natCast]; omega))) (fun hc => ?_)
    refine Rn.jto rfl (X_ald rfl <| X_gi 8 3 3 hM.ob ⟨rfl, rfl, rfl⟩ (Or.inl rfl) <| X_nil) ?_
    refine Rn.ri rfl (X_nil) rfl
  · rw [if_neg e]
    refine Rn.cne rfl (X_ild rfl <| X_i <| X_nil) (by first | omega | (simp (disch := omega) only [um_eq, um_na, um_ni, Int.toNat_natCast]; omega)) (by first | omega | (simp (disch := omega) only [um_eq, um_na, um_ni, Int.toNat_natCast]; omega)) (fun hc => ?_) (fun hc => absurd hc (by first | omega | decide | (simp (disch := omega) only [um_eq, um_na, um_ni, Int.toNat_natCast]; omega)))
    refine Rn.fal rfl (X_ald rfl <| X_gr 8 0 hM.ob ⟨rfl, rfl⟩ rfl rfl <| X_ild rfl <| X_ia hM.w (by first | omega | (simp (disch := omega) only [um_eq, um_na, um_ni, Int.toNat_natCast]; omega)) (by first | omega | (simp (disch := omega) only [um_eq, um_na, um_ni, Int.toNat_natCast]; omega)) rfl <| X_nil) ?_
    refine Rn.ri rfl (X_nil) rfl
theorem c_howMany {k : Int} (g : Gl T M K) (k0 : 0 ≤ k) (k10 : k ≤ 10) : Cl S 108 [vR 0, vI k] (T, M) (some (vI (cntV M k)), (T, M)) := by
  have hX := g.x
  have fl : ∀ j, 0 ≤ j → j < 6 → M 77 j = M 2 j := fun j j0 j6 => g.flI j0 j6
  have z : M 5 1 = M 77 6 := g.rg.z
  have m : M 24 0 = M 77 7 := g.rg.m
  have n : M 5 2 = M 77 8 := g.rg.n
  have u : M 5 3 = M 77 9 := g.rg.u
  have t1 := g.tx.1
  refine ⟨_, rfl, ?_⟩
  unfold cntV
  rcases (show k = 0 ∨ k = 1 ∨ k = 2 ∨ k = 3 ∨ k = 4 ∨ k = 5 ∨ k = 6 ∨ k = 7 ∨ k = 8 ∨ k = 9 ∨ k = 10 by omega) with rfl | rfl | rfl | rfl | rfl | rfl | rfl | rfl | rfl | rfl | rfl
  · rw [if_neg (by decide), fl 0 (by decide) (by decide)]
    refine Rn.swi (q' := 56) rfl (X_ild rfl <| X_nil) (by first | omega | (simp (disch := omega) only [um_eq, um_na, um_ni, Int.toNat_natCast]; omega)) (by first | rfl | (rw [e]; rfl)) ?_
    refine Rn.ri rfl (X_ald rfl <| X_gr 7 0 hX.ob ⟨rfl, rfl⟩ rfl rfl <| X_gr 6 0 hX.s1.st ⟨rfl, rfl⟩ rfl rfl <| X_gi 1 0 0 hX.s1.fl ⟨rfl, rfl, rfl⟩ (Or.inl rfl) <| X_nil) rfl
  · rw [if_neg (by decide), fl 1 (by decide) (by decide)]
    refine Rn.swi (q' := 67) rfl (X_ild rfl <| X_nil) (by first | omega | (simp (disch := omega) only [um_eq, um_na, um_ni, Int.toNat_natCast]; omega)) (by first | rfl | (rw [e]; rfl)) ?_
    refine Rn.ri rfl (X_ald rfl <| X_gr 7 0 hX.ob ⟨rfl, rfl⟩ rfl rfl <| X_gr 6 0 hX.s1.st ⟨rfl, rfl⟩ rfl rfl <| X_gi 1 1 1 hX.s1.fl ⟨rfl, rfl, rfl⟩ (Or.inl rfl) <| X_nil) rfl
  · rw [if_neg (by decide), fl 2 (by decide) (by decide)]
    refine Rn.swi (q' := 78) rfl (X_ild rfl <| X_nil) (by first | omega | (simp (disch := omega) only [um_eq, um_na, um_ni, Int.toNat_natCast]; omega)) (by first | rfl | (rw [e]; rfl)) ?_
    refine Rn.ri rfl (X_ald rfl <| X_gr 7 0 hX.ob ⟨rfl, rfl⟩ rfl rfl <| X_gr 6 0 hX.s1.st ⟨rfl, rfl⟩ rfl rfl <| X_gi 1 2 2 hX.s1.fl ⟨rfl, rfl, rfl⟩ (Or.inl rfl) <| X_nil) rfl
  · rw [if_neg (by decide), fl 3 (by decide) (by decide)]
    refine Rn.swi (q' := 89) rfl (X_ild rfl <| X_nil) (by first | omega | (simp (disch := omega) only [um_eq, um_na, um_ni, Int.toNat_natCast]; omega)) (by first | rfl | (rw [e]; rfl)) ?_
    refine Rn.ri rfl (X_ald rfl <| X_gr 7 0 hX.ob ⟨rfl, rfl⟩ rfl rfl <| X_gr 6 0 hX.s1.st ⟨rfl, rfl⟩ rfl rfl <| X_gi 1 3 3 hX.s1.fl ⟨rfl, rfl, rfl⟩ (Or.inl rfl) <| X_nil) rfl
  · rw [if_neg (by decide), fl 4 (by decide) (by decide)]
    refine Rn.swi (q' := 100) rfl (X_ild rfl <| X_nil) (by first | omega | (simp (disch := omega) only [um_eq, um_na, um_ni, Int.toNat_natCast]; omega)) (by first | rfl | (rw [e]; rfl)) ?_
    refine Rn.ri rfl (X_ald rfl <| X_gr 7 0 hX.ob ⟨rfl, rfl⟩ rfl rfl <| X_gr 6 0 hX.s1.st ⟨rfl, rfl⟩ rfl rfl <| X_gi 1 4 4 hX.s1.fl ⟨rfl, rfl, rfl⟩ (Or.inl rfl) <| X_nil) rfl
  · rw [if_neg (by decide), fl 5 (by decide) (by decide)]
    refine Rn.swi (q' := 111) rfl (X_ild rfl <| X_nil) (by first | omega | (simp (disch := omega) only [um_eq, um_na, um_ni, Int.toNat_natCast]; omega)) (by first | rfl | (rw [e]; rfl)) ?_
    refine Rn.ri rfl (X_ald rfl <| X_gr 7 0 hX.ob ⟨rfl, rfl⟩ rfl rfl <| X_gr 6 0 hX.s1.st ⟨rfl, rfl⟩ rfl rfl <| X_gi 1 5 5 hX.s1.fl ⟨rfl, rfl, rfl⟩ (Or.inl rfl) <| X_nil) rfl
  · rw [if_neg (by decide), ← z]
    refine Rn.swi (q' := 122) rfl (X_ild rfl <| X_nil) (by first | omega | (simp (disch := omega) only [um_eq, um_na, um_ni, Int.toNat_natCast]; omega)) (by first | rfl | (rw [e]; rfl)) ?_
    refine Rn.ri rfl (X_ald rfl <| X_gr 7 0 hX.ob ⟨rfl, rfl⟩ rfl rfl <| X_gr 6 1 hX.s1.st ⟨rfl, rfl⟩ rfl rfl <| X_gi 0 1 1 hX.s1.be ⟨rfl, rfl, rfl⟩ (Or.inl rfl) <| X_nil) rfl
  · rw [if_neg (by decide), ← m]
    refine Rn.swi (q' := 133) rfl (X_ild rfl <| X_nil) (by first | omega | (simp (disch := omega) only [um_eq, um_na, um_ni, Int.toNat_natCast]; omega)) (by first | rfl | (rw [e]; rfl)) ?_
    refine Rn.ri rfl (X_ald rfl <| X_gr 7 0 hX.ob ⟨rfl, rfl⟩ rfl rfl <| X_gr 6 2 hX.s1.st ⟨rfl, rfl⟩ rfl rfl <| X_gi 3 0 0 hX.s1.no ⟨rfl, rfl, rfl⟩ (Or.inl rfl) <| X_nil) rfl
  · rw [if_neg (by decide), ← n]
    refine Rn.swi (q' := 144) rfl (X_ild rfl <| X_nil) (by first | omega | (simp (disch := omega) only [um_eq, um_na, um_ni, Int.toNat_natCast]; omega)) (by first | rfl | (rw [e]; rfl)) ?_
    refine Rn.ri rfl (X_ald rfl <| X_gr 7 0 hX.ob ⟨rfl, rfl⟩ rfl rfl <| X_gr 6 1 hX.s1.st ⟨rfl, rfl⟩ rfl rfl <| X_gi 0 2 2 hX.s1.be ⟨rfl, rfl, rfl⟩ (Or.inl rfl) <| X_nil) rfl
  · rw [if_neg (by decide), ← u]
    refine Rn.swi (q' := 155) rfl (X_ild rfl <| X_nil) (by first | omega | (simp (disch := omega) only [um_eq, um_na, um_ni, Int.toNat_natCast]; omega)) (by first | rfl | (rw [e]; rfl)) ?_
    refine Rn.ri rfl (X_ald rfl <| X_gr 7 0 hX.ob ⟨rfl, rfl⟩ rfl rfl <| X_gr 6 1 hX.s1.st ⟨rfl, rfl⟩ rfl rfl <| X_gi 0 3 3 hX.s1.be ⟨rfl, rfl, rfl⟩ (Or.inl rfl) <| X_nil) rfl
  · rw [if_pos rfl, ← t1]
    refine Rn.swi (q' := 166) rfl (X_ild rfl <| X_nil) (by first | omega | (simp (disch := omega) only [um_eq, um_na, um_ni, Int.toNat_natCast]; omega)) (by first | rfl | (rw [e]; rfl)) ?_
    refine Rn.ri rfl (X_ald rfl <| X_gr 7 3 hX.ob ⟨rfl, rfl⟩ rfl rfl <| X_gi 4 0 0 hX.sc ⟨rfl, rfl, rfl⟩ (Or.inl rfl) <| X_nil) rfl
theorem cntV_in {k : Int} (g : Gl T M K) (hK : K ≤ 1000) (k0 : 0 ≤ k) (k10 : k ≤ 10) : I32 (cntV M k) := by
  have fl : ∀ j, 0 ≤ j → j < 6 → M 77 j = M 2 j := fun j j0 j6 => g.flI j0 j6
  have z : M 5 1 = M 77 6 := g.rg.z
  have m : M 24 0 = M 77 7 := g.rg.m
  have n : M 5 2 = M 77 8 := g.rg.n
  have u : M 5 3 = M 77 9 := g.rg.u
  have z4 : 0 ≤ M 5 1 ∧ M 5 1 ≤ 4 := g.rg.z4
  have n4 : 0 ≤ M 5 2 ∧ M 5 2 ≤ 30 * (K : Int) := g.rg.n4
  have u8 : 0 ≤ M 5 3 ∧ M 5 3 ≤ 8 ∧ M 5 3 ≤ M 5 2 := g.rg.u8
  have m8 : 0 ≤ M 24 0 ∧ M 24 0 ≤ 8 := g.rg.m8
  obtain ⟨f0, f1, f2, f3, f4, f5, -⟩ := g.rg.fl.1
  have f0 : 1 ≤ M 2 0 ∧ M 2 0 ≤ 7 := f0
  have f1 : 1 ≤ M 2 1 ∧ M 2 1 ≤ 7 := f1
  have f2 : 0 ≤ M 2 2 ∧ M 2 2 < M 2 0 * M 2 1 := f2
  have f3 : 0 ≤ M 2 3 ∧ M 2 3 < M 2 0 * M 2 1 := f3
  have f4 : 0 ≤ M 2 4 ∧ M 2 4 ≤ 127 := f4
  have f5 : 0 ≤ M 2 5 ∧ M 2 5 ≤ 1 := f5
  have hn : 1 ≤ M 2 0 * M 2 1 ∧ M 2 0 * M 2 1 ≤ 49 := g.rg.fl.1.n
  have t1 := g.tx.1
  have t2 := g.tx.2.1
  unfold cntV
  rcases (show k = 0 ∨ k = 1 ∨ k = 2 ∨ k = 3 ∨ k = 4 ∨ k = 5 ∨ k = 6 ∨ k = 7 ∨ k = 8 ∨ k = 9 ∨ k = 10 by omega) with rfl | rfl | rfl | rfl | rfl | rfl | rfl | rfl | rfl | rfl | rfl
  · rw [if_neg (by decide), fl 0 (by decide) (by decide)]; omega
  · rw [if_neg (by decide), fl 1 (by decide) (by decide)]; omega
  · rw [if_neg (by decide), fl 2 (by decide) (by decide)]; omega
  · rw [if_neg (by decide), fl 3 (by decide) (by decide)]; omega
  · rw [if_neg (by decide), fl 4 (by decide) (by decide)]; omega
  · rw [if_neg (by decide), fl 5 (by decide) (by decide)]; omega
  · rw [if_neg (by decide), ← z]; omega
  · rw [if_neg (by decide), ← m]; omega
  · rw [if_neg (by decide), ← n]; omega
  · rw [if_neg (by decide), ← u]; omega
  · rw [if_pos rfl, ← t1]; omega
theorem op_count {k : Int} (g : Gl T M K) (hK : K ≤ 1000) (ik : I32 k) : Op S 101 193 [vI k] T M K := by
  have hX := g.x
  have hM := g.m
  by_cases h1 : 0 ≤ k ∧ k ≤ 10
  case neg =>
    refine Op.bad (v := -2) (k := 0) g (by decide) (by decide) (by decide) ⟨_, rfl, ?_⟩ (fun M1 h80 => ⟨_, rfl, ?_⟩) trivial
    · refine Rn.cal rfl (X_ild rfl <| X_i <| X_i <| X_nil) (vs := [_, _, _]) (rest := []) rfl rfl rfl rfl (c_wN (by omega) (by decide) (by decide) h1) ?_
      refine Rn.ine rfl (X_nil) (by first | omega | (simp (disch := omega) only [um_eq, um_na, um_ni, Int.toNat_natCast]; omega)) (fun hc => absurd hc (by first | omega | decide | (simp (disch := omega) only [um_eq, um_na, um_ni, Int.toNat_natCast]; omega))) (fun hc => ?_)
      refine Rn.cal rfl (X_ald rfl <| X_i <| X_nil) (vs := [_, _]) (rest := []) rfl rfl rfl (rcv_v hX.ob (by decide)) (c_bad hX) ?_
      refine Rn.ri rfl (X_nil) rfl
    · refine Rn.cal rfl (X_ild rfl <| X_i2l (by first | omega | (simp (disch := omega) only [um_eq, um_na, um_ni, Int.toNat_natCast]; omega)) <| X_l <| X_l <| X_nil) (vs := [_, _, _]) (rest := []) rfl rfl rfl rfl (c_iN (by omega) (by decide) (by decide) h1) ?_
      refine Rn.ieq rfl (X_nil) (by first | omega | (simp (disch := omega) only [um_eq, um_na, um_ni, Int.toNat_natCast]; omega)) (fun hc => ?_) (fun hc => absurd hc (by first | omega | decide | (simp (disch := omega) only [um_eq, um_na, um_ni, Int.toNat_natCast]; omega)))
      refine Rn.cal rfl (X_ald rfl <| X_nil) (vs := [_]) (rest := []) rfl rfl rfl (rcv_v hM.ob (by decide)) (c_mbad hM) ?_
      refine Rn.ri rfl (X_nil) rfl
  refine ⟨cntV M k, T, M, M, cntV_in g hK h1.1 h1.2, ⟨_, rfl, ?_⟩, ⟨_, rfl, ?_⟩, g.up1⟩
  · refine Rn.cal rfl (X_ild rfl <| X_i <| X_i <| X_nil) (vs := [_, _, _]) (rest := []) rfl rfl rfl rfl (c_wY (by omega) (by decide) (by decide) h1) ?_
    refine Rn.ine rfl (X_nil) (by first | omega | (simp (disch := omega) only [um_eq, um_na, um_ni, Int.toNat_natCast]; omega)) (fun hc => ?_) (fun hc => absurd hc (by first | omega | decide | (simp (disch := omega) only [um_eq, um_na, um_ni, Int.toNat_natCast]; omega)))
    refine Rn.cal rfl (X_ald rfl <| X_ild rfl <| X_nil) (vs := [_, _]) (rest := []) rfl rfl rfl (rcv_v hX.ob (by decide)) (c_howMany g h1.1 h1.2) ?_
    refine Rn.ri rfl (X_nil) rfl
  · refine Rn.cal rfl (X_ild rfl <| X_i2l (by first | omega | (simp (disch := omega) only [um_eq, um_na, um_ni, Int.toNat_natCast]; omega)) <| X_l <| X_l <| X_nil) (vs := [_, _, _]) (rest := []) rfl rfl rfl rfl (c_iY (by omega) (by decide) (by decide) h1) ?_
    refine Rn.ieq rfl (X_nil) (by first | omega | (simp (disch := omega) only [um_eq, um_na, um_ni, Int.toNat_natCast]; omega)) (fun hc => absurd hc (by first | omega | decide | (simp (disch := omega) only [um_eq, um_na, um_ni, Int.toNat_natCast]; omega))) (fun hc => ?_)
    refine Rn.cal rfl (X_ald rfl <| X_ild rfl <| X_nil) (vs := [_, _]) (rest := []) rfl rfl rfl (rcv_v hM.ob (by decide)) (c_countOf hM h1.1 h1.2) ?_
    refine Rn.jto rfl (X_nil) ?_
    refine Rn.ri rfl (X_nil) rfl
def OpL (S : List Int) (mc mm : Nat) (vs : List AV) (T : List Sh) (M : Nat → Int → Int) (K : Nat) : Prop := ∃ v T1 M1 M2, Cl S mc (vR 0 :: vs) (T, M) (some (vL v), (T1, M1)) ∧ Cl S mm (vR 76 :: vs) (T1, M1) (some (vL v), (T1, M2)) ∧ Gl T1 M2 (K + 1)
theorem op_part {k : Int} (g : Gl T M K) (ik : I32 k) : OpL S 97 188 [vI k] T M K := by
  have hX := g.x
  have hM := g.m
  obtain ⟨⟨f1, f2⟩, -⟩ := g.fr
  by_cases h1 : 0 ≤ k ∧ k ≤ 1
  case neg =>
    refine ⟨-2, T, um M 59 0 (M 59 0 + 1), um (um M 59 0 (M 59 0 + 1)) 80 0 (um M 59 0 (M 59 0 + 1) 80 0 + 1), ⟨_, rfl, ?_⟩, ⟨_, rfl, ?_⟩, ?_⟩
    · refine Rn.cal rfl (X_ild rfl <| X_i <| X_i <| X_nil) (vs := [_, _, _]) (rest := []) rfl rfl rfl rfl (c_wN (by omega) (by decide) (by decide) h1) ?_
      refine Rn.ine rfl (X_nil) (by first | omega | (simp (disch := omega) only [um_eq, um_na, um_ni, Int.toNat_natCast]; omega)) (fun hc => absurd hc (by first | omega | decide | (simp (disch := omega) only [um_eq, um_na, um_ni, Int.toNat_natCast]; omega))) (fun hc => ?_)
      refine Rn.cal rfl (X_ald rfl <| X_i <| X_nil) (vs := [_, _]) (rest := []) rfl rfl rfl (rcv_v hX.ob (by decide)) (c_bad hX) ?_
      refine Rn.rl rfl (X_i2l (by first | omega | (simp (disch := omega) only [um_eq, um_na, um_ni, Int.toNat_natCast]; omega)) <| X_nil) rfl
    · refine Rn.ine rfl (X_ild rfl <| X_nil) (by first | omega | (simp (disch := omega) only [um_eq, um_na, um_ni, Int.toNat_natCast]; omega)) (fun hc => ?_) (fun hc => absurd hc (by first | omega | decide | (simp (disch := omega) only [um_eq, um_na, um_ni, Int.toNat_natCast]; omega)))
      refine Rn.cne rfl (X_ild rfl <| X_i <| X_nil) (by first | omega | (simp (disch := omega) only [um_eq, um_na, um_ni, Int.toNat_natCast]; omega)) (by first | omega | (simp (disch := omega) only [um_eq, um_na, um_ni, Int.toNat_natCast]; omega)) (fun hc => ?_) (fun hc => absurd hc (by first | omega | decide | (simp (disch := omega) only [um_eq, um_na, um_ni, Int.toNat_natCast]; omega)))
      refine Rn.cal rfl (X_ald rfl <| X_nil) (vs := [_]) (rest := []) rfl rfl rfl (rcv_v hM.ob (by decide)) (c_mbad hM) ?_
      refine Rn.fal rfl (X_i2l (by first | omega | (simp (disch := omega) only [um_eq, um_na, um_ni, Int.toNat_natCast]; omega)) <| X_nil) ?_
      refine Rn.rl rfl (X_nil) rfl
    · rw [um_na (by decide)]
      exact g.bad (by decide) (by decide)
  rcases (show k = 0 ∨ k = 1 by omega) with rfl | rfl
  · refine ⟨M 0 7, T, M, M, ⟨_, rfl, ?_⟩, ⟨_, rfl, ?_⟩, g.up1⟩
    · refine Rn.cal rfl (X_ild rfl <| X_i <| X_i <| X_nil) (vs := [_, _, _]) (rest := []) rfl rfl rfl rfl (c_wY (by omega) (by decide) (by decide) h1) ?_
      refine Rn.ine rfl (X_nil) (by first | omega | (simp (disch := omega) only [um_eq, um_na, um_ni, Int.toNat_natCast]; omega)) (fun hc => ?_) (fun hc => absurd hc (by first | omega | decide | (simp (disch := omega) only [um_eq, um_na, um_ni, Int.toNat_natCast]; omega)))
      refine Rn.ine rfl (X_ild rfl <| X_nil) (by first | omega | (simp (disch := omega) only [um_eq, um_na, um_ni, Int.toNat_natCast]; omega)) (fun hc => absurd hc (by first | omega | decide | (simp (disch := omega) only [um_eq, um_na, um_ni, Int.toNat_natCast]; omega))) (fun hc => ?_)
      refine Rn.jto rfl (X_ald rfl <| X_gl 7 7 7 hX.ob ⟨rfl, rfl, rfl⟩ rfl <| X_nil) ?_
      refine Rn.rl rfl (X_nil) rfl
    · rw [f1]
      refine Rn.ine rfl (X_ild rfl <| X_nil) (by first | omega | (simp (disch := omega) only [um_eq, um_na, um_ni, Int.toNat_natCast]; omega)) (fun hc => absurd hc (by first | omega | decide | (simp (disch := omega) only [um_eq, um_na, um_ni, Int.toNat_natCast]; omega))) (fun hc => ?_)
      refine Rn.jto rfl (X_ald rfl <| X_gl 8 5 5 hM.ob ⟨rfl, rfl, rfl⟩ rfl <| X_nil) ?_
      refine Rn.rl rfl (X_nil) rfl
  · refine ⟨M 0 8, T, M, M, ⟨_, rfl, ?_⟩, ⟨_, rfl, ?_⟩, g.up1⟩
    · refine Rn.cal rfl (X_ild rfl <| X_i <| X_i <| X_nil) (vs := [_, _, _]) (rest := []) rfl rfl rfl rfl (c_wY (by omega) (by decide) (by decide) h1) ?_
      refine Rn.ine rfl (X_nil) (by first | omega | (simp (disch := omega) only [um_eq, um_na, um_ni, Int.toNat_natCast]; omega)) (fun hc => ?_) (fun hc => absurd hc (by first | omega | decide | (simp (disch := omega) only [um_eq, um_na, um_ni, Int.toNat_natCast]; omega)))
      refine Rn.ine rfl (X_ild rfl <| X_nil) (by first | omega | (simp (disch := omega) only [um_eq, um_na, um_ni, Int.toNat_natCast]; omega)) (fun hc => ?_) (fun hc => absurd hc (by first | omega | decide | (simp (disch := omega) only [um_eq, um_na, um_ni, Int.toNat_natCast]; omega)))
      refine Rn.fal rfl (X_ald rfl <| X_gl 7 8 8 hX.ob ⟨rfl, rfl, rfl⟩ rfl <| X_nil) ?_
      refine Rn.rl rfl (X_nil) rfl
    · rw [f2]
      refine Rn.ine rfl (X_ild rfl <| X_nil) (by first | omega | (simp (disch := omega) only [um_eq, um_na, um_ni, Int.toNat_natCast]; omega)) (fun hc => ?_) (fun hc => absurd hc (by first | omega | decide | (simp (disch := omega) only [um_eq, um_na, um_ni, Int.toNat_natCast]; omega)))
      refine Rn.cne rfl (X_ild rfl <| X_i <| X_nil) (by first | omega | (simp (disch := omega) only [um_eq, um_na, um_ni, Int.toNat_natCast]; omega)) (by first | omega | (simp (disch := omega) only [um_eq, um_na, um_ni, Int.toNat_natCast]; omega)) (fun hc => absurd hc (by first | omega | decide | (simp (disch := omega) only [um_eq, um_na, um_ni, Int.toNat_natCast]; omega))) (fun hc => ?_)
      refine Rn.jto rfl (X_ald rfl <| X_gl 8 6 6 hM.ob ⟨rfl, rfl, rfl⟩ rfl <| X_nil) ?_
      refine Rn.rl rfl (X_nil) rfl
theorem shl1_in {s : Int} (h0 : 0 ≤ s) (h4 : s ≤ 4) : 1 ≤ o_shl 1 s ∧ o_shl 1 s ≤ 16 := by
  rcases (show s = 0 ∨ s = 1 ∨ s = 2 ∨ s = 3 ∨ s = 4 by omega) with rfl | rfl | rfl | rfl | rfl <;> decide
theorem op_note {s n : Int} (g : Gl T M K) (is : I32 s) (i_n : I32 n) : Op S 93 183 [vI s, vI n] T M K := by
  have hX := g.x
  have hM := g.m
  have hS := hX.s1
  have hz := g.sz
  have m8 : 0 ≤ M 24 0 ∧ M 24 0 ≤ 8 := g.rg.m8
  have em : M 24 0 = M 77 7 := g.rg.m
  have sh := shl1_in hz.2.1 hz.2.2
  have e45 : M (1 + 4) 1 = M 5 1 := rfl
  have e45' : o_shl 1 (M (1 + 4) 1) = o_shl 1 (M 5 1) := rfl
  have e24' : M (1 + 23) 0 = M 24 0 := rfl
  have b77 : um M 59 0 (M 59 0 + 1) 77 = M 77 := um_fn (by decide)
  have b77' : um M 59 2 (M 59 2 + 1) 77 = M 77 := um_fn (by decide)
  by_cases h1 : 0 ≤ s ∧ s ≤ M 5 1 - 1
  case neg =>
    refine Op.bad1 (v := -2) (k := 0) g (by decide) (by decide) (by decide) ⟨_, rfl, ?_⟩ ⟨_, rfl, ?_⟩
    · refine Rn.cal rfl (X_ald rfl <| X_gr 7 0 hX.ob ⟨rfl, rfl⟩ rfl rfl <| X_gr 6 1 hX.s1.st ⟨rfl, rfl⟩ rfl rfl <| X_ild rfl <| X_nil) (vs := [_, _]) (rest := []) rfl rfl rfl (rcv_v hX.s1.be (by decide)) (c_bhN hX hz.2 is h1) ?_
      refine Rn.ieq rfl (X_nil) (by first | omega | (simp (disch := omega) only [um_eq, um_na, um_ni, Int.toNat_natCast]; omega)) (fun hc => ?_) (fun hc => absurd hc (by first | omega | decide | (simp (disch := omega) only [um_eq, um_na, um_ni, Int.toNat_natCast]; omega)))
      refine Rn.cal rfl (X_ald rfl <| X_i <| X_nil) (vs := [_, _]) (rest := []) rfl rfl rfl (rcv_v hX.ob (by decide)) (c_bad hX) ?_
      refine Rn.ri rfl (X_nil) rfl
    · refine Rn.cal rfl (X_ald rfl <| X_ild rfl <| X_nil) (vs := [_, _]) (rest := []) rfl rfl rfl (rcv_v hM.ob (by decide)) (c_ioN hM (by rw [b77]; exact hz.1) hz.2 is h1) ?_
      refine Rn.ieq rfl (X_nil) (by first | omega | (simp (disch := omega) only [um_eq, um_na, um_ni, Int.toNat_natCast]; omega)) (fun hc => ?_) (fun hc => absurd hc (by first | omega | decide | (simp (disch := omega) only [um_eq, um_na, um_ni, Int.toNat_natCast]; omega)))
      refine Rn.cal rfl (X_ald rfl <| X_nil) (vs := [_]) (rest := []) rfl rfl rfl (rcv_v hM.ob (by decide)) (c_mbad hM) ?_
      refine Rn.ri rfl (X_nil) rfl
  by_cases h2 : 0 ≤ n ∧ n ≤ o_shl 1 (M 5 1) - 1
  case neg =>
    refine Op.bad1 (v := -2) (k := 0) g (by decide) (by decide) (by decide) ⟨_, rfl, ?_⟩ ⟨_, rfl, ?_⟩
    · refine Rn.cal rfl (X_ald rfl <| X_gr 7 0 hX.ob ⟨rfl, rfl⟩ rfl rfl <| X_gr 6 1 hX.s1.st ⟨rfl, rfl⟩ rfl rfl <| X_ild rfl <| X_nil) (vs := [_, _]) (rest := []) rfl rfl rfl (rcv_v hX.s1.be (by decide)) (c_bhY hX hz.2 is h1) ?_
      refine Rn.ieq rfl (X_nil) (by first | omega | (simp (disch := omega) only [um_eq, um_na, um_ni, Int.toNat_natCast]; omega)) (fun hc => absurd hc (by first | omega | decide | (simp (disch := omega) only [um_eq, um_na, um_ni, Int.toNat_natCast]; omega))) (fun hc => ?_)
      refine Rn.cal rfl (X_ild rfl <| X_i <| X_i <| X_ald rfl <| X_gr 7 0 hX.ob ⟨rfl, rfl⟩ rfl rfl <| X_gr 6 1 hX.s1.st ⟨rfl, rfl⟩ rfl rfl <| X_gi 0 1 1 hX.s1.be ⟨rfl, rfl, rfl⟩ (Or.inl rfl) <| X_shl <| X_i <| X_sub <| X_nil) (vs := [_, _, _]) (rest := []) rfl rfl rfl rfl (c_wN (hi := o_shl 1 (M 5 1) - 1) (by omega) (by decide) (by omega) h2) ?_
      refine Rn.ine rfl (X_nil) (by first | omega | (simp (disch := omega) only [um_eq, um_na, um_ni, Int.toNat_natCast]; omega)) (fun hc => absurd hc (by first | omega | decide | (simp (disch := omega) only [um_eq, um_na, um_ni, Int.toNat_natCast]; omega))) (fun hc => ?_)
      refine Rn.cal rfl (X_ald rfl <| X_i <| X_nil) (vs := [_, _]) (rest := []) rfl rfl rfl (rcv_v hX.ob (by decide)) (c_bad hX) ?_
      refine Rn.ri rfl (X_nil) rfl
    · have cc : Cl S 116 [vL n, vL 0, vL (o_shl 1 (um M 59 0 (M 59 0 + 1) 77 6) - 1)] (T, um M 59 0 (M 59 0 + 1)) (some (vI 0), (T, um M 59 0 (M 59 0 + 1))) := by
        rw [b77, hz.1]
        exact c_iN (by omega) (by decide) (by omega) h2
      have ii : I32 (o_shl 1 (um M 59 0 (M 59 0 + 1) 77 6) - 1) := by rw [b77, hz.1]; omega
      refine Rn.cal rfl (X_ald rfl <| X_ild rfl <| X_nil) (vs := [_, _]) (rest := []) rfl rfl rfl (rcv_v hM.ob (by decide)) (c_ioY hM (by rw [b77]; exact hz.1) hz.2 is h1) ?_
      refine Rn.ieq rfl (X_nil) (by first | omega | (simp (disch := omega) only [um_eq, um_na, um_ni, Int.toNat_natCast]; omega)) (fun hc => absurd hc (by first | omega | decide | (simp (disch := omega) only [um_eq, um_na, um_ni, Int.toNat_natCast]; omega))) (fun hc => ?_)
      refine Rn.cal rfl (X_ild rfl <| X_i2l (by first | omega | (simp (disch := omega) only [um_eq, um_na, um_ni, Int.toNat_natCast]; omega)) <| X_l <| X_i <| X_ald rfl <| X_gr 8 0 hM.ob ⟨rfl, rfl⟩ rfl rfl <| X_i <| X_ia hM.w (by first | omega | (simp (disch := omega) only [um_eq, um_na, um_ni, Int.toNat_natCast]; omega)) (by first | omega | (simp (disch := omega) only [um_eq, um_na, um_ni, Int.toNat_natCast]; omega)) rfl <| X_shl <| X_i <| X_sub <| X_i2l ii <| X_nil) (vs := [_, _, _]) (rest := []) rfl rfl rfl rfl (cc) ?_
      refine Rn.ine rfl (X_nil) (by first | omega | (simp (disch := omega) only [um_eq, um_na, um_ni, Int.toNat_natCast]; omega)) (fun hc => absurd hc (by first | omega | decide | (simp (disch := omega) only [um_eq, um_na, um_ni, Int.toNat_natCast]; omega))) (fun hc => ?_)
      refine Rn.cal rfl (X_ald rfl <| X_nil) (vs := [_]) (rest := []) rfl rfl rfl (rcv_v hM.ob (by decide)) (c_mbad hM) ?_
      refine Rn.ri rfl (X_nil) rfl
  by_cases h3 : M 24 0 < 8
  case neg =>
    refine Op.bad1 (v := -4) (k := 2) g (by decide) (by decide) (by decide) ⟨_, rfl, ?_⟩ ⟨_, rfl, ?_⟩
    · refine Rn.cal rfl (X_ald rfl <| X_gr 7 0 hX.ob ⟨rfl, rfl⟩ rfl rfl <| X_gr 6 1 hX.s1.st ⟨rfl, rfl⟩ rfl rfl <| X_ild rfl <| X_nil) (vs := [_, _]) (rest := []) rfl rfl rfl (rcv_v hX.s1.be (by decide)) (c_bhY hX hz.2 is h1) ?_
      refine Rn.ieq rfl (X_nil) (by first | omega | (simp (disch := omega) only [um_eq, um_na, um_ni, Int.toNat_natCast]; omega)) (fun hc => absurd hc (by first | omega | decide | (simp (disch := omega) only [um_eq, um_na, um_ni, Int.toNat_natCast]; omega))) (fun hc => ?_)
      refine Rn.cal rfl (X_ild rfl <| X_i <| X_i <| X_ald rfl <| X_gr 7 0 hX.ob ⟨rfl, rfl⟩ rfl rfl <| X_gr 6 1 hX.s1.st ⟨rfl, rfl⟩ rfl rfl <| X_gi 0 1 1 hX.s1.be ⟨rfl, rfl, rfl⟩ (Or.inl rfl) <| X_shl <| X_i <| X_sub <| X_nil) (vs := [_, _, _]) (rest := []) rfl rfl rfl rfl (c_wY (hi := o_shl 1 (M 5 1) - 1) (by omega) (by decide) (by omega) h2) ?_
      refine Rn.ine rfl (X_nil) (by first | omega | (simp (disch := omega) only [um_eq, um_na, um_ni, Int.toNat_natCast]; omega)) (fun hc => ?_) (fun hc => absurd hc (by first | omega | decide | (simp (disch := omega) only [um_eq, um_na, um_ni, Int.toNat_natCast]; omega)))
      refine Rn.clt rfl (X_ald rfl <| X_gr 7 0 hX.ob ⟨rfl, rfl⟩ rfl rfl <| X_gr 6 2 hX.s1.st ⟨rfl, rfl⟩ rfl rfl <| X_gi 3 0 0 hX.s1.no ⟨rfl, rfl, rfl⟩ (Or.inl rfl) <| X_i <| X_nil) (by first | omega | (simp (disch := omega) only [um_eq, um_na, um_ni, Int.toNat_natCast]; omega)) (by first | omega | (simp (disch := omega) only [um_eq, um_na, um_ni, Int.toNat_natCast]; omega)) (fun hc => absurd hc (by first | omega | decide | (simp (disch := omega) only [um_eq, um_na, um_ni, Int.toNat_natCast]; omega))) (fun hc => ?_)
      refine Rn.cal rfl (X_ald rfl <| X_nil) (vs := [_]) (rest := []) rfl rfl rfl (rcv_v hX.ob (by decide)) (c_full hX) ?_
      refine Rn.ri rfl (X_nil) rfl
    · have cc : Cl S 116 [vL n, vL 0, vL (o_shl 1 (um M 59 2 (M 59 2 + 1) 77 6) - 1)] (T, um M 59 2 (M 59 2 + 1)) (some (vI 1), (T, um M 59 2 (M 59 2 + 1))) := by
        rw [b77', hz.1]
        exact c_iY (by omega) (by decide) (by omega) h2
      have ii : I32 (o_shl 1 (um M 59 2 (M 59 2 + 1) 77 6) - 1) := by rw [b77', hz.1]; omega
      have e7 : um M 59 2 (M 59 2 + 1) 77 7 = 8 := by rw [b77']; omega
      refine Rn.cal rfl (X_ald rfl <| X_ild rfl <| X_nil) (vs := [_, _]) (rest := []) rfl rfl rfl (rcv_v hM.ob (by decide)) (c_ioY hM (by rw [b77']; exact hz.1) hz.2 is h1) ?_
      refine Rn.ieq rfl (X_nil) (by first | omega | (simp (disch := omega) only [um_eq, um_na, um_ni, Int.toNat_natCast]; omega)) (fun hc => absurd hc (by first | omega | decide | (simp (disch := omega) only [um_eq, um_na, um_ni, Int.toNat_natCast]; omega))) (fun hc => ?_)
      refine Rn.cal rfl (X_ild rfl <| X_i2l (by first | omega | (simp (disch := omega) only [um_eq, um_na, um_ni, Int.toNat_natCast]; omega)) <| X_l <| X_i <| X_ald rfl <| X_gr 8 0 hM.ob ⟨rfl, rfl⟩ rfl rfl <| X_i <| X_ia hM.w (by first | omega | (simp (disch := omega) only [um_eq, um_na, um_ni, Int.toNat_natCast]; omega)) (by first | omega | (simp (disch := omega) only [um_eq, um_na, um_ni, Int.toNat_natCast]; omega)) rfl <| X_shl <| X_i <| X_sub <| X_i2l ii <| X_nil) (vs := [_, _, _]) (rest := []) rfl rfl rfl rfl (cc) ?_
      refine Rn.ine rfl (X_nil) (by first | omega | (simp (disch := omega) only [um_eq, um_na, um_ni, Int.toNat_natCast]; omega)) (fun hc => ?_) (fun hc => absurd hc (by first | omega | decide | (simp (disch := omega) only [um_eq, um_na, um_ni, Int.toNat_natCast]; omega)))
      refine Rn.cne rfl (X_ald rfl <| X_gr 8 0 hM.ob ⟨rfl, rfl⟩ rfl rfl <| X_i <| X_ia hM.w (by first | omega | (simp (disch := omega) only [um_eq, um_na, um_ni, Int.toNat_natCast]; omega)) (by first | omega | (simp (disch := omega) only [um_eq, um_na, um_ni, Int.toNat_natCast]; omega)) rfl <| X_i <| X_nil) (by first | omega | (simp (disch := omega) only [um_eq, um_na, um_ni, Int.toNat_natCast]; omega)) (by first | omega | (simp (disch := omega) only [um_eq, um_na, um_ni, Int.toNat_natCast]; omega)) (fun hc => absurd hc (by first | omega | decide | (simp (disch := omega) only [um_eq, um_na, um_ni, Int.toNat_natCast]; omega))) (fun hc => ?_)
      refine Rn.cal rfl (X_ald rfl <| X_i <| X_nil) (vs := [_, _]) (rest := []) rfl rfl rfl (rcv_v hM.ob (by decide)) (c_met hM (Or.inr (Or.inr rfl))) ?_
      refine Rn.ri rfl (X_nil) rfl
  have cw : Cl S 32 [vR (1 + 23), vI s, vI n] (T, M) (some (vI (M 24 0)), (T, um (um (um M 25 (M 24 0) s) 26 (M 24 0) n) 24 0 (M 24 0 + 1))) := by
    have e24 : M (1 + 23) 0 = M 24 0 := rfl
    obtain ⟨z, N, hN, ez, eN⟩ : ∃ z N, Rn S 32 0 ([], [some (vR (1 + 23)), some (vI s), some (vI n)], T, M) (some (vI z), (T, N)) ∧ z = M 24 0 ∧ N = um (um (um M 25 (M 24 0) s) 26 (M 24 0) n) 24 0 (M 24 0 + 1) := by
      refine ⟨_, _, (Rn.ri rfl (X_ald rfl <| X_gr 3 1 hS.no ⟨rfl, rfl⟩ rfl rfl <| X_ald rfl <| X_gi 3 0 0 hS.no ⟨rfl, rfl, rfl⟩ (Or.inl rfl) <| X_ild rfl <| X_is hS.wr (by first | omega | (simp (disch := omega) only [um_eq, um_na, um_ni, Int.toNat_natCast]; omega)) (by first | omega | (simp (disch := omega) only [um_eq, um_na, um_ni, Int.toNat_natCast]; omega)) rfl <| X_ald rfl <| X_gr 3 2 hS.no ⟨rfl, rfl⟩ rfl rfl <| X_ald rfl <| X_gi 3 0 0 hS.no ⟨rfl, rfl, rfl⟩ (Or.inl rfl) <| X_ild rfl <| X_is hS.na (by first | omega | (simp (disch := omega) only [um_eq, um_na, um_ni, Int.toNat_natCast]; omega)) (by first | omega | (simp (disch := omega) only [um_eq, um_na, um_ni, Int.toNat_natCast]; omega)) rfl <| X_ald rfl <| X_dupr <| X_gi 3 0 0 hS.no ⟨rfl, rfl, rfl⟩ (Or.inl rfl) <| X_i <| X_add <| X_pi 3 0 0 hS.no ⟨rfl, rfl, rfl⟩ (Or.inl rfl) <| X_ald rfl <| X_gi 3 0 0 hS.no ⟨rfl, rfl, rfl⟩ (Or.inl rfl) <| X_i <| X_sub <| X_nil) rfl), ?_, ?_⟩
      · simp (disch := omega) only [um_eq, um_na, ne_eq]
        omega
      · simp (disch := omega) only [um_na, ne_eq]
    rw [ez, eN] at hN
    exact ⟨_, rfl, hN⟩
  generalize hM1 : um (um (um M 25 (M 24 0) s) 26 (M 24 0) n) 24 0 (M 24 0 + 1) = M1 at cw
  have f1 : ∀ a, a ≠ 24 → a ≠ 25 → a ≠ 26 → M1 a = M a := fun a a1 a2 a3 => by rw [← hM1, um_fn a1, um_fn a3, um_fn a2]
  have q24 : M1 24 0 = M 24 0 + 1 := by rw [← hM1, um_eq]
  have q25 : ∀ i, M1 25 i = if i = M 24 0 then s else M 25 i := fun i => by
    rw [← hM1, um_na (by decide), um_na (by decide)]
    split
    · rename_i e; rw [e, um_eq]
    · rename_i e; rw [um_ni e]
  have q26 : ∀ i, M1 26 i = if i = M 24 0 then n else M 26 i := fun i => by
    rw [← hM1, um_na (by decide)]
    split
    · rename_i e; rw [e, um_eq]
    · rename_i e; rw [um_ni e, um_na (by decide)]
  have w77 : M1 77 = M 77 := f1 _ (by decide) (by decide) (by decide)
  have w7 : M1 77 7 = M 24 0 := by rw [w77]; exact em.symm
  have w6 : M1 77 6 = M 5 1 := by rw [w77]; exact hz.1
  refine ⟨M 24 0, T, M1, um (um (um M1 77 (91 + M 24 0) s) 77 (99 + M 24 0) n) 77 7 (M 24 0 + 1), by omega, ⟨_, rfl, ?_⟩, ⟨_, rfl, ?_⟩, ?_⟩
  · refine Rn.cal rfl (X_ald rfl <| X_gr 7 0 hX.ob ⟨rfl, rfl⟩ rfl rfl <| X_gr 6 1 hX.s1.st ⟨rfl, rfl⟩ rfl rfl <| X_ild rfl <| X_nil) (vs := [_, _]) (rest := []) rfl rfl rfl (rcv_v hX.s1.be (by decide)) (c_bhY hX hz.2 is h1) ?_
    refine Rn.ieq rfl (X_nil) (by first | omega | (simp (disch := omega) only [um_eq, um_na, um_ni, Int.toNat_natCast]; omega)) (fun hc => absurd hc (by first | omega | decide | (simp (disch := omega) only [um_eq, um_na, um_ni, Int.toNat_natCast]; omega))) (fun hc => ?_)
    refine Rn.cal rfl (X_ild rfl <| X_i <| X_i <| X_ald rfl <| X_gr 7 0 hX.ob ⟨rfl, rfl⟩ rfl rfl <| X_gr 6 1 hX.s1.st ⟨rfl, rfl⟩ rfl rfl <| X_gi 0 1 1 hX.s1.be ⟨rfl, rfl, rfl⟩ (Or.inl rfl) <| X_shl <| X_i <| X_sub <| X_nil) (vs := [_, _, _]) (rest := []) rfl rfl rfl rfl (c_wY (hi := o_shl 1 (M 5 1) - 1) (by omega) (by decide) (by omega) h2) ?_
    refine Rn.ine rfl (X_nil) (by first | omega | (simp (disch := omega) only [um_eq, um_na, um_ni, Int.toNat_natCast]; omega)) (fun hc => ?_) (fun hc => absurd hc (by first | omega | decide | (simp (disch := omega) only [um_eq, um_na, um_ni, Int.toNat_natCast]; omega)))
    refine Rn.clt rfl (X_ald rfl <| X_gr 7 0 hX.ob ⟨rfl, rfl⟩ rfl rfl <| X_gr 6 2 hX.s1.st ⟨rfl, rfl⟩ rfl rfl <| X_gi 3 0 0 hX.s1.no ⟨rfl, rfl, rfl⟩ (Or.inl rfl) <| X_i <| X_nil) (by first | omega | (simp (disch := omega) only [um_eq, um_na, um_ni, Int.toNat_natCast]; omega)) (by first | omega | (simp (disch := omega) only [um_eq, um_na, um_ni, Int.toNat_natCast]; omega)) (fun hc => ?_) (fun hc => absurd hc (by first | omega | decide | (simp (disch := omega) only [um_eq, um_na, um_ni, Int.toNat_natCast]; omega)))
    refine Rn.cal rfl (X_ald rfl <| X_gr 7 0 hX.ob ⟨rfl, rfl⟩ rfl rfl <| X_gr 6 2 hX.s1.st ⟨rfl, rfl⟩ rfl rfl <| X_ild rfl <| X_ild rfl <| X_nil) (vs := [_, _, _]) (rest := []) rfl rfl rfl (rcv_v hX.s1.no (by decide)) (cw) ?_
    refine Rn.ri rfl (X_nil) rfl
  · have cc : Cl S 116 [vL n, vL 0, vL (o_shl 1 (M1 77 6) - 1)] (T, M1) (some (vI 1), (T, M1)) := by
      rw [w6]
      exact c_iY (by omega) (by decide) (by omega) h2
    have ii : I32 (o_shl 1 (M1 77 6) - 1) := by rw [w6]; omega
    refine Rn.cal rfl (X_ald rfl <| X_ild rfl <| X_nil) (vs := [_, _]) (rest := []) rfl rfl rfl (rcv_v hM.ob (by decide)) (c_ioY hM w6 hz.2 is h1) ?_
    refine Rn.ieq rfl (X_nil) (by first | omega | (simp (disch := omega) only [um_eq, um_na, um_ni, Int.toNat_natCast]; omega)) (fun hc => absurd hc (by first | omega | decide | (simp (disch := omega) only [um_eq, um_na, um_ni, Int.toNat_natCast]; omega))) (fun hc => ?_)
    refine Rn.cal rfl (X_ild rfl <| X_i2l (by first | omega | (simp (disch := omega) only [um_eq, um_na, um_ni, Int.toNat_natCast]; omega)) <| X_l <| X_i <| X_ald rfl <| X_gr 8 0 hM.ob ⟨rfl, rfl⟩ rfl rfl <| X_i <| X_ia hM.w (by first | omega | (simp (disch := omega) only [um_eq, um_na, um_ni, Int.toNat_natCast]; omega)) (by first | omega | (simp (disch := omega) only [um_eq, um_na, um_ni, Int.toNat_natCast]; omega)) rfl <| X_shl <| X_i <| X_sub <| X_i2l ii <| X_nil) (vs := [_, _, _]) (rest := []) rfl rfl rfl rfl (cc) ?_
    refine Rn.ine rfl (X_nil) (by first | omega | (simp (disch := omega) only [um_eq, um_na, um_ni, Int.toNat_natCast]; omega)) (fun hc => ?_) (fun hc => absurd hc (by first | omega | decide | (simp (disch := omega) only [um_eq, um_na, um_ni, Int.toNat_natCast]; omega)))
    refine Rn.cne rfl (X_ald rfl <| X_gr 8 0 hM.ob ⟨rfl, rfl⟩ rfl rfl <| X_i <| X_ia hM.w (by first | omega | (simp (disch := omega) only [um_eq, um_na, um_ni, Int.toNat_natCast]; omega)) (by first | omega | (simp (disch := omega) only [um_eq, um_na, um_ni, Int.toNat_natCast]; omega)) rfl <| X_i <| X_nil) (by first | omega | (simp (disch := omega) only [um_eq, um_na, um_ni, Int.toNat_natCast]; omega)) (by first | omega | (simp (disch := omega) only [um_eq, um_na, um_ni, Int.toNat_natCast]; omega)) (fun hc => ?_) (fun hc => absurd hc (by first | omega | decide | (simp (disch := omega) only [um_eq, um_na, um_ni, Int.toNat_natCast]; omega)))
    obtain ⟨z, N, hN, ez, eN⟩ : ∃ z N, Rn S 183 53 ([], [some (vR 76), some (vI s), some (vI n)], T, M1) (some (vI z), (T, N)) ∧ z = M 24 0 ∧ N = um (um (um M1 77 (91 + M 24 0) s) 77 (99 + M 24 0) n) 77 7 (M 24 0 + 1) := by
      refine ⟨_, _, (Rn.ri rfl (X_ald rfl <| X_gr 8 0 hM.ob ⟨rfl, rfl⟩ rfl rfl <| X_i <| X_ald rfl <| X_gr 8 0 hM.ob ⟨rfl, rfl⟩ rfl rfl <| X_i <| X_ia hM.w (by first | omega | (simp (disch := omega) only [um_eq, um_na, um_ni, Int.toNat_natCast]; omega)) (by first | omega | (simp (disch := omega) only [um_eq, um_na, um_ni, Int.toNat_natCast]; omega)) rfl <| X_add <| X_ild rfl <| X_is hM.w (by first | omega | (simp (disch := omega) only [um_eq, um_na, um_ni, Int.toNat_natCast]; omega)) (by first | omega | (simp (disch := omega) only [um_eq, um_na, um_ni, Int.toNat_natCast]; omega)) rfl <| X_ald rfl <| X_gr 8 0 hM.ob ⟨rfl, rfl⟩ rfl rfl <| X_i <| X_ald rfl <| X_gr 8 0 hM.ob ⟨rfl, rfl⟩ rfl rfl <| X_i <| X_ia hM.w (by first | omega | (simp (disch := omega) only [um_eq, um_na, um_ni, Int.toNat_natCast]; omega)) (by first | omega | (simp (disch := omega) only [um_eq, um_na, um_ni, Int.toNat_natCast]; omega)) rfl <| X_add <| X_ild rfl <| X_is hM.w (by first | omega | (simp (disch := omega) only [um_eq, um_na, um_ni, Int.toNat_natCast]; omega)) (by first | omega | (simp (disch := omega) only [um_eq, um_na, um_ni, Int.toNat_natCast]; omega)) rfl <| X_ald rfl <| X_gr 8 0 hM.ob ⟨rfl, rfl⟩ rfl rfl <| X_i <| X_du2 <| X_ia hM.w (by first | omega | (simp (disch := omega) only [um_eq, um_na, um_ni, Int.toNat_natCast]; omega)) (by first | omega | (simp (disch := omega) only [um_eq, um_na, um_ni, Int.toNat_natCast]; omega)) rfl <| X_i <| X_add <| X_is hM.w (by first | omega | (simp (disch := omega) only [um_eq, um_na, um_ni, Int.toNat_natCast]; omega)) (by first | omega | (simp (disch := omega) only [um_eq, um_na, um_ni, Int.toNat_natCast]; omega)) rfl <| X_ald rfl <| X_gr 8 0 hM.ob ⟨rfl, rfl⟩ rfl rfl <| X_i <| X_ia hM.w (by first | omega | (simp (disch := omega) only [um_eq, um_na, um_ni, Int.toNat_natCast]; omega)) (by first | omega | (simp (disch := omega) only [um_eq, um_na, um_ni, Int.toNat_natCast]; omega)) rfl <| X_i <| X_sub <| X_nil) rfl), ?_, ?_⟩
      · simp (disch := omega) only [um_eq, um_ni, ne_eq]
        omega
      · simp (disch := omega) only [um_ni, ne_eq, w7]
    rw [ez, eN] at hN
    exact hN
  · have e : ∀ a, a ≠ 24 → a ≠ 25 → a ≠ 26 → a ≠ 77 → um (um (um M1 77 (91 + M 24 0) s) 77 (99 + M 24 0) n) 77 7 (M 24 0 + 1) a = M a := fun a a1 a2 a3 a4 => by rw [um_fn a4, um_fn a4, um_fn a4, f1 a a1 a2 a3]
    have e76 := e 76 (by decide) (by decide) (by decide) (by decide)
    have ew : ∀ k, k ≠ 7 → k ≠ 91 + M 24 0 → k ≠ 99 + M 24 0 → um (um (um M1 77 (91 + M 24 0) s) 77 (99 + M 24 0) n) 77 7 (M 24 0 + 1) 77 k = M 77 k := fun k k1 k2 k3 => by rw [um_ni k1, um_ni k3, um_ni k2, w77]
    refine g.upd (Kept.of (fun a ha => e a (by omega) (by omega) (by omega) (by omega)) (by rw [e76]) (by rw [e76]) (by rw [e76]) (fun k k0 k1 => ew k (by omega) (by omega) (by omega))) ?_ (g.re.cg (e _ (by decide) (by decide) (by decide) (by decide)) (e _ (by decide) (by decide) (by decide) (by decide)) (by omega)) (by omega)
    refine g.rg.notes (by omega) (fun a a1 a2 => e a (by omega) (by omega) (by omega) (by omega)) (fun k hk => ew _ (by omega) (by omega) (by omega)) ?_ ?_ (fun i i0 i1 => ?_)
    · show um (um (um M1 77 (91 + M 24 0) s) 77 (99 + M 24 0) n) 77 7 (M 24 0 + 1) 24 0 = um (um (um M1 77 (91 + M 24 0) s) 77 (99 + M 24 0) n) 77 7 (M 24 0 + 1) 77 7
      rw [um_eq, um_na (by decide), um_na (by decide), um_na (by decide), q24]
    · show 0 ≤ um (um (um M1 77 (91 + M 24 0) s) 77 (99 + M 24 0) n) 77 7 (M 24 0 + 1) 24 0 ∧ um (um (um M1 77 (91 + M 24 0) s) 77 (99 + M 24 0) n) 77 7 (M 24 0 + 1) 24 0 ≤ 8
      rw [um_na (by decide), um_na (by decide), um_na (by decide), q24]
      omega
    · have i1 : i < um (um (um M1 77 (91 + M 24 0) s) 77 (99 + M 24 0) n) 77 7 (M 24 0 + 1) 24 0 := i1
      rw [um_na (by decide), um_na (by decide), um_na (by decide), q24] at i1
      show (um (um (um M1 77 (91 + M 24 0) s) 77 (99 + M 24 0) n) 77 7 (M 24 0 + 1) 25 i = um (um (um M1 77 (91 + M 24 0) s) 77 (99 + M 24 0) n) 77 7 (M 24 0 + 1) 77 (0 + 91 + i) ∧ um (um (um M1 77 (91 + M 24 0) s) 77 (99 + M 24 0) n) 77 7 (M 24 0 + 1) 26 i = um (um (um M1 77 (91 + M 24 0) s) 77 (99 + M 24 0) n) 77 7 (M 24 0 + 1) 77 (0 + 99 + i)) ∧ (0 ≤ um (um (um M1 77 (91 + M 24 0) s) 77 (99 + M 24 0) n) 77 7 (M 24 0 + 1) 25 i ∧ um (um (um M1 77 (91 + M 24 0) s) 77 (99 + M 24 0) n) 77 7 (M 24 0 + 1) 25 i ≤ 3) ∧ (0 ≤ um (um (um M1 77 (91 + M 24 0) s) 77 (99 + M 24 0) n) 77 7 (M 24 0 + 1) 26 i ∧ um (um (um M1 77 (91 + M 24 0) s) 77 (99 + M 24 0) n) 77 7 (M 24 0 + 1) 26 i ≤ 15)
      have r25 : um (um (um M1 77 (91 + M 24 0) s) 77 (99 + M 24 0) n) 77 7 (M 24 0 + 1) 25 i = if i = M 24 0 then s else M 25 i := by rw [um_na (by decide), um_na (by decide), um_na (by decide), q25]
      have r26 : um (um (um M1 77 (91 + M 24 0) s) 77 (99 + M 24 0) n) 77 7 (M 24 0 + 1) 26 i = if i = M 24 0 then n else M 26 i := by rw [um_na (by decide), um_na (by decide), um_na (by decide), q26]
      rw [r25, r26]
      by_cases ei : i = M 24 0
      · rw [if_pos ei, if_pos ei, ei, show 0 + 91 + M 24 0 = 91 + M 24 0 by omega, show 0 + 99 + M 24 0 = 99 + M 24 0 by omega]
        rw [um_ni (by omega), um_ni (by omega), um_eq, um_ni (by omega), um_eq]
        omega
      · rw [if_neg ei, if_neg ei, ew _ (by omega) (by omega) (by omega), ew _ (by omega) (by omega) (by omega)]
        exact g.rg.no i i0 (show i < M 24 0 by omega)
end Ops8
