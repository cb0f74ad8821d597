/-! FROM -/
section From
variable {S : List Int} {T : List Sh} {M N : Nat → Int → Int} {K : Nat} {h : Hp}
theorem op_from {k : Int} (g : Gl T M K) (ik : I32 k) : Op S 99 190 [vI k] T M K := by
  have hX := g.x
  have hM := g.m
  have hS := hX.s1
  by_cases h1 : 0 ≤ k ∧ k ≤ 1
  case neg =>
    refine Op.bad (v := -2) (k := 0) g (by decide) (by decide) (by decide) ⟨_, rfl, ?_⟩ (fun M1 h80 => ⟨_, rfl, ?_⟩) trivial
    · refine Rn.cal rfl (X_ild rfl <| X_i <| X_i <| X_nil) (vs := [_, _, _]) (rest := []) rfl rfl rfl rfl (c_wN (by omega) (by decide) (by decide) h1) ?_
      refine Rn.ine rfl (X_nil) (by first | omega | (simp (disch := omega) only [um_eq, um_na, um_ni, Int.toNat_natCast]; omega)) (fun hc => absurd hc (by first | omega | decide | (simp (disch := omega) only [um_eq, um_na, um_ni, Int.toNat_natCast]; omega))) (fun hc => ?_)
      refine Rn.cal rfl (X_ald rfl <| X_i <| X_nil) (vs := [_, _]) (rest := []) rfl rfl rfl (rcv_v hX.ob (by decide)) (c_bad hX) ?_
      refine Rn.ri rfl (X_nil) rfl
    · refine Rn.cal rfl (X_ild rfl <| X_i2l (by first | omega | (simp (disch := omega) only [um_eq, um_na, um_ni, Int.toNat_natCast]; omega)) <| X_l <| X_l <| X_nil) (vs := [_, _, _]) (rest := []) rfl rfl rfl rfl (c_iN (by omega) (by decide) (by decide) h1) ?_
      refine Rn.ine rfl (X_nil) (by first | omega | (simp (disch := omega) only [um_eq, um_na, um_ni, Int.toNat_natCast]; omega)) (fun hc => absurd hc (by first | omega | decide | (simp (disch := omega) only [um_eq, um_na, um_ni, Int.toNat_natCast]; omega))) (fun hc => ?_)
      refine Rn.cal rfl (X_ald rfl <| X_nil) (vs := [_]) (rest := []) rfl rfl rfl (rcv_v hM.ob (by decide)) (c_mbad hM) ?_
      refine Rn.ri rfl (X_nil) rfl
  obtain ⟨i, rfl⟩ : ∃ i : Nat, k = (i : Int) := ⟨k.toNat, by omega⟩
  obtain ⟨ri, hI, i1, i2, i3, i4⟩ := g.im
  cases hr : ri i with
  | none =>
    have k0 := i2 i (by omega) hr
    have hIn : ri ((i : Int)).toNat = none := by rw [Int.toNat_natCast]; exact hr
    have e78 : um M 59 1 (M 59 1 + 1) 78 (i : Int) = 0 := by rw [um_na (by decide)]; exact k0
    refine Op.bad1 (v := -3) (k := 1) g (by decide) (by decide) (by decide) ⟨_, rfl, ?_⟩ ⟨_, rfl, ?_⟩
    · refine Rn.cal rfl (X_ild rfl <| X_i <| X_i <| X_nil) (vs := [_, _, _]) (rest := []) rfl rfl rfl rfl (c_wY (by omega) (by decide) (by decide) h1) ?_
      refine Rn.ine rfl (X_nil) (by first | omega | (simp (disch := omega) only [um_eq, um_na, um_ni, Int.toNat_natCast]; omega)) (fun hc => ?_) (fun hc => absurd hc (by first | omega | decide | (simp (disch := omega) only [um_eq, um_na, um_ni, Int.toNat_natCast]; omega)))
      refine Rn.nun rfl (X_ald rfl <| X_gr 7 2 hX.ob ⟨rfl, rfl⟩ rfl rfl <| X_ild rfl <| X_an hI (by decide) (by omega) (by omega) rfl hIn <| X_nil) ?_
      refine Rn.cal rfl (X_ald rfl <| X_nil) (vs := [_]) (rest := []) rfl rfl rfl (rcv_v hX.ob (by decide)) (c_no hX) ?_
      refine Rn.ri rfl (X_nil) rfl
    · refine Rn.cal rfl (X_ild rfl <| X_i2l (by first | omega | (simp (disch := omega) only [um_eq, um_na, um_ni, Int.toNat_natCast]; omega)) <| X_l <| X_l <| X_nil) (vs := [_, _, _]) (rest := []) rfl rfl rfl rfl (c_iY (by omega) (by decide) (by decide) h1) ?_
      refine Rn.ine rfl (X_nil) (by first | omega | (simp (disch := omega) only [um_eq, um_na, um_ni, Int.toNat_natCast]; omega)) (fun hc => ?_) (fun hc => absurd hc (by first | omega | decide | (simp (disch := omega) only [um_eq, um_na, um_ni, Int.toNat_natCast]; omega)))
      refine Rn.ine rfl (X_ald rfl <| X_gr 8 1 hM.ob ⟨rfl, rfl⟩ rfl rfl <| X_ild rfl <| X_ba hM.ke (by decide) (by first | omega | (simp (disch := omega) only [um_eq, um_na, um_ni, Int.toNat_natCast]; omega)) (by first | omega | (simp (disch := omega) only [um_eq, um_na, um_ni, Int.toNat_natCast]; omega)) rfl <| X_nil) (by first | omega | (simp (disch := omega) only [um_eq, um_na, um_ni, Int.toNat_natCast]; omega)) (fun hc => absurd hc (by first | omega | decide | (simp (disch := omega) only [um_eq, um_na, um_ni, Int.toNat_natCast]; omega))) (fun hc => ?_)
      refine Rn.cal rfl (X_ald rfl <| X_i <| X_nil) (vs := [_, _]) (rest := []) rfl rfl rfl (rcv_v hM.ob (by decide)) (c_met hM (Or.inr (Or.inl rfl))) ?_
      refine Rn.ri rfl (X_nil) rfl
  | some b =>
    obtain ⟨j1, hIm, j3, j4⟩ := i1 i b (by omega) hr
    have hIr : ri ((i : Int)).toNat = some b := by rw [Int.toNat_natCast]; exact hr
    obtain ⟨M1, c1, hc⟩ := c_scopy (S := S) (M := M) (b := 1) (o := b) hS hIm (by omega)
    have fr := hc.2.2.2.2.2.2.2
    have m77 : M1 77 = M 77 := fr 77 (by omega)
    have m78 : M1 78 = M 78 := fr 78 (by omega)
    obtain ⟨M2, c2, w1, w2, w3⟩ := c_mcopy (S := S) (M := M1) (x := 187 * (1 + (i : Int))) (y := 0) hM (by omega) (by omega) (by omega) (by omega) (by omega)
    have e78 : M1 78 (i : Int) = 1 := by rw [m78]; exact j3
    have e : ∀ a, a < 1 ∨ 28 ≤ a → a ≠ 77 → M2 a = M a := fun a a1 a2 => by rw [w3 a a2]; exact fr a a1
    refine ⟨1, T, M1, M2, by decide, ⟨_, rfl, ?_⟩, ⟨_, rfl, ?_⟩, ?_⟩
    · refine Rn.cal rfl (X_ild rfl <| X_i <| X_i <| X_nil) (vs := [_, _, _]) (rest := []) rfl rfl rfl rfl (c_wY (by omega) (by decide) (by decide) h1) ?_
      refine Rn.ine rfl (X_nil) (by first | omega | (simp (disch := omega) only [um_eq, um_na, um_ni, Int.toNat_natCast]; omega)) (fun hc => ?_) (fun hc => absurd hc (by first | omega | decide | (simp (disch := omega) only [um_eq, um_na, um_ni, Int.toNat_natCast]; omega)))
      refine Rn.nul rfl (X_ald rfl <| X_gr 7 2 hX.ob ⟨rfl, rfl⟩ rfl rfl <| X_ild rfl <| X_aa hI (by decide) (by first | omega | (simp (disch := omega) only [um_eq, um_na, um_ni, Int.toNat_natCast]; omega)) (by first | omega | (simp (disch := omega) only [um_eq, um_na, um_ni, Int.toNat_natCast]; omega)) rfl hIr <| X_nil) ?_
      refine Rn.cal rfl (X_ald rfl <| X_gr 7 0 hX.ob ⟨rfl, rfl⟩ rfl rfl <| X_ald rfl <| X_gr 7 2 hX.ob ⟨rfl, rfl⟩ rfl rfl <| X_ild rfl <| X_aa hI (by decide) (by first | omega | (simp (disch := omega) only [um_eq, um_na, um_ni, Int.toNat_natCast]; omega)) (by first | omega | (simp (disch := omega) only [um_eq, um_na, um_ni, Int.toNat_natCast]; omega)) rfl hIr <| X_nil) (vs := [_, _]) (rest := []) rfl rfl rfl (rcv_v hX.s1.st (by decide)) (c1) ?_
      refine Rn.ri rfl (X_i <| X_nil) rfl
    · refine Rn.cal rfl (X_ild rfl <| X_i2l (by first | omega | (simp (disch := omega) only [um_eq, um_na, um_ni, Int.toNat_natCast]; omega)) <| X_l <| X_l <| X_nil) (vs := [_, _, _]) (rest := []) rfl rfl rfl rfl (c_iY (by omega) (by decide) (by decide) h1) ?_
      refine Rn.ine rfl (X_nil) (by first | omega | (simp (disch := omega) only [um_eq, um_na, um_ni, Int.toNat_natCast]; omega)) (fun hc => ?_) (fun hc => absurd hc (by first | omega | decide | (simp (disch := omega) only [um_eq, um_na, um_ni, Int.toNat_natCast]; omega)))
      refine Rn.ine rfl (X_ald rfl <| X_gr 8 1 hM.ob ⟨rfl, rfl⟩ rfl rfl <| X_ild rfl <| X_ba hM.ke (by decide) (by first | omega | (simp (disch := omega) only [um_eq, um_na, um_ni, Int.toNat_natCast]; omega)) (by first | omega | (simp (disch := omega) only [um_eq, um_na, um_ni, Int.toNat_natCast]; omega)) rfl <| X_nil) (by first | omega | (simp (disch := omega) only [um_eq, um_na, um_ni, Int.toNat_natCast]; omega)) (fun hc => ?_) (fun hc => absurd hc (by first | omega | decide | (simp (disch := omega) only [um_eq, um_na, um_ni, Int.toNat_natCast]; omega)))
      refine Rn.cal rfl (X_ald rfl <| X_i <| X_i <| X_ild rfl <| X_add <| X_mul <| X_i <| X_nil) (vs := [_, _, _]) (rest := []) rfl rfl rfl (rcv_v hM.ob (by decide)) (c2) ?_
      refine Rn.ri rfl (X_i <| X_nil) rfl
    · have e76 := e 76 (by omega) (by decide)
      refine g.upd (Kept.of (fun a ha => e a (by omega) (by omega)) (by rw [e76]) (by rw [e76]) (by rw [e76]) (fun k k0 k1 => by rw [w2 k (by omega), m77])) ?_ (g.re.cg (e _ (by omega) (by decide)) (e _ (by omega) (by decide)) (by omega)) (by omega)
      have r1 : Rg M1 1 (M 77) (187 * (1 + (i : Int))) (K + 1) := j4.copy hc.q (by omega)
      have r2 : Rg M1 1 (M2 77) 0 (K + 1) := r1.words (fun k k0 k1 => by rw [w1 k k0 k1, m77])
      exact r2.cg (fun a a1 a2 _ => w3 a (by omega)) (by omega)
end From
