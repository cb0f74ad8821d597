/-! SLEEPER, BECOME, TYPE, CLEAR, BURN -/
section Ops5
variable {S : List Int} {T : List Sh} {M N : Nat → Int → Int} {K : Nat} {h : Hp}
theorem Gl.sz (g : Gl T M K) : M 77 6 = M 5 1 ∧ 0 ≤ M 5 1 ∧ M 5 1 ≤ 4 := by
  have z : M 5 1 = M 77 6 := g.rg.z
  have z4 : 0 ≤ M 5 1 ∧ M 5 1 ≤ 4 := g.rg.z4
  omega
theorem c_bhY {s : Int} (hX : isX T) (h0 : 0 ≤ M 5 1 ∧ M 5 1 ≤ 4) (is : I32 s) (hc : 0 ≤ s ∧ s ≤ M 5 1 - 1) : Cl S 3 [vR (1 + 4), vI s] (T, M) (some (vI 1), (T, M)) := by
  have := c_bhas (S := S) (M := M) (b := 1) hX.s1 h0.1 h0.2 is
  rw [if_pos hc] at this
  exact this
theorem c_bhN {s : Int} (hX : isX T) (h0 : 0 ≤ M 5 1 ∧ M 5 1 ≤ 4) (is : I32 s) (hc : ¬ (0 ≤ s ∧ s ≤ M 5 1 - 1)) : Cl S 3 [vR (1 + 4), vI s] (T, M) (some (vI 0), (T, M)) := by
  have := c_bhas (S := S) (M := M) (b := 1) hX.s1 h0.1 h0.2 is
  rw [if_neg hc] at this
  exact this
theorem c_ioY {s z : Int} (hM : isM T) (e : M 77 6 = z) (h0 : 0 ≤ z ∧ z ≤ 4) (is : I32 s) (hc : 0 ≤ s ∧ s ≤ z - 1) : Cl S 125 [vR 76, vI s] (T, M) (some (vI 1), (T, M)) := by
  have := c_isOne (S := S) (M := M) (s := s) hM (by rw [e]; exact h0) is
  rw [e, if_pos hc] at this
  exact this
theorem c_ioN {s z : Int} (hM : isM T) (e : M 77 6 = z) (h0 : 0 ≤ z ∧ z ≤ 4) (is : I32 s) (hc : ¬ (0 ≤ s ∧ s ≤ z - 1)) : Cl S 125 [vR 76, vI s] (T, M) (some (vI 0), (T, M)) := by
  have := c_isOne (S := S) (M := M) (s := s) hM (by rw [e]; exact h0) is
  rw [e, if_neg hc] at this
  exact this
theorem op_sleeper {k rd ht cd pt : Int} (g : Gl T M K) (ik : I32 k) (ird : I32 rd) (iht : I32 ht) (icd : I32 cd) (ipt : I32 pt) : Op S 73 134 [vI k, vI rd, vI ht, vI cd, vI pt] T M K := by
  have hX := g.x
  have hM := g.m
  have hS := hX.s1
  have hz := g.sz
  have e45 : M (1 + 4) 1 = M 5 1 := rfl
  by_cases h1 : 0 ≤ k ∧ k ≤ 5
  case neg =>
    refine Op.bad (v := -2) (k := 0) g (by decide) (by decide) (by decide) ⟨_, rfl, ?_⟩ (fun M1 h80 => ⟨_, rfl, ?_⟩) trivial
    · refine Rn.cal rfl (X_i <| X_ild rfl <| X_nil) (vs := [_, _]) (rest := []) rfl rfl rfl rfl (c_fN (by decide) (by decide) (by omega) h1) ?_
      refine Rn.ieq rfl (X_nil) (by first | omega | (simp (disch := omega) only [um_eq, um_na, um_ni, Int.toNat_natCast]; omega)) (fun hc => ?_) (fun hc => absurd hc (by first | omega | decide | (simp (disch := omega) only [um_eq, um_na, um_ni, Int.toNat_natCast]; omega)))
      refine Rn.cal rfl (X_ald rfl <| X_i <| X_nil) (vs := [_, _]) (rest := []) rfl rfl rfl (rcv_v hX.ob (by decide)) (c_bad hX) ?_
      refine Rn.ri rfl (X_nil) rfl
    · refine Rn.cal rfl (X_ild rfl <| X_i2l (by first | omega | (simp (disch := omega) only [um_eq, um_na, um_ni, Int.toNat_natCast]; omega)) <| X_l <| X_l <| X_nil) (vs := [_, _, _]) (rest := []) rfl rfl rfl rfl (c_iN (by omega) (by decide) (by decide) h1) ?_
      refine Rn.ieq rfl (X_nil) (by first | omega | (simp (disch := omega) only [um_eq, um_na, um_ni, Int.toNat_natCast]; omega)) (fun hc => ?_) (fun hc => absurd hc (by first | omega | decide | (simp (disch := omega) only [um_eq, um_na, um_ni, Int.toNat_natCast]; omega)))
      refine Rn.cal rfl (X_ald rfl <| X_nil) (vs := [_]) (rest := []) rfl rfl rfl (rcv_v hM.ob (by decide)) (c_mbad hM) ?_
      refine Rn.ri rfl (X_nil) rfl
  by_cases h2 : 0 ≤ rd ∧ rd ≤ 120
  case neg =>
    refine Op.bad (v := -2) (k := 0) g (by decide) (by decide) (by decide) ⟨_, rfl, ?_⟩ (fun M1 h80 => ⟨_, rfl, ?_⟩) trivial
    · refine Rn.cal rfl (X_i <| X_ild rfl <| X_nil) (vs := [_, _]) (rest := []) rfl rfl rfl rfl (c_fY (by decide) (by decide) (by omega) h1) ?_
      refine Rn.ieq rfl (X_nil) (by first | omega | (simp (disch := omega) only [um_eq, um_na, um_ni, Int.toNat_natCast]; omega)) (fun hc => absurd hc (by first | omega | decide | (simp (disch := omega) only [um_eq, um_na, um_ni, Int.toNat_natCast]; omega))) (fun hc => ?_)
      refine Rn.cal rfl (X_i <| X_ild rfl <| X_nil) (vs := [_, _]) (rest := []) rfl rfl rfl rfl (c_fN (by decide) (by decide) (by omega) h2) ?_
      refine Rn.ieq rfl (X_nil) (by first | omega | (simp (disch := omega) only [um_eq, um_na, um_ni, Int.toNat_natCast]; omega)) (fun hc => ?_) (fun hc => absurd hc (by first | omega | decide | (simp (disch := omega) only [um_eq, um_na, um_ni, Int.toNat_natCast]; omega)))
      refine Rn.cal rfl (X_ald rfl <| X_i <| X_nil) (vs := [_, _]) (rest := []) rfl rfl rfl (rcv_v hX.ob (by decide)) (c_bad hX) ?_
      refine Rn.ri rfl (X_nil) rfl
    · refine Rn.cal rfl (X_ild rfl <| X_i2l (by first | omega | (simp (disch := omega) only [um_eq, um_na, um_ni, Int.toNat_natCast]; omega)) <| X_l <| X_l <| X_nil) (vs := [_, _, _]) (rest := []) rfl rfl rfl rfl (c_iY (by omega) (by decide) (by decide) h1) ?_
      refine Rn.ieq rfl (X_nil) (by first | omega | (simp (disch := omega) only [um_eq, um_na, um_ni, Int.toNat_natCast]; omega)) (fun hc => absurd hc (by first | omega | decide | (simp (disch := omega) only [um_eq, um_na, um_ni, Int.toNat_natCast]; omega))) (fun hc => ?_)
      refine Rn.cal rfl (X_ild rfl <| X_i2l (by first | omega | (simp (disch := omega) only [um_eq, um_na, um_ni, Int.toNat_natCast]; omega)) <| X_l <| X_l <| X_nil) (vs := [_, _, _]) (rest := []) rfl rfl rfl rfl (c_iN (by omega) (by decide) (by decide) h2) ?_
      refine Rn.ieq rfl (X_nil) (by first | omega | (simp (disch := omega) only [um_eq, um_na, um_ni, Int.toNat_natCast]; omega)) (fun hc => ?_) (fun hc => absurd hc (by first | omega | decide | (simp (disch := omega) only [um_eq, um_na, um_ni, Int.toNat_natCast]; omega)))
      refine Rn.cal rfl (X_ald rfl <| X_nil) (vs := [_]) (rest := []) rfl rfl rfl (rcv_v hM.ob (by decide)) (c_mbad hM) ?_
      refine Rn.ri rfl (X_nil) rfl
  by_cases h3 : 0 ≤ ht ∧ ht ≤ 9
  case neg =>
    refine Op.bad (v := -2) (k := 0) g (by decide) (by decide) (by decide) ⟨_, rfl, ?_⟩ (fun M1 h80 => ⟨_, rfl, ?_⟩) trivial
    · refine Rn.cal rfl (X_i <| X_ild rfl <| X_nil) (vs := [_, _]) (rest := []) rfl rfl rfl rfl (c_fY (by decide) (by decide) (by omega) h1) ?_
      refine Rn.ieq rfl (X_nil) (by first | omega | (simp (disch := omega) only [um_eq, um_na, um_ni, Int.toNat_natCast]; omega)) (fun hc => absurd hc (by first | omega | decide | (simp (disch := omega) only [um_eq, um_na, um_ni, Int.toNat_natCast]; omega))) (fun hc => ?_)
      refine Rn.cal rfl (X_i <| X_ild rfl <| X_nil) (vs := [_, _]) (rest := []) rfl rfl rfl rfl (c_fY (by decide) (by decide) (by omega) h2) ?_
      refine Rn.ieq rfl (X_nil) (by first | omega | (simp (disch := omega) only [um_eq, um_na, um_ni, Int.toNat_natCast]; omega)) (fun hc => absurd hc (by first | omega | decide | (simp (disch := omega) only [um_eq, um_na, um_ni, Int.toNat_natCast]; omega))) (fun hc => ?_)
      refine Rn.cal rfl (X_i <| X_ild rfl <| X_nil) (vs := [_, _]) (rest := []) rfl rfl rfl rfl (c_fN (by decide) (by decide) (by omega) h3) ?_
      refine Rn.ieq rfl (X_nil) (by first | omega | (simp (disch := omega) only [um_eq, um_na, um_ni, Int.toNat_natCast]; omega)) (fun hc => ?_) (fun hc => absurd hc (by first | omega | decide | (simp (disch := omega) only [um_eq, um_na, um_ni, Int.toNat_natCast]; omega)))
      refine Rn.cal rfl (X_ald rfl <| X_i <| X_nil) (vs := [_, _]) (rest := []) rfl rfl rfl (rcv_v hX.ob (by decide)) (c_bad hX) ?_
      refine Rn.ri rfl (X_nil) rfl
    · refine Rn.cal rfl (X_ild rfl <| X_i2l (by first | omega | (simp (disch := omega) only [um_eq, um_na, um_ni, Int.toNat_natCast]; omega)) <| X_l <| X_l <| X_nil) (vs := [_, _, _]) (rest := []) rfl rfl rfl rfl (c_iY (by omega) (by decide) (by decide) h1) ?_
      refine Rn.ieq rfl (X_nil) (by first | omega | (simp (disch := omega) only [um_eq, um_na, um_ni, Int.toNat_natCast]; omega)) (fun hc => absurd hc (by first | omega | decide | (simp (disch := omega) only [um_eq, um_na, um_ni, Int.toNat_natCast]; omega))) (fun hc => ?_)
      refine Rn.cal rfl (X_ild rfl <| X_i2l (by first | omega | (simp (disch := omega) only [um_eq, um_na, um_ni, Int.toNat_natCast]; omega)) <| X_l <| X_l <| X_nil) (vs := [_, _, _]) (rest := []) rfl rfl rfl rfl (c_iY (by omega) (by decide) (by decide) h2) ?_
      refine Rn.ieq rfl (X_nil) (by first | omega | (simp (disch := omega) only [um_eq, um_na, um_ni, Int.toNat_natCast]; omega)) (fun hc => absurd hc (by first | omega | decide | (simp (disch := omega) only [um_eq, um_na, um_ni, Int.toNat_natCast]; omega))) (fun hc => ?_)
      refine Rn.cal rfl (X_ild rfl <| X_i2l (by first | omega | (simp (disch := omega) only [um_eq, um_na, um_ni, Int.toNat_natCast]; omega)) <| X_l <| X_l <| X_nil) (vs := [_, _, _]) (rest := []) rfl rfl rfl rfl (c_iN (by omega) (by decide) (by decide) h3) ?_
      refine Rn.ieq rfl (X_nil) (by first | omega | (simp (disch := omega) only [um_eq, um_na, um_ni, Int.toNat_natCast]; omega)) (fun hc => ?_) (fun hc => absurd hc (by first | omega | decide | (simp (disch := omega) only [um_eq, um_na, um_ni, Int.toNat_natCast]; omega)))
      refine Rn.cal rfl (X_ald rfl <| X_nil) (vs := [_]) (rest := []) rfl rfl rfl (rcv_v hM.ob (by decide)) (c_mbad hM) ?_
      refine Rn.ri rfl (X_nil) rfl
  by_cases h4 : 0 ≤ cd ∧ cd ≤ 20
  case neg =>
    refine Op.bad (v := -2) (k := 0) g (by decide) (by decide) (by decide) ⟨_, rfl, ?_⟩ (fun M1 h80 => ⟨_, rfl, ?_⟩) trivial
    · refine Rn.cal rfl (X_i <| X_ild rfl <| X_nil) (vs := [_, _]) (rest := []) rfl rfl rfl rfl (c_fY (by decide) (by decide) (by omega) h1) ?_
      refine Rn.ieq rfl (X_nil) (by first | omega | (simp (disch := omega) only [um_eq, um_na, um_ni, Int.toNat_natCast]; omega)) (fun hc => absurd hc (by first | omega | decide | (simp (disch := omega) only [um_eq, um_na, um_ni, Int.toNat_natCast]; omega))) (fun hc => ?_)
      refine Rn.cal rfl (X_i <| X_ild rfl <| X_nil) (vs := [_, _]) (rest := []) rfl rfl rfl rfl (c_fY (by decide) (by decide) (by omega) h2) ?_
      refine Rn.ieq rfl (X_nil) (by first | omega | (simp (disch := omega) only [um_eq, um_na, um_ni, Int.toNat_natCast]; omega)) (fun hc => absurd hc (by first | omega | decide | (simp (disch := omega) only [um_eq, um_na, um_ni, Int.toNat_natCast]; omega))) (fun hc => ?_)
      refine Rn.cal rfl (X_i <| X_ild rfl <| X_nil) (vs := [_, _]) (rest := []) rfl rfl rfl rfl (c_fY (by decide) (by decide) (by omega) h3) ?_
      refine Rn.ieq rfl (X_nil) (by first | omega | (simp (disch := omega) only [um_eq, um_na, um_ni, Int.toNat_natCast]; omega)) (fun hc => absurd hc (by first | omega | decide | (simp (disch := omega) only [um_eq, um_na, um_ni, Int.toNat_natCast]; omega))) (fun hc => ?_)
      refine Rn.cal rfl (X_i <| X_ild rfl <| X_nil) (vs := [_, _]) (rest := []) rfl rfl rfl rfl (c_fN (by decide) (by decide) (by omega) h4) ?_
      refine Rn.ieq rfl (X_nil) (by first | omega | (simp (disch := omega) only [um_eq, um_na, um_ni, Int.toNat_natCast]; omega)) (fun hc => ?_) (fun hc => absurd hc (by first | omega | decide | (simp (disch := omega) only [um_eq, um_na, um_ni, Int.toNat_natCast]; omega)))
      refine Rn.cal rfl (X_ald rfl <| X_i <| X_nil) (vs := [_, _]) (rest := []) rfl rfl rfl (rcv_v hX.ob (by decide)) (c_bad hX) ?_
      refine Rn.ri rfl (X_nil) rfl
    · refine Rn.cal rfl (X_ild rfl <| X_i2l (by first | omega | (simp (disch := omega) only [um_eq, um_na, um_ni, Int.toNat_natCast]; omega)) <| X_l <| X_l <| X_nil) (vs := [_, _, _]) (rest := []) rfl rfl rfl rfl (c_iY (by omega) (by decide) (by decide) h1) ?_
      refine Rn.ieq rfl (X_nil) (by first | omega | (simp (disch := omega) only [um_eq, um_na, um_ni, Int.toNat_natCast]; omega)) (fun hc => absurd hc (by first | omega | decide | (simp (disch := omega) only [um_eq, um_na, um_ni, Int.toNat_natCast]; omega))) (fun hc => ?_)
      refine Rn.cal rfl (X_ild rfl <| X_i2l (by first | omega | (simp (disch := omega) only [um_eq, um_na, um_ni, Int.toNat_natCast]; omega)) <| X_l <| X_l <| X_nil) (vs := [_, _, _]) (rest := []) rfl rfl rfl rfl (c_iY (by omega) (by decide) (by decide) h2) ?_
      refine Rn.ieq rfl (X_nil) (by first | omega | (simp (disch := omega) only [um_eq, um_na, um_ni, Int.toNat_natCast]; omega)) (fun hc => absurd hc (by first | omega | decide | (simp (disch := omega) only [um_eq, um_na, um_ni, Int.toNat_natCast]; omega))) (fun hc => ?_)
      refine Rn.cal rfl (X_ild rfl <| X_i2l (by first | omega | (simp (disch := omega) only [um_eq, um_na, um_ni, Int.toNat_natCast]; omega)) <| X_l <| X_l <| X_nil) (vs := [_, _, _]) (rest := []) rfl rfl rfl rfl (c_iY (by omega) (by decide) (by decide) h3) ?_
      refine Rn.ieq rfl (X_nil) (by first | omega | (simp (disch := omega) only [um_eq, um_na, um_ni, Int.toNat_natCast]; omega)) (fun hc => absurd hc (by first | omega | decide | (simp (disch := omega) only [um_eq, um_na, um_ni, Int.toNat_natCast]; omega))) (fun hc => ?_)
      refine Rn.cal rfl (X_ild rfl <| X_i2l (by first | omega | (simp (disch := omega) only [um_eq, um_na, um_ni, Int.toNat_natCast]; omega)) <| X_l <| X_l <| X_nil) (vs := [_, _, _]) (rest := []) rfl rfl rfl rfl (c_iN (by omega) (by decide) (by decide) h4) ?_
      refine Rn.ieq rfl (X_nil) (by first | omega | (simp (disch := omega) only [um_eq, um_na, um_ni, Int.toNat_natCast]; omega)) (fun hc => ?_) (fun hc => absurd hc (by first | omega | decide | (simp (disch := omega) only [um_eq, um_na, um_ni, Int.toNat_natCast]; omega)))
      refine Rn.cal rfl (X_ald rfl <| X_nil) (vs := [_]) (rest := []) rfl rfl rfl (rcv_v hM.ob (by decide)) (c_mbad hM) ?_
      refine Rn.ri rfl (X_nil) rfl
  by_cases h5 : 0 ≤ pt ∧ pt ≤ 60
  case neg =>
    refine Op.bad (v := -2) (k := 0) g (by decide) (by decide) (by decide) ⟨_, rfl, ?_⟩ (fun M1 h80 => ⟨_, rfl, ?_⟩) trivial
    · refine Rn.cal rfl (X_i <| X_ild rfl <| X_nil) (vs := [_, _]) (rest := []) rfl rfl rfl rfl (c_fY (by decide) (by decide) (by omega) h1) ?_
      refine Rn.ieq rfl (X_nil) (by first | omega | (simp (disch := omega) only [um_eq, um_na, um_ni, Int.toNat_natCast]; omega)) (fun hc => absurd hc (by first | omega | decide | (simp (disch := omega) only [um_eq, um_na, um_ni, Int.toNat_natCast]; omega))) (fun hc => ?_)
      refine Rn.cal rfl (X_i <| X_ild rfl <| X_nil) (vs := [_, _]) (rest := []) rfl rfl rfl rfl (c_fY (by decide) (by decide) (by omega) h2) ?_
      refine Rn.ieq rfl (X_nil) (by first | omega | (simp (disch := omega) only [um_eq, um_na, um_ni, Int.toNat_natCast]; omega)) (fun hc => absurd hc (by first | omega | decide | (simp (disch := omega) only [um_eq, um_na, um_ni, Int.toNat_natCast]; omega))) (fun hc => ?_)
      refine Rn.cal rfl (X_i <| X_ild rfl <| X_nil) (vs := [_, _]) (rest := []) rfl rfl rfl rfl (c_fY (by decide) (by decide) (by omega) h3) ?_
      refine Rn.ieq rfl (X_nil) (by first | omega | (simp (disch := omega) only [um_eq, um_na, um_ni, Int.toNat_natCast]; omega)) (fun hc => absurd hc (by first | omega | decide | (simp (disch := omega) only [um_eq, um_na, um_ni, Int.toNat_natCast]; omega))) (fun hc => ?_)
      refine Rn.cal rfl (X_i <| X_ild rfl <| X_nil) (vs := [_, _]) (rest := []) rfl rfl rfl rfl (c_fY (by decide) (by decide) (by omega) h4) ?_
      refine Rn.ieq rfl (X_nil) (by first | omega | (simp (disch := omega) only [um_eq, um_na, um_ni, Int.toNat_natCast]; omega)) (fun hc => absurd hc (by first | omega | decide | (simp (disch := omega) only [um_eq, um_na, um_ni, Int.toNat_natCast]; omega))) (fun hc => ?_)
      refine Rn.cal rfl (X_i <| X_ild rfl <| X_nil) (vs := [_, _]) (rest := []) rfl rfl rfl rfl (c_fN (by decide) (by decide) (by omega) h5) ?_
      refine Rn.ine rfl (X_nil) (by first | omega | (simp (disch := omega) only [um_eq, um_na, um_ni, Int.toNat_natCast]; omega)) (fun hc => absurd hc (by first | omega | decide | (simp (disch := omega) only [um_eq, um_na, um_ni, Int.toNat_natCast]; omega))) (fun hc => ?_)
      refine Rn.cal rfl (X_ald rfl <| X_i <| X_nil) (vs := [_, _]) (rest := []) rfl rfl rfl (rcv_v hX.ob (by decide)) (c_bad hX) ?_
      refine Rn.ri rfl (X_nil) rfl
    · refine Rn.cal rfl (X_ild rfl <| X_i2l (by first | omega | (simp (disch := omega) only [um_eq, um_na, um_ni, Int.toNat_natCast]; omega)) <| X_l <| X_l <| X_nil) (vs := [_, _, _]) (rest := []) rfl rfl rfl rfl (c_iY (by omega) (by decide) (by decide) h1) ?_
      refine Rn.ieq rfl (X_nil) (by first | omega | (simp (disch := omega) only [um_eq, um_na, um_ni, Int.toNat_natCast]; omega)) (fun hc => absurd hc (by first | omega | decide | (simp (disch := omega) only [um_eq, um_na, um_ni, Int.toNat_natCast]; omega))) (fun hc => ?_)
      refine Rn.cal rfl (X_ild rfl <| X_i2l (by first | omega | (simp (disch := omega) only [um_eq, um_na, um_ni, Int.toNat_natCast]; omega)) <| X_l <| X_l <| X_nil) (vs := [_, _, _]) (rest := []) rfl rfl rfl rfl (c_iY (by omega) (by decide) (by decide) h2) ?_
      refine Rn.ieq rfl (X_nil) (by first | omega | (simp (disch := omega) only [um_eq, um_na, um_ni, Int.toNat_natCast]; omega)) (fun hc => absurd hc (by first | omega | decide | (simp (disch := omega) only [um_eq, um_na, um_ni, Int.toNat_natCast]; omega))) (fun hc => ?_)
      refine Rn.cal rfl (X_ild rfl <| X_i2l (by first | omega | (simp (disch := omega) only [um_eq, um_na, um_ni, Int.toNat_natCast]; omega)) <| X_l <| X_l <| X_nil) (vs := [_, _, _]) (rest := []) rfl rfl rfl rfl (c_iY (by omega) (by decide) (by decide) h3) ?_
      refine Rn.ieq rfl (X_nil) (by first | omega | (simp (disch := omega) only [um_eq, um_na, um_ni, Int.toNat_natCast]; omega)) (fun hc => absurd hc (by first | omega | decide | (simp (disch := omega) only [um_eq, um_na, um_ni, Int.toNat_natCast]; omega))) (fun hc => ?_)
      refine Rn.cal rfl (X_ild rfl <| X_i2l (by first | omega | (simp (disch := omega) only [um_eq, um_na, um_ni, Int.toNat_natCast]; omega)) <| X_l <| X_l <| X_nil) (vs := [_, _, _]) (rest := []) rfl rfl rfl rfl (c_iY (by omega) (by decide) (by decide) h4) ?_
      refine Rn.ieq rfl (X_nil) (by first | omega | (simp (disch := omega) only [um_eq, um_na, um_ni, Int.toNat_natCast]; omega)) (fun hc => absurd hc (by first | omega | decide | (simp (disch := omega) only [um_eq, um_na, um_ni, Int.toNat_natCast]; omega))) (fun hc => ?_)
      refine Rn.cal rfl (X_ild rfl <| X_i2l (by first | omega | (simp (disch := omega) only [um_eq, um_na, um_ni, Int.toNat_natCast]; omega)) <| X_l <| X_l <| X_nil) (vs := [_, _, _]) (rest := []) rfl rfl rfl rfl (c_iN (by omega) (by decide) (by decide) h5) ?_
      refine Rn.ine rfl (X_nil) (by first | omega | (simp (disch := omega) only [um_eq, um_na, um_ni, Int.toNat_natCast]; omega)) (fun hc => absurd hc (by first | omega | decide | (simp (disch := omega) only [um_eq, um_na, um_ni, Int.toNat_natCast]; omega))) (fun hc => ?_)
      refine Rn.cal rfl (X_ald rfl <| X_nil) (vs := [_]) (rest := []) rfl rfl rfl (rcv_v hM.ob (by decide)) (c_mbad hM) ?_
      refine Rn.ri rfl (X_nil) rfl
  by_cases h6 : M 5 1 < 4
  case neg =>
    refine Op.bad1 (v := -4) (k := 2) g (by decide) (by decide) (by decide) ⟨_, rfl, ?_⟩ ⟨_, rfl, ?_⟩
    · refine Rn.cal rfl (X_i <| X_ild rfl <| X_nil) (vs := [_, _]) (rest := []) rfl rfl rfl rfl (c_fY (by decide) (by decide) (by omega) h1) ?_
      refine Rn.ieq rfl (X_nil) (by first | omega | (simp (disch := omega) only [um_eq, um_na, um_ni, Int.toNat_natCast]; omega)) (fun hc => absurd hc (by first | omega | decide | (simp (disch := omega) only [um_eq, um_na, um_ni, Int.toNat_natCast]; omega))) (fun hc => ?_)
      refine Rn.cal rfl (X_i <| X_ild rfl <| X_nil) (vs := [_, _]) (rest := []) rfl rfl rfl rfl (c_fY (by decide) (by decide) (by omega) h2) ?_
      refine Rn.ieq rfl (X_nil) (by first | omega | (simp (disch := omega) only [um_eq, um_na, um_ni, Int.toNat_natCast]; omega)) (fun hc => absurd hc (by first | omega | decide | (simp (disch := omega) only [um_eq, um_na, um_ni, Int.toNat_natCast]; omega))) (fun hc => ?_)
      refine Rn.cal rfl (X_i <| X_ild rfl <| X_nil) (vs := [_, _]) (rest := []) rfl rfl rfl rfl (c_fY (by decide) (by decide) (by omega) h3) ?_
      refine Rn.ieq rfl (X_nil) (by first | omega | (simp (disch := omega) only [um_eq, um_na, um_ni, Int.toNat_natCast]; omega)) (fun hc => absurd hc (by first | omega | decide | (simp (disch := omega) only [um_eq, um_na, um_ni, Int.toNat_natCast]; omega))) (fun hc => ?_)
      refine Rn.cal rfl (X_i <| X_ild rfl <| X_nil) (vs := [_, _]) (rest := []) rfl rfl rfl rfl (c_fY (by decide) (by decide) (by omega) h4) ?_
      refine Rn.ieq rfl (X_nil) (by first | omega | (simp (disch := omega) only [um_eq, um_na, um_ni, Int.toNat_natCast]; omega)) (fun hc => absurd hc (by first | omega | decide | (simp (disch := omega) only [um_eq, um_na, um_ni, Int.toNat_natCast]; omega))) (fun hc => ?_)
      refine Rn.cal rfl (X_i <| X_ild rfl <| X_nil) (vs := [_, _]) (rest := []) rfl rfl rfl rfl (c_fY (by decide) (by decide) (by omega) h5) ?_
      refine Rn.ine rfl (X_nil) (by first | omega | (simp (disch := omega) only [um_eq, um_na, um_ni, Int.toNat_natCast]; omega)) (fun hc => ?_) (fun hc => absurd hc (by first | omega | decide | (simp (disch := omega) only [um_eq, um_na, um_ni, Int.toNat_natCast]; omega)))
      refine Rn.clt rfl (X_ald rfl <| X_gr 7 0 hX.ob ⟨rfl, rfl⟩ rfl rfl <| X_gr 6 1 hX.s1.st ⟨rfl, rfl⟩ rfl rfl <| X_gi 0 1 1 hX.s1.be ⟨rfl, rfl, rfl⟩ (Or.inl rfl) <| X_i <| X_nil) (by first | omega | (simp (disch := omega) only [um_eq, um_na, um_ni, Int.toNat_natCast]; omega)) (by first | omega | (simp (disch := omega) only [um_eq, um_na, um_ni, Int.toNat_natCast]; omega)) (fun hc => absurd hc (by first | omega | decide | (simp (disch := omega) only [um_eq, um_na, um_ni, Int.toNat_natCast]; omega))) (fun hc => ?_)
      refine Rn.cal rfl (X_ald rfl <| X_nil) (vs := [_]) (rest := []) rfl rfl rfl (rcv_v hX.ob (by decide)) (c_full hX) ?_
      refine Rn.ri rfl (X_nil) rfl
    · refine Rn.cal rfl (X_ild rfl <| X_i2l (by first | omega | (simp (disch := omega) only [um_eq, um_na, um_ni, Int.toNat_natCast]; omega)) <| X_l <| X_l <| X_nil) (vs := [_, _, _]) (rest := []) rfl rfl rfl rfl (c_iY (by omega) (by decide) (by decide) h1) ?_
      refine Rn.ieq rfl (X_nil) (by first | omega | (simp (disch := omega) only [um_eq, um_na, um_ni, Int.toNat_natCast]; omega)) (fun hc => absurd hc (by first | omega | decide | (simp (disch := omega) only [um_eq, um_na, um_ni, Int.toNat_natCast]; omega))) (fun hc => ?_)
      refine Rn.cal rfl (X_ild rfl <| X_i2l (by first | omega | (simp (disch := omega) only [um_eq, um_na, um_ni, Int.toNat_natCast]; omega)) <| X_l <| X_l <| X_nil) (vs := [_, _, _]) (rest := []) rfl rfl rfl rfl (c_iY (by omega) (by decide) (by decide) h2) ?_
      refine Rn.ieq rfl (X_nil) (by first | omega | (simp (disch := omega) only [um_eq, um_na, um_ni, Int.toNat_natCast]; omega)) (fun hc => absurd hc (by first | omega | decide | (simp (disch := omega) only [um_eq, um_na, um_ni, Int.toNat_natCast]; omega))) (fun hc => ?_)
      refine Rn.cal rfl (X_ild rfl <| X_i2l (by first | omega | (simp (disch := omega) only [um_eq, um_na, um_ni, Int.toNat_natCast]; omega)) <| X_l <| X_l <| X_nil) (vs := [_, _, _]) (rest := []) rfl rfl rfl rfl (c_iY (by omega) (by decide) (by decide) h3) ?_
      refine Rn.ieq rfl (X_nil) (by first | omega | (simp (disch := omega) only [um_eq, um_na, um_ni, Int.toNat_natCast]; omega)) (fun hc => absurd hc (by first | omega | decide | (simp (disch := omega) only [um_eq, um_na, um_ni, Int.toNat_natCast]; omega))) (fun hc => ?_)
      refine Rn.cal rfl (X_ild rfl <| X_i2l (by first | omega | (simp (disch := omega) only [um_eq, um_na, um_ni, Int.toNat_natCast]; omega)) <| X_l <| X_l <| X_nil) (vs := [_, _, _]) (rest := []) rfl rfl rfl rfl (c_iY (by omega) (by decide) (by decide) h4) ?_
      refine Rn.ieq rfl (X_nil) (by first | omega | (simp (disch := omega) only [um_eq, um_na, um_ni, Int.toNat_natCast]; omega)) (fun hc => absurd hc (by first | omega | decide | (simp (disch := omega) only [um_eq, um_na, um_ni, Int.toNat_natCast]; omega))) (fun hc => ?_)
      refine Rn.cal rfl (X_ild rfl <| X_i2l (by first | omega | (simp (disch := omega) only [um_eq, um_na, um_ni, Int.toNat_natCast]; omega)) <| X_l <| X_l <| X_nil) (vs := [_, _, _]) (rest := []) rfl rfl rfl rfl (c_iY (by omega) (by decide) (by decide) h5) ?_
      refine Rn.ine rfl (X_nil) (by first | omega | (simp (disch := omega) only [um_eq, um_na, um_ni, Int.toNat_natCast]; omega)) (fun hc => ?_) (fun hc => absurd hc (by first | omega | decide | (simp (disch := omega) only [um_eq, um_na, um_ni, Int.toNat_natCast]; omega)))
      refine Rn.cne rfl (X_ald rfl <| X_gr 8 0 hM.ob ⟨rfl, rfl⟩ rfl rfl <| X_i <| X_ia hM.w (by first | omega | (simp (disch := omega) only [um_eq, um_na, um_ni, Int.toNat_natCast]; omega)) (by first | omega | (simp (disch := omega) only [um_eq, um_na, um_ni, Int.toNat_natCast]; omega)) rfl <| X_i <| X_nil) (by first | omega | (simp (disch := omega) only [um_eq, um_na, um_ni, Int.toNat_natCast]; omega)) (by first | omega | (simp (disch := omega) only [um_eq, um_na, um_ni, Int.toNat_natCast]; omega)) (fun hc => absurd hc (by first | omega | decide | (simp (disch := omega) only [um_eq, um_na, um_ni, Int.toNat_natCast]; omega))) (fun hc => ?_)
      refine Rn.cal rfl (X_ald rfl <| X_i <| X_nil) (vs := [_, _]) (rest := []) rfl rfl rfl (rcv_v hM.ob (by decide)) (c_met hM (Or.inr (Or.inr rfl))) ?_
      refine Rn.ri rfl (X_nil) rfl
  obtain ⟨M1, c1, b1, bj, bt, bf⟩ := c_welcome (S := S) (M := M) (b := 1) (k := k) (r := rd) (t := ht) (c := cd) (p := pt) hS hz.2.1 h6
  have e77 : M1 77 = M 77 := bf _ (by decide) (by omega)
  have e6 : M1 77 (0 + 6) = M 5 1 := by rw [e77]; exact hz.1
  obtain ⟨M2, c2, m6, mt, mj, mf⟩ := c_comes (S := S) (M := M1) (r := 0) (k := k) (rd := rd) (ht := ht) (cd := cd) (pt := pt) hM (by decide) (by decide) (by rw [e6]; omega) (by rw [e6]; omega)
  have m6' : M2 77 6 = M 5 1 + 1 := by rw [← e6]; exact m6
  have e : ∀ a, a ≠ 5 → a ≠ 1 + 16 + 2 * (M 5 1).toNat → a ≠ 77 → M2 a = M a := fun a a1 a2 a3 => by rw [mf a a3, bf a a1 a2]
  have e76 := e 76 (by decide) (by omega) (by decide)
  refine ⟨M 5 1, T, M1, M2, by omega, ⟨_, rfl, ?_⟩, ⟨_, rfl, ?_⟩, g.upd (Kept.of (fun a ha => e a (by omega) (by omega) (by omega)) (by rw [e76]) (by rw [e76]) (by rw [e76]) (fun j j0 j1 => by rw [mj j (by omega) (fun k k0 k8 => by rw [e6]; omega), e77])) ?_ (g.re.cg (e _ (by decide) (by omega) (by decide)) (e _ (by decide) (by omega) (by decide)) (by omega)) (by omega)⟩
  · refine Rn.cal rfl (X_i <| X_ild rfl <| X_nil) (vs := [_, _]) (rest := []) rfl rfl rfl rfl (c_fY (by decide) (by decide) (by omega) h1) ?_
    refine Rn.ieq rfl (X_nil) (by first | omega | (simp (disch := omega) only [um_eq, um_na, um_ni, Int.toNat_natCast]; omega)) (fun hc => absurd hc (by first | omega | decide | (simp (disch := omega) only [um_eq, um_na, um_ni, Int.toNat_natCast]; omega))) (fun hc => ?_)
    refine Rn.cal rfl (X_i <| X_ild rfl <| X_nil) (vs := [_, _]) (rest := []) rfl rfl rfl rfl (c_fY (by decide) (by decide) (by omega) h2) ?_
    refine Rn.ieq rfl (X_nil) (by first | omega | (simp (disch := omega) only [um_eq, um_na, um_ni, Int.toNat_natCast]; omega)) (fun hc => absurd hc (by first | omega | decide | (simp (disch := omega) only [um_eq, um_na, um_ni, Int.toNat_natCast]; omega))) (fun hc => ?_)
    refine Rn.cal rfl (X_i <| X_ild rfl <| X_nil) (vs := [_, _]) (rest := []) rfl rfl rfl rfl (c_fY (by decide) (by decide) (by omega) h3) ?_
    refine Rn.ieq rfl (X_nil) (by first | omega | (simp (disch := omega) only [um_eq, um_na, um_ni, Int.toNat_natCast]; omega)) (fun hc => absurd hc (by first | omega | decide | (simp (disch := omega) only [um_eq, um_na, um_ni, Int.toNat_natCast]; omega))) (fun hc => ?_)
    refine Rn.cal rfl (X_i <| X_ild rfl <| X_nil) (vs := [_, _]) (rest := []) rfl rfl rfl rfl (c_fY (by decide) (by decide) (by omega) h4) ?_
    refine Rn.ieq rfl (X_nil) (by first | omega | (simp (disch := omega) only [um_eq, um_na, um_ni, Int.toNat_natCast]; omega)) (fun hc => absurd hc (by first | omega | decide | (simp (disch := omega) only [um_eq, um_na, um_ni, Int.toNat_natCast]; omega))) (fun hc => ?_)
    refine Rn.cal rfl (X_i <| X_ild rfl <| X_nil) (vs := [_, _]) (rest := []) rfl rfl rfl rfl (c_fY (by decide) (by decide) (by omega) h5) ?_
    refine Rn.ine rfl (X_nil) (by first | omega | (simp (disch := omega) only [um_eq, um_na, um_ni, Int.toNat_natCast]; omega)) (fun hc => ?_) (fun hc => absurd hc (by first | omega | decide | (simp (disch := omega) only [um_eq, um_na, um_ni, Int.toNat_natCast]; omega)))
    refine Rn.clt rfl (X_ald rfl <| X_gr 7 0 hX.ob ⟨rfl, rfl⟩ rfl rfl <| X_gr 6 1 hX.s1.st ⟨rfl, rfl⟩ rfl rfl <| X_gi 0 1 1 hX.s1.be ⟨rfl, rfl, rfl⟩ (Or.inl rfl) <| X_i <| X_nil) (by first | omega | (simp (disch := omega) only [um_eq, um_na, um_ni, Int.toNat_natCast]; omega)) (by first | omega | (simp (disch := omega) only [um_eq, um_na, um_ni, Int.toNat_natCast]; omega)) (fun hc => ?_) (fun hc => absurd hc (by first | omega | decide | (simp (disch := omega) only [um_eq, um_na, um_ni, Int.toNat_natCast]; omega)))
    refine Rn.cal rfl (X_ald rfl <| X_gr 7 0 hX.ob ⟨rfl, rfl⟩ rfl rfl <| X_gr 6 1 hX.s1.st ⟨rfl, rfl⟩ rfl rfl <| X_ild rfl <| X_ild rfl <| X_ild rfl <| X_ild rfl <| X_ild rfl <| X_nil) (vs := [_, _, _, _, _, _]) (rest := []) rfl rfl rfl (rcv_v hX.s1.be (by decide)) (c1) ?_
    refine Rn.ri rfl (X_nil) rfl
  · have e5 : M1 77 6 = M 5 1 := e6
    have er : M 5 1 = M2 77 6 - 1 := by omega
    rw [er]
    refine Rn.cal rfl (X_ild rfl <| X_i2l (by first | omega | (simp (disch := omega) only [um_eq, um_na, um_ni, Int.toNat_natCast]; omega)) <| X_l <| X_l <| X_nil) (vs := [_, _, _]) (rest := []) rfl rfl rfl rfl (c_iY (by omega) (by decide) (by decide) h1) ?_
    refine Rn.ieq rfl (X_nil) (by first | omega | (simp (disch := omega) only [um_eq, um_na, um_ni, Int.toNat_natCast]; omega)) (fun hc => absurd hc (by first | omega | decide | (simp (disch := omega) only [um_eq, um_na, um_ni, Int.toNat_natCast]; omega))) (fun hc => ?_)
    refine Rn.cal rfl (X_ild rfl <| X_i2l (by first | omega | (simp (disch := omega) only [um_eq, um_na, um_ni, Int.toNat_natCast]; omega)) <| X_l <| X_l <| X_nil) (vs := [_, _, _]) (rest := []) rfl rfl rfl rfl (c_iY (by omega) (by decide) (by decide) h2) ?_
    refine Rn.ieq rfl (X_nil) (by first | omega | (simp (disch := omega) only [um_eq, um_na, um_ni, Int.toNat_natCast]; omega)) (fun hc => absurd hc (by first | omega | decide | (simp (disch := omega) only [um_eq, um_na, um_ni, Int.toNat_natCast]; omega))) (fun hc => ?_)
    refine Rn.cal rfl (X_ild rfl <| X_i2l (by first | omega | (simp (disch := omega) only [um_eq, um_na, um_ni, Int.toNat_natCast]; omega)) <| X_l <| X_l <| X_nil) (vs := [_, _, _]) (rest := []) rfl rfl rfl rfl (c_iY (by omega) (by decide) (by decide) h3) ?_
    refine Rn.ieq rfl (X_nil) (by first | omega | (simp (disch := omega) only [um_eq, um_na, um_ni, Int.toNat_natCast]; omega)) (fun hc => absurd hc (by first | omega | decide | (simp (disch := omega) only [um_eq, um_na, um_ni, Int.toNat_natCast]; omega))) (fun hc => ?_)
    refine Rn.cal rfl (X_ild rfl <| X_i2l (by first | omega | (simp (disch := omega) only [um_eq, um_na, um_ni, Int.toNat_natCast]; omega)) <| X_l <| X_l <| X_nil) (vs := [_, _, _]) (rest := []) rfl rfl rfl rfl (c_iY (by omega) (by decide) (by decide) h4) ?_
    refine Rn.ieq rfl (X_nil) (by first | omega | (simp (disch := omega) only [um_eq, um_na, um_ni, Int.toNat_natCast]; omega)) (fun hc => absurd hc (by first | omega | decide | (simp (disch := omega) only [um_eq, um_na, um_ni, Int.toNat_natCast]; omega))) (fun hc => ?_)
    refine Rn.cal rfl (X_ild rfl <| X_i2l (by first | omega | (simp (disch := omega) only [um_eq, um_na, um_ni, Int.toNat_natCast]; omega)) <| X_l <| X_l <| X_nil) (vs := [_, _, _]) (rest := []) rfl rfl rfl rfl (c_iY (by omega) (by decide) (by decide) h5) ?_
    refine Rn.ine rfl (X_nil) (by first | omega | (simp (disch := omega) only [um_eq, um_na, um_ni, Int.toNat_natCast]; omega)) (fun hc => ?_) (fun hc => absurd hc (by first | omega | decide | (simp (disch := omega) only [um_eq, um_na, um_ni, Int.toNat_natCast]; omega)))
    refine Rn.cne rfl (X_ald rfl <| X_gr 8 0 hM.ob ⟨rfl, rfl⟩ rfl rfl <| X_i <| X_ia hM.w (by first | omega | (simp (disch := omega) only [um_eq, um_na, um_ni, Int.toNat_natCast]; omega)) (by first | omega | (simp (disch := omega) only [um_eq, um_na, um_ni, Int.toNat_natCast]; omega)) rfl <| X_i <| X_nil) (by first | omega | (simp (disch := omega) only [um_eq, um_na, um_ni, Int.toNat_natCast]; omega)) (by first | omega | (simp (disch := omega) only [um_eq, um_na, um_ni, Int.toNat_natCast]; omega)) (fun hc => ?_) (fun hc => absurd hc (by first | omega | decide | (simp (disch := omega) only [um_eq, um_na, um_ni, Int.toNat_natCast]; omega)))
    refine Rn.cal rfl (X_ald rfl <| X_i <| X_ild rfl <| X_ild rfl <| X_ild rfl <| X_ild rfl <| X_ild rfl <| X_nil) (vs := [_, _, _, _, _, _, _]) (rest := []) rfl rfl rfl (rcv_v hM.ob (by decide)) (c2) ?_
    refine Rn.ri rfl (X_ald rfl <| X_gr 8 0 hM.ob ⟨rfl, rfl⟩ rfl rfl <| X_i <| X_ia hM.w (by first | omega | (simp (disch := omega) only [um_eq, um_na, um_ni, Int.toNat_natCast]; omega)) (by first | omega | (simp (disch := omega) only [um_eq, um_na, um_ni, Int.toNat_natCast]; omega)) rfl <| X_i <| X_sub <| X_nil) rfl
  · refine g.rg.one (K' := K + 1) (by omega) h6 (by rw [mf (1 + 4) (by decide)]; exact b1) (fun j hj => by rw [mf (1 + 4) (by decide)]; exact bj j hj) (by rw [mf _ (by omega)]; exact bt) (fun a a0 a1 a2 a3 a4 => e a a3 a4 (by omega)) (by rw [← e77]; exact m6) (by rw [← e77]; exact mt) (fun j j0 j1 j2 j3 => ?_) h1 h2 h3 h4 h5
    rw [← e77]
    exact mj j j2 (by rw [e77]; exact j3)
end Ops5
