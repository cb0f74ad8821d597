/-! PLACE, THINGS, MOON, CORD -/
section Ops2
variable {S : List Int} {T : List Sh} {M N : Nat → Int → Int} {K : Nat}
theorem Op.bad1 {mc mm : Nat} {vs : List AV} {v k : Int} (g : Gl T M K) (iv : I32 v) (k0 : 0 ≤ k) (k3 : k < 3) (c1 : Cl S mc (vR 0 :: vs) (T, M) (some (vI v), (T, um M 59 k (M 59 k + 1)))) (c2 : Cl S mm (vR 76 :: vs) (T, um M 59 k (M 59 k + 1)) (some (vI v), (T, um (um M 59 k (M 59 k + 1)) 80 k (um M 59 k (M 59 k + 1) 80 k + 1)))) : Op S mc mm vs T M K := by
  refine ⟨v, T, _, _, iv, c1, c2, ?_⟩
  rw [um_na (by decide)]
  exact g.bad k0 k3
theorem Gl.flo (g : Gl T M K) (hN : ∀ a, a ≠ 2 → a ≠ 3 → a ≠ 77 → N a = M a) (hw : ∀ k, (6 ≤ k ∧ k < 10) ∨ 59 ≤ k → N 77 k = M 77 k) (hf : ∀ k, 0 ≤ k → k < 6 → N 2 k = N 77 k) (ht : ∀ c, 0 ≤ c → c < 49 → N 3 c = N 77 (10 + c)) (hl : FlNo N 1) : Gl T N (K + 1) := by
  have e76 := hN 76 (by decide) (by decide) (by decide)
  refine g.upd (Kept.of (fun a ha => hN a (by omega) (by omega) (by omega)) (by rw [e76]) (by rw [e76]) (by rw [e76]) (fun k k0 k1 => hw k (by omega))) ?_ (g.re.cg (hN _ (by decide) (by decide) (by decide)) (hN _ (by decide) (by decide) (by decide)) (by omega)) (by omega)
  refine g.rg.floor (by omega) (fun a a1 a2 => hN a (by omega) (by omega) (by omega)) (fun k hk => by rw [Int.zero_add]; exact hw k (by omega)) (fun k k0 k6 => ?_) (fun c c0 c1 => ?_) hl
  · rw [Int.zero_add]; exact hf k k0 k6
  · rw [Int.zero_add]; exact ht c c0 c1
/-- one number of the floor's first six, or one cell, has become another in both -/
theorem Gl.flo1 {j v : Int} (g : Gl T M K) (j0 : 0 ≤ j) (j6 : j < 6) (hj : (j = 2 ∧ 0 ≤ v ∧ v < M 2 0 * M 2 1) ∨ (j = 3 ∧ 0 ≤ v ∧ v < M 2 0 * M 2 1) ∨ (j = 4 ∧ 0 ≤ v ∧ v ≤ 127)) : Gl T (um (um (um M 2 j v) 2 8 (-1)) 77 j v) (K + 1) := by
  have hfl := g.rg.fl.1
  obtain ⟨f0, f1, f2, f3, f4, f5, f6⟩ := hfl
  have e2 : ∀ k, k ≠ 8 → k ≠ j → um (um (um M 2 j v) 2 8 (-1)) 77 j v 2 k = M 2 k := fun k h8 hj => by rw [um_na (by decide), um_ni h8, um_ni hj]
  have ej : um (um (um M 2 j v) 2 8 (-1)) 77 j v 2 j = v := by rw [um_na (by decide), um_ni (by omega), um_eq]
  have e3 : um (um (um M 2 j v) 2 8 (-1)) 77 j v 3 = M 3 := by rw [um_fn (by decide), um_fn (by decide), um_fn (by decide)]
  refine g.flo (fun a a1 a2 a3 => by rw [um_fn a3, um_fn a1, um_fn a1]) (fun k hk => by rw [um_ni (by omega), um_na (by decide), um_na (by decide)]) (fun k k0 k6 => ?_) (fun c c0 c1 => ?_) ⟨FlOk.of ?_ ?_ ?_ ?_ ?_ ?_ ?_, Or.inl ?_⟩
  · by_cases ek : k = j
    · subst ek
      rw [ej, um_eq]
    · rw [e2 k (by omega) ek, um_ni ek, um_na (by decide), um_na (by decide)]
      have := g.rg.f k k0 k6
      rw [Int.zero_add] at this
      exact this
  · rw [e3, um_ni (by omega), um_na (by decide), um_na (by decide)]
    have := g.rg.t c c0 c1
    rw [Int.zero_add] at this
    exact this
  · show 1 ≤ um (um (um M 2 j v) 2 8 (-1)) 77 j v 2 0 ∧ um (um (um M 2 j v) 2 8 (-1)) 77 j v 2 0 ≤ 7
    rw [e2 0 (by omega) (by omega)]; exact f0
  · show 1 ≤ um (um (um M 2 j v) 2 8 (-1)) 77 j v 2 1 ∧ um (um (um M 2 j v) 2 8 (-1)) 77 j v 2 1 ≤ 7
    rw [e2 1 (by omega) (by omega)]; exact f1
  · show 0 ≤ um (um (um M 2 j v) 2 8 (-1)) 77 j v 2 2 ∧ um (um (um M 2 j v) 2 8 (-1)) 77 j v 2 2 < um (um (um M 2 j v) 2 8 (-1)) 77 j v 2 0 * um (um (um M 2 j v) 2 8 (-1)) 77 j v 2 1
    rw [e2 0 (by omega) (by omega), e2 1 (by omega) (by omega)]
    by_cases ek : j = 2
    · subst ek
      rw [ej]
      omega
    · rw [e2 2 (by omega) (by omega)]
      exact f2
  · show 0 ≤ um (um (um M 2 j v) 2 8 (-1)) 77 j v 2 3 ∧ um (um (um M 2 j v) 2 8 (-1)) 77 j v 2 3 < um (um (um M 2 j v) 2 8 (-1)) 77 j v 2 0 * um (um (um M 2 j v) 2 8 (-1)) 77 j v 2 1
    rw [e2 0 (by omega) (by omega), e2 1 (by omega) (by omega)]
    by_cases ek : j = 3
    · subst ek
      rw [ej]
      omega
    · rw [e2 3 (by omega) (by omega)]
      exact f3
  · show 0 ≤ um (um (um M 2 j v) 2 8 (-1)) 77 j v 2 4 ∧ um (um (um M 2 j v) 2 8 (-1)) 77 j v 2 4 ≤ 127
    by_cases ek : j = 4
    · subst ek
      rw [ej]
      omega
    · rw [e2 4 (by omega) (by omega)]
      exact f4
  · show 0 ≤ um (um (um M 2 j v) 2 8 (-1)) 77 j v 2 5 ∧ um (um (um M 2 j v) 2 8 (-1)) 77 j v 2 5 ≤ 1
    rw [e2 5 (by omega) (by omega)]; exact f5
  · show ∀ c, 0 ≤ c → c < 49 → 0 ≤ um (um (um M 2 j v) 2 8 (-1)) 77 j v 3 c ∧ um (um (um M 2 j v) 2 8 (-1)) 77 j v 3 c ≤ 9
    rw [e3]; exact f6
  · show um (um (um M 2 j v) 2 8 (-1)) 77 j v 2 8 = -1
    rw [um_na (by decide), um_eq]
theorem c_fhY {c : Int} (hX : isX T) (hw : 1 ≤ M 2 0 ∧ M 2 0 ≤ 7) (hh : 1 ≤ M 2 1 ∧ M 2 1 ≤ 7) (ic : I32 c) (hc : 0 ≤ c ∧ c ≤ M 2 0 * M 2 1 - 1) : Cl S 16 [vR (1 + 1), vI c] (T, M) (some (vI 1), (T, M)) := by
  have := c_fhas (S := S) (M := M) (b := 1) hX.s1 hw hh ic
  rw [if_pos hc] at this
  exact this
theorem c_fhN {c : Int} (hX : isX T) (hw : 1 ≤ M 2 0 ∧ M 2 0 ≤ 7) (hh : 1 ≤ M 2 1 ∧ M 2 1 ≤ 7) (ic : I32 c) (hc : ¬ (0 ≤ c ∧ c ≤ M 2 0 * M 2 1 - 1)) : Cl S 16 [vR (1 + 1), vI c] (T, M) (some (vI 0), (T, M)) := by
  have := c_fhas (S := S) (M := M) (b := 1) hX.s1 hw hh ic
  rw [if_neg hc] at this
  exact this
theorem c_icY {c w hh : Int} (hM : isM T) (e0 : M 77 0 = w) (e1 : M 77 1 = hh) (hw : 1 ≤ w ∧ w ≤ 7) (h7 : 1 ≤ hh ∧ hh ≤ 7) (ic : I32 c) (hc : 0 ≤ c ∧ c ≤ w * hh - 1) : Cl S 124 [vR 76, vI 0, vI c] (T, M) (some (vI 1), (T, M)) := by
  have := c_isCell (S := S) (M := M) (r := 0) (c := c) hM (by decide) (by decide) (by rw [e0]; exact hw) (by rw [Int.zero_add, e1]; exact h7) ic
  rw [Int.zero_add, e0, e1, if_pos hc] at this
  exact this
theorem c_icN {c w hh : Int} (hM : isM T) (e0 : M 77 0 = w) (e1 : M 77 1 = hh) (hw : 1 ≤ w ∧ w ≤ 7) (h7 : 1 ≤ hh ∧ hh ≤ 7) (ic : I32 c) (hc : ¬ (0 ≤ c ∧ c ≤ w * hh - 1)) : Cl S 124 [vR 76, vI 0, vI c] (T, M) (some (vI 0), (T, M)) := by
  have := c_isCell (S := S) (M := M) (r := 0) (c := c) hM (by decide) (by decide) (by rw [e0]; exact hw) (by rw [Int.zero_add, e1]; exact h7) ic
  rw [Int.zero_add, e0, e1, if_neg hc] at this
  exact this
theorem Gl.flI {j : Int} (g : Gl T M K) (j0 : 0 ≤ j) (j6 : j < 6) : M 77 j = M 2 j := by
  have := g.rg.f j j0 j6
  rw [Int.zero_add] at this
  exact this.symm
theorem op_moon {c : Int} (g : Gl T M K) (ic : I32 c) : Op S 71 132 [vI c] T M K := by
  have hX := g.x
  have hM := g.m
  have hS := hX.s1
  have f4 := g.rg.fl.1.2.2.2.2.1
  by_cases h1 : 0 ≤ c ∧ c ≤ 127
  · have c1 := c_shineOn (S := S) (M := M) (c := c) hS
    have cb := c_becomes (S := S) (M := um (um M 2 4 c) 2 8 (-1)) (a := 4) (v := c) hM (by decide) (by decide)
    rw [um_na (by decide), um_na (by decide), g.flI (by decide) (by decide)] at cb
    refine ⟨M 2 4, T, um (um M 2 4 c) 2 8 (-1), _, ?_, ⟨_, rfl, ?_⟩, ⟨_, rfl, ?_⟩, g.flo1 (j := 4) (v := c) (by decide) (by decide) (by omega)⟩
    · have f4 : 0 ≤ M 2 4 ∧ M 2 4 ≤ 127 := f4
      omega
    · refine Rn.cal rfl (X_ild rfl <| X_i <| X_i <| X_nil) (vs := [_, _, _]) (rest := []) rfl rfl rfl rfl (c_wY (by omega) (by decide) (by decide) h1) ?_
      refine Rn.ine rfl (X_nil) (by first | omega | (simp (disch := omega) only [um_eq, um_na, um_ni, Int.toNat_natCast]; omega)) (fun hc => ?_) (fun hc => absurd hc (by first | omega | decide | (simp (disch := omega) only [um_eq, um_na, um_ni, Int.toNat_natCast]; omega)))
      refine Rn.cal rfl (X_ald rfl <| X_gr 7 0 hX.ob ⟨rfl, rfl⟩ rfl rfl <| X_gr 6 0 hX.s1.st ⟨rfl, rfl⟩ rfl rfl <| X_gi 1 4 4 hX.s1.fl ⟨rfl, rfl, rfl⟩ (Or.inl rfl) <| X_ist rfl (L' := [_, _, _]) rfl <| X_ald rfl <| X_gr 7 0 hX.ob ⟨rfl, rfl⟩ rfl rfl <| X_gr 6 0 hX.s1.st ⟨rfl, rfl⟩ rfl rfl <| X_ild rfl <| X_nil) (vs := [_, _]) (rest := []) rfl rfl rfl (rcv_v hX.s1.fl (by decide)) (c1) ?_
      refine Rn.ri rfl (X_ild rfl <| X_nil) rfl
    · refine Rn.cal rfl (X_ild rfl <| X_i2l (by first | omega | (simp (disch := omega) only [um_eq, um_na, um_ni, Int.toNat_natCast]; omega)) <| X_l <| X_l <| X_nil) (vs := [_, _, _]) (rest := []) rfl rfl rfl rfl (c_iY (by omega) (by decide) (by decide) h1) ?_
      refine Rn.ieq rfl (X_nil) (by first | omega | (simp (disch := omega) only [um_eq, um_na, um_ni, Int.toNat_natCast]; omega)) (fun hc => absurd hc (by first | omega | decide | (simp (disch := omega) only [um_eq, um_na, um_ni, Int.toNat_natCast]; omega))) (fun hc => ?_)
      refine Rn.cal rfl (X_ald rfl <| X_i <| X_ild rfl <| X_nil) (vs := [_, _, _]) (rest := []) rfl rfl rfl (rcv_v hM.ob (by decide)) (cb) ?_
      refine Rn.jto rfl (X_nil) ?_
      refine Rn.ri rfl (X_nil) rfl
  · refine Op.bad (v := -2) (k := 0) g (by decide) (by decide) (by decide) ⟨_, rfl, ?_⟩ (fun M1 h80 => ⟨_, rfl, ?_⟩) trivial
    · refine Rn.cal rfl (X_ild rfl <| X_i <| X_i <| X_nil) (vs := [_, _, _]) (rest := []) rfl rfl rfl rfl (c_wN (by omega) (by decide) (by decide) h1) ?_
      refine Rn.ine rfl (X_nil) (by first | omega | (simp (disch := omega) only [um_eq, um_na, um_ni, Int.toNat_natCast]; omega)) (fun hc => absurd hc (by first | omega | decide | (simp (disch := omega) only [um_eq, um_na, um_ni, Int.toNat_natCast]; omega))) (fun hc => ?_)
      refine Rn.cal rfl (X_ald rfl <| X_i <| X_nil) (vs := [_, _]) (rest := []) rfl rfl rfl (rcv_v hX.ob (by decide)) (c_bad hX) ?_
      refine Rn.ri rfl (X_nil) rfl
    · refine Rn.cal rfl (X_ild rfl <| X_i2l (by first | omega | (simp (disch := omega) only [um_eq, um_na, um_ni, Int.toNat_natCast]; omega)) <| X_l <| X_l <| X_nil) (vs := [_, _, _]) (rest := []) rfl rfl rfl rfl (c_iN (by omega) (by decide) (by decide) h1) ?_
      refine Rn.ieq rfl (X_nil) (by first | omega | (simp (disch := omega) only [um_eq, um_na, um_ni, Int.toNat_natCast]; omega)) (fun hc => ?_) (fun hc => absurd hc (by first | omega | decide | (simp (disch := omega) only [um_eq, um_na, um_ni, Int.toNat_natCast]; omega)))
      refine Rn.cal rfl (X_ald rfl <| X_nil) (vs := [_]) (rest := []) rfl rfl rfl (rcv_v hM.ob (by decide)) (c_mbad hM) ?_
      refine Rn.ri rfl (X_nil) rfl
theorem op_place {a c : Int} (g : Gl T M K) (ia : I32 a) (ic : I32 c) : Op S 69 130 [vI a, vI c] T M K := by
  have hX := g.x
  have hM := g.m
  have hS := hX.s1
  have hw := g.w
  have hm := g.wm
  have f2 : 0 ≤ M 2 2 ∧ M 2 2 < M 2 0 * M 2 1 := g.rg.fl.1.2.2.1
  have f3 : 0 ≤ M 2 3 ∧ M 2 3 < M 2 0 * M 2 1 := g.rg.fl.1.2.2.2.1
  have hn : 1 ≤ M 2 0 * M 2 1 ∧ M 2 0 * M 2 1 ≤ 49 := g.rg.fl.1.n
  by_cases h1 : 0 ≤ a ∧ a ≤ 1
  · by_cases h2 : 0 ≤ c ∧ c ≤ M 2 0 * M 2 1 - 1
    · rcases (show a = 0 ∨ a = 1 by omega) with rfl | rfl
      · have cb := c_becomes (S := S) (M := um (um M 2 2 c) 2 8 (-1)) (a := 2) (v := c) hM (by decide) (by decide)
        rw [um_na (by decide), um_na (by decide), g.flI (by decide) (by decide)] at cb
        have ci : Cl S 124 [vR 76, vI 0, vI c] (T, um (um M 2 2 c) 2 8 (-1)) (some (vI 1), (T, um (um M 2 2 c) 2 8 (-1))) := c_icY hM (by rw [um_na (by decide), um_na (by decide)]; exact hm.1) (by rw [um_na (by decide), um_na (by decide)]; exact hm.2) hw.1 hw.2 ic h2
        refine ⟨M 2 2, T, um (um M 2 2 c) 2 8 (-1), _, by omega, ⟨_, rfl, ?_⟩, ⟨_, rfl, ?_⟩, g.flo1 (j := 2) (v := c) (by decide) (by decide) (by omega)⟩
        · refine Rn.cal rfl (X_ald rfl <| X_gr 7 0 hX.ob ⟨rfl, rfl⟩ rfl rfl <| X_gr 6 0 hX.s1.st ⟨rfl, rfl⟩ rfl rfl <| X_ast rfl (L' := [_, _, _, _, _]) rfl <| X_ild rfl <| X_i <| X_i <| X_nil) (vs := [_, _, _]) (rest := []) rfl rfl rfl rfl (c_wY (by omega) (by decide) (by decide) h1) ?_
          refine Rn.ieq rfl (X_nil) (by first | omega | (simp (disch := omega) only [um_eq, um_na, um_ni, Int.toNat_natCast]; omega)) (fun hc => absurd hc (by first | omega | decide | (simp (disch := omega) only [um_eq, um_na, um_ni, Int.toNat_natCast]; omega))) (fun hc => ?_)
          refine Rn.cal rfl (X_ald rfl <| X_ild rfl <| X_nil) (vs := [_, _]) (rest := []) rfl rfl rfl (rcv_v hX.s1.fl (by decide)) (c_fhY hX hw.1 hw.2 ic h2) ?_
          refine Rn.ine rfl (X_nil) (by first | omega | (simp (disch := omega) only [um_eq, um_na, um_ni, Int.toNat_natCast]; omega)) (fun hc => ?_) (fun hc => absurd hc (by first | omega | decide | (simp (disch := omega) only [um_eq, um_na, um_ni, Int.toNat_natCast]; omega)))
          refine Rn.ine rfl (X_ild rfl <| X_nil) (by first | omega | (simp (disch := omega) only [um_eq, um_na, um_ni, Int.toNat_natCast]; omega)) (fun hc => absurd hc (by first | omega | decide | (simp (disch := omega) only [um_eq, um_na, um_ni, Int.toNat_natCast]; omega))) (fun hc => ?_)
          refine Rn.jto rfl (X_ald rfl <| X_gi 1 2 2 hX.s1.fl ⟨rfl, rfl, rfl⟩ (Or.inl rfl) <| X_nil) ?_
          refine Rn.ine rfl (X_ist rfl (L' := [_, _, _, _, _]) rfl <| X_ild rfl <| X_nil) (by first | omega | (simp (disch := omega) only [um_eq, um_na, um_ni, Int.toNat_natCast]; omega)) (fun hc => absurd hc (by first | omega | decide | (simp (disch := omega) only [um_eq, um_na, um_ni, Int.toNat_natCast]; omega))) (fun hc => ?_)
          refine Rn.cal rfl (X_ald rfl <| X_ild rfl <| X_nil) (vs := [_, _]) (rest := []) rfl rfl rfl (rcv_v hX.s1.fl (by decide)) (c_putSwitch hS) ?_
          refine Rn.jto rfl (X_nil) ?_
          refine Rn.ri rfl (X_ild rfl <| X_nil) rfl
        · refine Rn.cal rfl (X_ild rfl <| X_i2l (by first | omega | (simp (disch := omega) only [um_eq, um_na, um_ni, Int.toNat_natCast]; omega)) <| X_l <| X_l <| X_nil) (vs := [_, _, _]) (rest := []) rfl rfl rfl rfl (c_iY (by omega) (by decide) (by decide) h1) ?_
          refine Rn.ieq rfl (X_nil) (by first | omega | (simp (disch := omega) only [um_eq, um_na, um_ni, Int.toNat_natCast]; omega)) (fun hc => absurd hc (by first | omega | decide | (simp (disch := omega) only [um_eq, um_na, um_ni, Int.toNat_natCast]; omega))) (fun hc => ?_)
          refine Rn.cal rfl (X_ald rfl <| X_i <| X_ild rfl <| X_nil) (vs := [_, _, _]) (rest := []) rfl rfl rfl (rcv_v hM.ob (by decide)) (ci) ?_
          refine Rn.ieq rfl (X_nil) (by first | omega | (simp (disch := omega) only [um_eq, um_na, um_ni, Int.toNat_natCast]; omega)) (fun hc => absurd hc (by first | omega | decide | (simp (disch := omega) only [um_eq, um_na, um_ni, Int.toNat_natCast]; omega))) (fun hc => ?_)
          refine Rn.cal rfl (X_ald rfl <| X_i <| X_ild rfl <| X_add <| X_ild rfl <| X_nil) (vs := [_, _, _]) (rest := []) rfl rfl rfl (rcv_v hM.ob (by decide)) (cb) ?_
          refine Rn.jto rfl (X_nil) ?_
          refine Rn.ri rfl (X_nil) rfl
      · have cb := c_becomes (S := S) (M := um (um M 2 3 c) 2 8 (-1)) (a := 3) (v := c) hM (by decide) (by decide)
        rw [um_na (by decide), um_na (by decide), g.flI (by decide) (by decide)] at cb
        have ci : Cl S 124 [vR 76, vI 0, vI c] (T, um (um M 2 3 c) 2 8 (-1)) (some (vI 1), (T, um (um M 2 3 c) 2 8 (-1))) := c_icY hM (by rw [um_na (by decide), um_na (by decide)]; exact hm.1) (by rw [um_na (by decide), um_na (by decide)]; exact hm.2) hw.1 hw.2 ic h2
        refine ⟨M 2 3, T, um (um M 2 3 c) 2 8 (-1), _, by omega, ⟨_, rfl, ?_⟩, ⟨_, rfl, ?_⟩, g.flo1 (j := 3) (v := c) (by decide) (by decide) (by omega)⟩
        · refine Rn.cal rfl (X_ald rfl <| X_gr 7 0 hX.ob ⟨rfl, rfl⟩ rfl rfl <| X_gr 6 0 hX.s1.st ⟨rfl, rfl⟩ rfl rfl <| X_ast rfl (L' := [_, _, _, _, _]) rfl <| X_ild rfl <| X_i <| X_i <| X_nil) (vs := [_, _, _]) (rest := []) rfl rfl rfl rfl (c_wY (by omega) (by decide) (by decide) h1) ?_
          refine Rn.ieq rfl (X_nil) (by first | omega | (simp (disch := omega) only [um_eq, um_na, um_ni, Int.toNat_natCast]; omega)) (fun hc => absurd hc (by first | omega | decide | (simp (disch := omega) only [um_eq, um_na, um_ni, Int.toNat_natCast]; omega))) (fun hc => ?_)
          refine Rn.cal rfl (X_ald rfl <| X_ild rfl <| X_nil) (vs := [_, _]) (rest := []) rfl rfl rfl (rcv_v hX.s1.fl (by decide)) (c_fhY hX hw.1 hw.2 ic h2) ?_
          refine Rn.ine rfl (X_nil) (by first | omega | (simp (disch := omega) only [um_eq, um_na, um_ni, Int.toNat_natCast]; omega)) (fun hc => ?_) (fun hc => absurd hc (by first | omega | decide | (simp (disch := omega) only [um_eq, um_na, um_ni, Int.toNat_natCast]; omega)))
          refine Rn.ine rfl (X_ild rfl <| X_nil) (by first | omega | (simp (disch := omega) only [um_eq, um_na, um_ni, Int.toNat_natCast]; omega)) (fun hc => ?_) (fun hc => absurd hc (by first | omega | decide | (simp (disch := omega) only [um_eq, um_na, um_ni, Int.toNat_natCast]; omega)))
          refine Rn.fal rfl (X_ald rfl <| X_gi 1 3 3 hX.s1.fl ⟨rfl, rfl, rfl⟩ (Or.inl rfl) <| X_nil) ?_
          refine Rn.ine rfl (X_ist rfl (L' := [_, _, _, _, _]) rfl <| X_ild rfl <| X_nil) (by first | omega | (simp (disch := omega) only [um_eq, um_na, um_ni, Int.toNat_natCast]; omega)) (fun hc => ?_) (fun hc => absurd hc (by first | omega | decide | (simp (disch := omega) only [um_eq, um_na, um_ni, Int.toNat_natCast]; omega)))
          refine Rn.cal rfl (X_ald rfl <| X_ild rfl <| X_nil) (vs := [_, _]) (rest := []) rfl rfl rfl (rcv_v hX.s1.fl (by decide)) (c_putBed hS) ?_
          refine Rn.ri rfl (X_ild rfl <| X_nil) rfl
        · refine Rn.cal rfl (X_ild rfl <| X_i2l (by first | omega | (simp (disch := omega) only [um_eq, um_na, um_ni, Int.toNat_natCast]; omega)) <| X_l <| X_l <| X_nil) (vs := [_, _, _]) (rest := []) rfl rfl rfl rfl (c_iY (by omega) (by decide) (by decide) h1) ?_
          refine Rn.ieq rfl (X_nil) (by first | omega | (simp (disch := omega) only [um_eq, um_na, um_ni, Int.toNat_natCast]; omega)) (fun hc => absurd hc (by first | omega | decide | (simp (disch := omega) only [um_eq, um_na, um_ni, Int.toNat_natCast]; omega))) (fun hc => ?_)
          refine Rn.cal rfl (X_ald rfl <| X_i <| X_ild rfl <| X_nil) (vs := [_, _, _]) (rest := []) rfl rfl rfl (rcv_v hM.ob (by decide)) (ci) ?_
          refine Rn.ieq rfl (X_nil) (by first | omega | (simp (disch := omega) only [um_eq, um_na, um_ni, Int.toNat_natCast]; omega)) (fun hc => absurd hc (by first | omega | decide | (simp (disch := omega) only [um_eq, um_na, um_ni, Int.toNat_natCast]; omega))) (fun hc => ?_)
          refine Rn.cal rfl (X_ald rfl <| X_i <| X_ild rfl <| X_add <| X_ild rfl <| X_nil) (vs := [_, _, _]) (rest := []) rfl rfl rfl (rcv_v hM.ob (by decide)) (cb) ?_
          refine Rn.jto rfl (X_nil) ?_
          refine Rn.ri rfl (X_nil) rfl
    · have ci : Cl S 124 [vR 76, vI 0, vI c] (T, um M 59 0 (M 59 0 + 1)) (some (vI 0), (T, um M 59 0 (M 59 0 + 1))) := c_icN hM (by rw [um_na (by decide)]; exact hm.1) (by rw [um_na (by decide)]; exact hm.2) hw.1 hw.2 ic h2
      refine Op.bad1 (v := -2) (k := 0) g (by decide) (by decide) (by decide) ⟨_, rfl, ?_⟩ ⟨_, rfl, ?_⟩
      · refine Rn.cal rfl (X_ald rfl <| X_gr 7 0 hX.ob ⟨rfl, rfl⟩ rfl rfl <| X_gr 6 0 hX.s1.st ⟨rfl, rfl⟩ rfl rfl <| X_ast rfl (L' := [_, _, _, _, _]) rfl <| X_ild rfl <| X_i <| X_i <| X_nil) (vs := [_, _, _]) (rest := []) rfl rfl rfl rfl (c_wY (by omega) (by decide) (by decide) h1) ?_
        refine Rn.ieq rfl (X_nil) (by first | omega | (simp (disch := omega) only [um_eq, um_na, um_ni, Int.toNat_natCast]; omega)) (fun hc => absurd hc (by first | omega | decide | (simp (disch := omega) only [um_eq, um_na, um_ni, Int.toNat_natCast]; omega))) (fun hc => ?_)
        refine Rn.cal rfl (X_ald rfl <| X_ild rfl <| X_nil) (vs := [_, _]) (rest := []) rfl rfl rfl (rcv_v hX.s1.fl (by decide)) (c_fhN hX hw.1 hw.2 ic h2) ?_
        refine Rn.ine rfl (X_nil) (by first | omega | (simp (disch := omega) only [um_eq, um_na, um_ni, Int.toNat_natCast]; omega)) (fun hc => absurd hc (by first | omega | decide | (simp (disch := omega) only [um_eq, um_na, um_ni, Int.toNat_natCast]; omega))) (fun hc => ?_)
        refine Rn.cal rfl (X_ald rfl <| X_i <| X_nil) (vs := [_, _]) (rest := []) rfl rfl rfl (rcv_v hX.ob (by decide)) (c_bad hX) ?_
        refine Rn.ri rfl (X_nil) rfl
      · refine Rn.cal rfl (X_ild rfl <| X_i2l (by first | omega | (simp (disch := omega) only [um_eq, um_na, um_ni, Int.toNat_natCast]; omega)) <| X_l <| X_l <| X_nil) (vs := [_, _, _]) (rest := []) rfl rfl rfl rfl (c_iY (by omega) (by decide) (by decide) h1) ?_
        refine Rn.ieq rfl (X_nil) (by first | omega | (simp (disch := omega) only [um_eq, um_na, um_ni, Int.toNat_natCast]; omega)) (fun hc => absurd hc (by first | omega | decide | (simp (disch := omega) only [um_eq, um_na, um_ni, Int.toNat_natCast]; omega))) (fun hc => ?_)
        refine Rn.cal rfl (X_ald rfl <| X_i <| X_ild rfl <| X_nil) (vs := [_, _, _]) (rest := []) rfl rfl rfl (rcv_v hM.ob (by decide)) (ci) ?_
        refine Rn.ieq rfl (X_nil) (by first | omega | (simp (disch := omega) only [um_eq, um_na, um_ni, Int.toNat_natCast]; omega)) (fun hc => ?_) (fun hc => absurd hc (by first | omega | decide | (simp (disch := omega) only [um_eq, um_na, um_ni, Int.toNat_natCast]; omega)))
        refine Rn.cal rfl (X_ald rfl <| X_nil) (vs := [_]) (rest := []) rfl rfl rfl (rcv_v hM.ob (by decide)) (c_mbad hM) ?_
        refine Rn.ri rfl (X_nil) rfl
  · refine Op.bad (v := -2) (k := 0) g (by decide) (by decide) (by decide) ⟨_, rfl, ?_⟩ (fun M1 h80 => ⟨_, rfl, ?_⟩) trivial
    · refine Rn.cal rfl (X_ald rfl <| X_gr 7 0 hX.ob ⟨rfl, rfl⟩ rfl rfl <| X_gr 6 0 hX.s1.st ⟨rfl, rfl⟩ rfl rfl <| X_ast rfl (L' := [_, _, _, _, _]) rfl <| X_ild rfl <| X_i <| X_i <| X_nil) (vs := [_, _, _]) (rest := []) rfl rfl rfl rfl (c_wN (by omega) (by decide) (by decide) h1) ?_
      refine Rn.ieq rfl (X_nil) (by first | omega | (simp (disch := omega) only [um_eq, um_na, um_ni, Int.toNat_natCast]; omega)) (fun hc => ?_) (fun hc => absurd hc (by first | omega | decide | (simp (disch := omega) only [um_eq, um_na, um_ni, Int.toNat_natCast]; omega)))
      refine Rn.cal rfl (X_ald rfl <| X_i <| X_nil) (vs := [_, _]) (rest := []) rfl rfl rfl (rcv_v hX.ob (by decide)) (c_bad hX) ?_
      refine Rn.ri rfl (X_nil) rfl
    · refine Rn.cal rfl (X_ild rfl <| X_i2l (by first | omega | (simp (disch := omega) only [um_eq, um_na, um_ni, Int.toNat_natCast]; omega)) <| X_l <| X_l <| X_nil) (vs := [_, _, _]) (rest := []) rfl rfl rfl rfl (c_iN (by omega) (by decide) (by decide) h1) ?_
      refine Rn.ieq rfl (X_nil) (by first | omega | (simp (disch := omega) only [um_eq, um_na, um_ni, Int.toNat_natCast]; omega)) (fun hc => ?_) (fun hc => absurd hc (by first | omega | decide | (simp (disch := omega) only [um_eq, um_na, um_ni, Int.toNat_natCast]; omega)))
      refine Rn.cal rfl (X_ald rfl <| X_nil) (vs := [_]) (rest := []) rfl rfl rfl (rcv_v hM.ob (by decide)) (c_mbad hM) ?_
      refine Rn.ri rfl (X_nil) rfl
end Ops2
