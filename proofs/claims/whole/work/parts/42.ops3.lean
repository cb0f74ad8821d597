/-! THINGS, CORD -/
section Ops3
variable {S : List Int} {T : List Sh} {M N : Nat → Int → Int} {K : Nat}
theorem op_things {c n : Int} (g : Gl T M K) (ic : I32 c) (i_n : I32 n) : Op S 70 131 [vI c, vI n] T M K := by
  have hX := g.x
  have hM := g.m
  have hS := hX.s1
  have hw := g.w
  have hm := g.wm
  obtain ⟨f0, f1, f2, f3, f4, f5, f6⟩ := g.rg.fl.1
  have f6 : ∀ c, 0 ≤ c → c < 49 → 0 ≤ M 3 c ∧ M 3 c ≤ 9 := f6
  have hn : 1 ≤ M 2 0 * M 2 1 ∧ M 2 0 * M 2 1 ≤ 49 := g.rg.fl.1.n
  by_cases h1 : 0 ≤ c ∧ c ≤ M 2 0 * M 2 1 - 1
  · by_cases h2 : 0 ≤ n ∧ n ≤ 9
    · have cb := c_becomes (S := S) (M := um (um M 3 c n) 2 8 (-1)) (a := 10 + c) (v := n) hM (by omega) (by omega)
      have et : M 77 (10 + c) = M 3 c := by
        have := g.rg.t c (by omega) (by omega)
        rw [Int.zero_add] at this
        exact this.symm
      rw [um_na (by decide), um_na (by decide), et] at cb
      have ci : Cl S 124 [vR 76, vI 0, vI c] (T, um (um M 3 c n) 2 8 (-1)) (some (vI 1), (T, um (um M 3 c n) 2 8 (-1))) := c_icY hM (by rw [um_na (by decide), um_na (by decide)]; exact hm.1) (by rw [um_na (by decide), um_na (by decide)]; exact hm.2) hw.1 hw.2 ic h1
      have v9 := f6 c (by omega) (by omega)
      have ep := c_putThings (S := S) (M := M) (n := n) hS (c := c) (by omega) (by omega)
      have e2 : ∀ k, k ≠ 8 → um (um (um M 3 c n) 2 8 (-1)) 77 (10 + c) n 2 k = M 2 k := fun k h8 => by rw [um_na (by decide), um_ni h8, um_na (by decide)]
      refine ⟨M 3 c, T, um (um M 3 c n) 2 8 (-1), _, by omega, ⟨_, rfl, ?_⟩, ⟨_, rfl, ?_⟩, g.flo (N := um (um (um M 3 c n) 2 8 (-1)) 77 (10 + c) n) (fun a a1 a2 a3 => by rw [um_fn a3, um_fn a1, um_fn a2]) (fun k hk => by rw [um_ni (by omega), um_na (by decide), um_na (by decide)]) (fun k k0 k6 => ?_) (fun d d0 d1 => ?_) ⟨FlOk.of ?_ ?_ ?_ ?_ ?_ ?_ ?_, Or.inl ?_⟩⟩
      · refine Rn.cal rfl (X_ald rfl <| X_gr 7 0 hX.ob ⟨rfl, rfl⟩ rfl rfl <| X_gr 6 0 hX.s1.st ⟨rfl, rfl⟩ rfl rfl <| X_ast rfl (L' := [_, _, _, _, _]) rfl <| X_ald rfl <| X_ild rfl <| X_nil) (vs := [_, _]) (rest := []) rfl rfl rfl (rcv_v hX.s1.fl (by decide)) (c_fhY hX hw.1 hw.2 ic h1) ?_
        refine Rn.ieq rfl (X_nil) (by first | omega | (simp (disch := omega) only [um_eq, um_na, um_ni, Int.toNat_natCast]; omega)) (fun hc => absurd hc (by first | omega | decide | (simp (disch := omega) only [um_eq, um_na, um_ni, Int.toNat_natCast]; omega))) (fun hc => ?_)
        refine Rn.cal rfl (X_ild rfl <| X_i <| X_i <| X_nil) (vs := [_, _, _]) (rest := []) rfl rfl rfl rfl (c_wY (by omega) (by decide) (by decide) h2) ?_
        refine Rn.ine rfl (X_nil) (by first | omega | (simp (disch := omega) only [um_eq, um_na, um_ni, Int.toNat_natCast]; omega)) (fun hc => ?_) (fun hc => absurd hc (by first | omega | decide | (simp (disch := omega) only [um_eq, um_na, um_ni, Int.toNat_natCast]; omega)))
        refine Rn.cal rfl (X_ald rfl <| X_gr 1 6 hX.s1.fl ⟨rfl, rfl⟩ rfl rfl <| X_ild rfl <| X_ia hX.s1.th (by first | omega | (simp (disch := omega) only [um_eq, um_na, um_ni, Int.toNat_natCast]; omega)) (by first | omega | (simp (disch := omega) only [um_eq, um_na, um_ni, Int.toNat_natCast]; omega)) rfl <| X_ist rfl (L' := [_, _, _, _, _]) rfl <| X_ald rfl <| X_ild rfl <| X_ild rfl <| X_nil) (vs := [_, _, _]) (rest := []) rfl rfl rfl (rcv_v hX.s1.fl (by decide)) (ep) ?_
        refine Rn.ri rfl (X_ild rfl <| X_nil) rfl
      · refine Rn.cal rfl (X_ald rfl <| X_i <| X_ild rfl <| X_nil) (vs := [_, _, _]) (rest := []) rfl rfl rfl (rcv_v hM.ob (by decide)) (ci) ?_
        refine Rn.ieq rfl (X_nil) (by first | omega | (simp (disch := omega) only [um_eq, um_na, um_ni, Int.toNat_natCast]; omega)) (fun hc => absurd hc (by first | omega | decide | (simp (disch := omega) only [um_eq, um_na, um_ni, Int.toNat_natCast]; omega))) (fun hc => ?_)
        refine Rn.cal rfl (X_ild rfl <| X_i2l (by first | omega | (simp (disch := omega) only [um_eq, um_na, um_ni, Int.toNat_natCast]; omega)) <| X_l <| X_l <| X_nil) (vs := [_, _, _]) (rest := []) rfl rfl rfl rfl (c_iY (by omega) (by decide) (by decide) h2) ?_
        refine Rn.ieq rfl (X_nil) (by first | omega | (simp (disch := omega) only [um_eq, um_na, um_ni, Int.toNat_natCast]; omega)) (fun hc => absurd hc (by first | omega | decide | (simp (disch := omega) only [um_eq, um_na, um_ni, Int.toNat_natCast]; omega))) (fun hc => ?_)
        refine Rn.cal rfl (X_ald rfl <| X_i <| X_ild rfl <| X_add <| X_ild rfl <| X_nil) (vs := [_, _, _]) (rest := []) rfl rfl rfl (rcv_v hM.ob (by decide)) (cb) ?_
        refine Rn.jto rfl (X_nil) ?_
        refine Rn.ri rfl (X_nil) rfl
      · rw [e2 k (by omega), um_ni (by omega), um_na (by decide), um_na (by decide)]
        exact (g.flI k0 k6).symm
      · rw [um_na (by decide), um_na (by decide)]
        by_cases ed : d = c
        · subst ed
          rw [um_eq, um_eq]
        · rw [um_ni ed, um_ni (by omega), um_na (by decide), um_na (by decide)]
          have := g.rg.t d d0 d1
          rw [Int.zero_add] at this
          exact this
      · show 1 ≤ um (um (um M 3 c n) 2 8 (-1)) 77 (10 + c) n 2 0 ∧ um (um (um M 3 c n) 2 8 (-1)) 77 (10 + c) n 2 0 ≤ 7
        rw [e2 0 (by decide)]; exact f0
      · show 1 ≤ um (um (um M 3 c n) 2 8 (-1)) 77 (10 + c) n 2 1 ∧ um (um (um M 3 c n) 2 8 (-1)) 77 (10 + c) n 2 1 ≤ 7
        rw [e2 1 (by decide)]; exact f1
      · show 0 ≤ um (um (um M 3 c n) 2 8 (-1)) 77 (10 + c) n 2 2 ∧ um (um (um M 3 c n) 2 8 (-1)) 77 (10 + c) n 2 2 < um (um (um M 3 c n) 2 8 (-1)) 77 (10 + c) n 2 0 * um (um (um M 3 c n) 2 8 (-1)) 77 (10 + c) n 2 1
        rw [e2 0 (by decide), e2 1 (by decide), e2 2 (by decide)]; exact f2
      · show 0 ≤ um (um (um M 3 c n) 2 8 (-1)) 77 (10 + c) n 2 3 ∧ um (um (um M 3 c n) 2 8 (-1)) 77 (10 + c) n 2 3 < um (um (um M 3 c n) 2 8 (-1)) 77 (10 + c) n 2 0 * um (um (um M 3 c n) 2 8 (-1)) 77 (10 + c) n 2 1
        rw [e2 0 (by decide), e2 1 (by decide), e2 3 (by decide)]; exact f3
      · show 0 ≤ um (um (um M 3 c n) 2 8 (-1)) 77 (10 + c) n 2 4 ∧ um (um (um M 3 c n) 2 8 (-1)) 77 (10 + c) n 2 4 ≤ 127
        rw [e2 4 (by decide)]; exact f4
      · show 0 ≤ um (um (um M 3 c n) 2 8 (-1)) 77 (10 + c) n 2 5 ∧ um (um (um M 3 c n) 2 8 (-1)) 77 (10 + c) n 2 5 ≤ 1
        rw [e2 5 (by decide)]; exact f5
      · intro d d0 d1
        show 0 ≤ um (um (um M 3 c n) 2 8 (-1)) 77 (10 + c) n 3 d ∧ um (um (um M 3 c n) 2 8 (-1)) 77 (10 + c) n 3 d ≤ 9
        rw [um_na (by decide), um_na (by decide)]
        by_cases ed : d = c
        · subst ed
          rw [um_eq]; exact h2
        · rw [um_ni ed]; exact f6 d d0 d1
      · show um (um (um M 3 c n) 2 8 (-1)) 77 (10 + c) n 2 8 = -1
        rw [um_na (by decide), um_eq]
    · have ci : Cl S 124 [vR 76, vI 0, vI c] (T, um M 59 0 (M 59 0 + 1)) (some (vI 1), (T, um M 59 0 (M 59 0 + 1))) := c_icY hM (by rw [um_na (by decide)]; exact hm.1) (by rw [um_na (by decide)]; exact hm.2) hw.1 hw.2 ic h1
      refine Op.bad1 (v := -2) (k := 0) g (by decide) (by decide) (by decide) ⟨_, rfl, ?_⟩ ⟨_, rfl, ?_⟩
      · refine Rn.cal rfl (X_ald rfl <| X_gr 7 0 hX.ob ⟨rfl, rfl⟩ rfl rfl <| X_gr 6 0 hX.s1.st ⟨rfl, rfl⟩ rfl rfl <| X_ast rfl (L' := [_, _, _, _, _]) rfl <| X_ald rfl <| X_ild rfl <| X_nil) (vs := [_, _]) (rest := []) rfl rfl rfl (rcv_v hX.s1.fl (by decide)) (c_fhY hX hw.1 hw.2 ic h1) ?_
        refine Rn.ieq rfl (X_nil) (by first | omega | (simp (disch := omega) only [um_eq, um_na, um_ni, Int.toNat_natCast]; omega)) (fun hc => absurd hc (by first | omega | decide | (simp (disch := omega) only [um_eq, um_na, um_ni, Int.toNat_natCast]; omega))) (fun hc => ?_)
        refine Rn.cal rfl (X_ild rfl <| X_i <| X_i <| X_nil) (vs := [_, _, _]) (rest := []) rfl rfl rfl rfl (c_wN (by omega) (by decide) (by decide) h2) ?_
        refine Rn.ine rfl (X_nil) (by first | omega | (simp (disch := omega) only [um_eq, um_na, um_ni, Int.toNat_natCast]; omega)) (fun hc => absurd hc (by first | omega | decide | (simp (disch := omega) only [um_eq, um_na, um_ni, Int.toNat_natCast]; omega))) (fun hc => ?_)
        refine Rn.cal rfl (X_ald rfl <| X_i <| X_nil) (vs := [_, _]) (rest := []) rfl rfl rfl (rcv_v hX.ob (by decide)) (c_bad hX) ?_
        refine Rn.ri rfl (X_nil) rfl
      · refine Rn.cal rfl (X_ald rfl <| X_i <| X_ild rfl <| X_nil) (vs := [_, _, _]) (rest := []) rfl rfl rfl (rcv_v hM.ob (by decide)) (ci) ?_
        refine Rn.ieq rfl (X_nil) (by first | omega | (simp (disch := omega) only [um_eq, um_na, um_ni, Int.toNat_natCast]; omega)) (fun hc => absurd hc (by first | omega | decide | (simp (disch := omega) only [um_eq, um_na, um_ni, Int.toNat_natCast]; omega))) (fun hc => ?_)
        refine Rn.cal rfl (X_ild rfl <| X_i2l (by first | omega | (simp (disch := omega) only [um_eq, um_na, um_ni, Int.toNat_natCast]; omega)) <| X_l <| X_l <| X_nil) (vs := [_, _, _]) (rest := []) rfl rfl rfl rfl (c_iN (by omega) (by decide) (by decide) h2) ?_
        refine Rn.ieq rfl (X_nil) (by first | omega | (simp (disch := omega) only [um_eq, um_na, um_ni, Int.toNat_natCast]; omega)) (fun hc => ?_) (fun hc => absurd hc (by first | omega | decide | (simp (disch := omega) only [um_eq, um_na, um_ni, Int.toNat_natCast]; omega)))
        refine Rn.cal rfl (X_ald rfl <| X_nil) (vs := [_]) (rest := []) rfl rfl rfl (rcv_v hM.ob (by decide)) (c_mbad hM) ?_
        refine Rn.ri rfl (X_nil) rfl
  · have ci : Cl S 124 [vR 76, vI 0, vI c] (T, um M 59 0 (M 59 0 + 1)) (some (vI 0), (T, um M 59 0 (M 59 0 + 1))) := c_icN hM (by rw [um_na (by decide)]; exact hm.1) (by rw [um_na (by decide)]; exact hm.2) hw.1 hw.2 ic h1
    refine Op.bad1 (v := -2) (k := 0) g (by decide) (by decide) (by decide) ⟨_, rfl, ?_⟩ ⟨_, rfl, ?_⟩
    · refine Rn.cal rfl (X_ald rfl <| X_gr 7 0 hX.ob ⟨rfl, rfl⟩ rfl rfl <| X_gr 6 0 hX.s1.st ⟨rfl, rfl⟩ rfl rfl <| X_ast rfl (L' := [_, _, _, _, _]) rfl <| X_ald rfl <| X_ild rfl <| X_nil) (vs := [_, _]) (rest := []) rfl rfl rfl (rcv_v hX.s1.fl (by decide)) (c_fhN hX hw.1 hw.2 ic h1) ?_
      refine Rn.ieq rfl (X_nil) (by first | omega | (simp (disch := omega) only [um_eq, um_na, um_ni, Int.toNat_natCast]; omega)) (fun hc => ?_) (fun hc => absurd hc (by first | omega | decide | (simp (disch := omega) only [um_eq, um_na, um_ni, Int.toNat_natCast]; omega)))
      refine Rn.cal rfl (X_ald rfl <| X_i <| X_nil) (vs := [_, _]) (rest := []) rfl rfl rfl (rcv_v hX.ob (by decide)) (c_bad hX) ?_
      refine Rn.ri rfl (X_nil) rfl
    · refine Rn.cal rfl (X_ald rfl <| X_i <| X_ild rfl <| X_nil) (vs := [_, _, _]) (rest := []) rfl rfl rfl (rcv_v hM.ob (by decide)) (ci) ?_
      refine Rn.ieq rfl (X_nil) (by first | omega | (simp (disch := omega) only [um_eq, um_na, um_ni, Int.toNat_natCast]; omega)) (fun hc => ?_) (fun hc => absurd hc (by first | omega | decide | (simp (disch := omega) only [um_eq, um_na, um_ni, Int.toNat_natCast]; omega)))
      refine Rn.cal rfl (X_ald rfl <| X_nil) (vs := [_]) (rest := []) rfl rfl rfl (rcv_v hM.ob (by decide)) (c_mbad hM) ?_
      refine Rn.ri rfl (X_nil) rfl
theorem op_cord {c : Int} (g : Gl T M K) (ic : I32 c) : Op S 72 133 [vI c] T M K := by
  have hX := g.x
  have hM := g.m
  have hS := hX.s1
  obtain ⟨f0, f1, f2, f3, f4, f5, f6⟩ := g.rg.fl.1
  have fw := g.rg.fl.2
  have f5' : 0 ≤ M 2 5 ∧ M 2 5 ≤ 1 := f5
  by_cases h1 : 0 ≤ c ∧ c ≤ 1
  · have cb := c_becomes (S := S) (M := um M 2 5 c) (a := 5) (v := c) hM (by decide) (by decide)
    rw [um_na (by decide), g.flI (by decide) (by decide)] at cb
    have e2 : ∀ k, k ≠ 5 → um (um M 2 5 c) 77 5 c 2 k = M 2 k := fun k h5 => by rw [um_na (by decide), um_ni h5]
    have e3 : um (um M 2 5 c) 77 5 c 3 = M 3 := by rw [um_fn (by decide), um_fn (by decide)]
    refine ⟨M 2 5, T, um M 2 5 c, _, by omega, ⟨_, rfl, ?_⟩, ⟨_, rfl, ?_⟩, g.flo (N := um (um M 2 5 c) 77 5 c) (fun a a1 a2 a3 => by rw [um_fn a3, um_fn a1]) (fun k hk => by rw [um_ni (by omega), um_na (by decide)]) (fun k k0 k6 => ?_) (fun d d0 d1 => ?_) ⟨FlOk.of ?_ ?_ ?_ ?_ ?_ ?_ ?_, ?_⟩⟩
    · refine Rn.cal rfl (X_ild rfl <| X_i <| X_i <| X_nil) (vs := [_, _, _]) (rest := []) rfl rfl rfl rfl (c_wY (by omega) (by decide) (by decide) h1) ?_
      refine Rn.ine rfl (X_nil) (by first | omega | (simp (disch := omega) only [um_eq, um_na, um_ni, Int.toNat_natCast]; omega)) (fun hc => ?_) (fun hc => absurd hc (by first | omega | decide | (simp (disch := omega) only [um_eq, um_na, um_ni, Int.toNat_natCast]; omega)))
      refine Rn.ri rfl (X_ald rfl <| X_gr 7 0 hX.ob ⟨rfl, rfl⟩ rfl rfl <| X_gr 6 0 hX.s1.st ⟨rfl, rfl⟩ rfl rfl <| X_gi 1 5 5 hX.s1.fl ⟨rfl, rfl, rfl⟩ (Or.inl rfl) <| X_ist rfl (L' := [_, _, _]) rfl <| X_ald rfl <| X_gr 7 0 hX.ob ⟨rfl, rfl⟩ rfl rfl <| X_gr 6 0 hX.s1.st ⟨rfl, rfl⟩ rfl rfl <| X_ild rfl <| X_pi 1 5 5 hX.s1.fl ⟨rfl, rfl, rfl⟩ (Or.inl rfl) <| X_ild rfl <| X_nil) rfl
    · refine Rn.cal rfl (X_ild rfl <| X_i2l (by first | omega | (simp (disch := omega) only [um_eq, um_na, um_ni, Int.toNat_natCast]; omega)) <| X_l <| X_l <| X_nil) (vs := [_, _, _]) (rest := []) rfl rfl rfl rfl (c_iY (by omega) (by decide) (by decide) h1) ?_
      refine Rn.ieq rfl (X_nil) (by first | omega | (simp (disch := omega) only [um_eq, um_na, um_ni, Int.toNat_natCast]; omega)) (fun hc => absurd hc (by first | omega | decide | (simp (disch := omega) only [um_eq, um_na, um_ni, Int.toNat_natCast]; omega))) (fun hc => ?_)
      refine Rn.cal rfl (X_ald rfl <| X_i <| X_ild rfl <| X_nil) (vs := [_, _, _]) (rest := []) rfl rfl rfl (rcv_v hM.ob (by decide)) (cb) ?_
      refine Rn.jto rfl (X_nil) ?_
      refine Rn.ri rfl (X_nil) rfl
    · by_cases ek : k = 5
      · subst ek
        rw [um_na (by decide), um_eq, um_eq]
      · rw [e2 k ek, um_ni ek, um_na (by decide)]
        exact (g.flI k0 k6).symm
    · rw [e3, um_ni (by omega), um_na (by decide)]
      have := g.rg.t d d0 d1
      rw [Int.zero_add] at this
      exact this
    · show 1 ≤ um (um M 2 5 c) 77 5 c 2 0 ∧ um (um M 2 5 c) 77 5 c 2 0 ≤ 7
      rw [e2 0 (by decide)]; exact f0
    · show 1 ≤ um (um M 2 5 c) 77 5 c 2 1 ∧ um (um M 2 5 c) 77 5 c 2 1 ≤ 7
      rw [e2 1 (by decide)]; exact f1
    · show 0 ≤ um (um M 2 5 c) 77 5 c 2 2 ∧ um (um M 2 5 c) 77 5 c 2 2 < um (um M 2 5 c) 77 5 c 2 0 * um (um M 2 5 c) 77 5 c 2 1
      rw [e2 0 (by decide), e2 1 (by decide), e2 2 (by decide)]; exact f2
    · show 0 ≤ um (um M 2 5 c) 77 5 c 2 3 ∧ um (um M 2 5 c) 77 5 c 2 3 < um (um M 2 5 c) 77 5 c 2 0 * um (um M 2 5 c) 77 5 c 2 1
      rw [e2 0 (by decide), e2 1 (by decide), e2 3 (by decide)]; exact f3
    · show 0 ≤ um (um M 2 5 c) 77 5 c 2 4 ∧ um (um M 2 5 c) 77 5 c 2 4 ≤ 127
      rw [e2 4 (by decide)]; exact f4
    · show 0 ≤ um (um M 2 5 c) 77 5 c 2 5 ∧ um (um M 2 5 c) 77 5 c 2 5 ≤ 1
      rw [um_na (by decide), um_eq]; exact h1
    · show ∀ d, 0 ≤ d → d < 49 → 0 ≤ um (um M 2 5 c) 77 5 c 3 d ∧ um (um M 2 5 c) 77 5 c 3 d ≤ 9
      rw [e3]; exact f6
    · rcases fw with fw | ⟨v, w1, w2⟩
      · exact Or.inl (by show um (um M 2 5 c) 77 5 c 2 8 = -1; rw [e2 8 (by decide)]; exact fw)
      · refine Or.inr ⟨v, ?_, ?_⟩
        · show WayIs (um (um M 2 5 c) 77 5 c) 1 (um (um M 2 5 c) 77 5 c 2 3).toNat (um (um M 2 5 c) 77 5 c 2 2).toNat v
          rw [e2 3 (by decide), e2 2 (by decide), WayIs_cg (M := M) (b := 1) (e2 0 (by decide)) (e2 1 (by decide)) (e2 4 (by decide)) e3]
          exact w1
        · show um (um M 2 5 c) 77 5 c 2 8 = 2 * v
          rw [e2 8 (by decide)]; exact w2
  · refine Op.bad (v := -2) (k := 0) g (by decide) (by decide) (by decide) ⟨_, rfl, ?_⟩ (fun M1 h80 => ⟨_, rfl, ?_⟩) trivial
    · refine Rn.cal rfl (X_ild rfl <| X_i <| X_i <| X_nil) (vs := [_, _, _]) (rest := []) rfl rfl rfl rfl (c_wN (by omega) (by decide) (by decide) h1) ?_
      refine Rn.ine rfl (X_nil) (by first | omega | (simp (disch := omega) only [um_eq, um_na, um_ni, Int.toNat_natCast]; omega)) (fun hc => absurd hc (by first | omega | decide | (simp (disch := omega) only [um_eq, um_na, um_ni, Int.toNat_natCast]; omega))) (fun hc => ?_)
      refine Rn.cal rfl (X_ald rfl <| X_i <| X_nil) (vs := [_, _]) (rest := []) rfl rfl rfl (rcv_v hX.ob (by decide)) (c_bad hX) ?_
      refine Rn.ri rfl (X_nil) rfl
    · refine Rn.cal rfl (X_ild rfl <| X_i2l (by first | omega | (simp (disch := omega) only [um_eq, um_na, um_ni, Int.toNat_natCast]; omega)) <| X_l <| X_l <| X_nil) (vs := [_, _, _]) (rest := []) rfl rfl rfl rfl (c_iN (by omega) (by decide) (by decide) h1) ?_
      refine Rn.ieq rfl (X_nil) (by first | omega | (simp (disch := omega) only [um_eq, um_na, um_ni, Int.toNat_natCast]; omega)) (fun hc => ?_) (fun hc => absurd hc (by first | omega | decide | (simp (disch := omega) only [um_eq, um_na, um_ni, Int.toNat_natCast]; omega)))
      refine Rn.cal rfl (X_ald rfl <| X_nil) (vs := [_]) (rest := []) rfl rfl rfl (rcv_v hM.ob (by decide)) (c_mbad hM) ?_
      refine Rn.ri rfl (X_nil) rfl
end Ops3
