/-! CALLS THAT CHANGE THE ROOM -/
section Ops1
variable {S : List Int} {T : List Sh} {M N C C' : Nat → Int → Int} {b : Nat} {W W' : Int → Int} {r : Int} {K K' : Nat}
theorem Kept.of (h : ∀ a, (a = 0 ∨ a = 56 ∨ a = 57 ∨ a = 78 ∨ a = 79 ∨ 88 ≤ a) → N a = M a) (h3 : N 76 3 = M 76 3) (h5 : N 76 5 = M 76 5) (h6 : N 76 6 = M 76 6) (h77 : ∀ k, 187 ≤ k → k < 561 → N 77 k = M 77 k) : Kept M N :=
  ⟨⟨by rw [h 56 (by omega)], h 57 (by omega), h3, h 79 (by omega)⟩, ⟨by rw [h 0 (by omega)], by rw [h 0 (by omega)], h5, h6⟩, h 78 (by omega), h77, fun a ha => h a (by omega)⟩
theorem Rg.floor (h : Rg C b W r K) (hK : K ≤ K') (hc : ∀ a, b + 4 ≤ a → a < b + 26 → C' a = C a) (hw : ∀ k, (6 ≤ k ∧ k < 10) ∨ (59 ≤ k ∧ k < 187) → W' (r + k) = W (r + k)) (hf : ∀ k, 0 ≤ k → k < 6 → C' (b + 1) k = W' (r + k)) (ht : ∀ c, 0 ≤ c → c < 49 → C' (b + 2) c = W' (r + 10 + c)) (hl : FlNo C' b) : Rg C' b W' r K' := by
  have z4 := h.z4
  have u8 := h.u8
  have m8 := h.m8
  have n4 := h.n4
  have e4 := hc (b + 4) (by omega) (by omega)
  have e23 := hc (b + 23) (by omega) (by omega)
  have e24 := hc (b + 24) (by omega) (by omega)
  have e25 := hc (b + 25) (by omega) (by omega)
  have hw' : ∀ j : Int, (r + 6 ≤ j ∧ j < r + 10) ∨ (r + 59 ≤ j ∧ j < r + 187) → W' j = W j := fun j hj => by
    have := hw (j - r) (by omega)
    rw [show r + (j - r) = j by omega] at this
    exact this
  unfold Rg
  rw [e4, e23, e24, e25]
  refine ⟨hf, ht, ?_, ?_, ?_, ?_, ?_, ?_, ?_, hl, z4, by omega, u8, m8, ?_⟩
  · rw [hw' _ (by omega)]; exact h.z
  · rw [hw' _ (by omega)]; exact h.m
  · rw [hw' _ (by omega)]; exact h.n
  · rw [hw' _ (by omega)]; exact h.u
  · intro i hi k k0 k8
    rw [hc (b + 16 + 2 * i) (by omega) (by omega), hw' _ (by omega)]
    exact h.s i hi k k0 k8
  · intro i i0 i1
    rw [hw' (r + 91 + i) (by omega), hw' (r + 99 + i) (by omega)]
    exact h.no i i0 i1
  · intro i hi
    have e := h.p i hi
    have ea : rowA C' b i = rowA C b i := by unfold rowA; rw [e4]
    have hk : ((C (b + 4) 2 - C (b + 4) 3 + (i : Int)) % 8).toNat < 8 := by omega
    rw [ea]
    have er : C' (rowA C b i) = C (rowA C b i) := hc _ (by unfold rowA; omega) (by unfold rowA; omega)
    unfold RowOk at e ⊢
    rw [er, e4, hw' (r + 107 + 10 * (i : Int) + 9) (by omega), hw' (r + 107 + 10 * (i : Int) + 8) (by omega)]
    obtain ⟨e1, e2, e3, e5⟩ := e
    refine ⟨e1, e2, e3, fun s hs => ?_⟩
    rw [hw' (r + 107 + 10 * (i : Int) + s) (by omega), hw' (r + 107 + 10 * (i : Int) + 4 + s) (by omega)]
    obtain ⟨q1, q2, q3⟩ := e5 s hs
    exact ⟨q1, by omega, by omega⟩
  · intro i hi
    exact TrB_pw hK (fun k _ _ => by rw [hc (b + 16 + 2 * i) (by omega) (by omega)]) (h.tr i hi)
/-- what a floor's row of six must keep -/
theorem FlOk.of (h0 : 1 ≤ C (b + 1) 0 ∧ C (b + 1) 0 ≤ 7) (h1 : 1 ≤ C (b + 1) 1 ∧ C (b + 1) 1 ≤ 7) (h2 : 0 ≤ C (b + 1) 2 ∧ C (b + 1) 2 < C (b + 1) 0 * C (b + 1) 1) (h3 : 0 ≤ C (b + 1) 3 ∧ C (b + 1) 3 < C (b + 1) 0 * C (b + 1) 1) (h4 : 0 ≤ C (b + 1) 4 ∧ C (b + 1) 4 ≤ 127) (h5 : 0 ≤ C (b + 1) 5 ∧ C (b + 1) 5 ≤ 1) (h6 : ∀ c, 0 ≤ c → c < 49 → 0 ≤ C (b + 2) c ∧ C (b + 2) c ≤ 9) : FlOk C b := ⟨h0, h1, h2, h3, h4, h5, h6⟩
theorem Gl.w (g : Gl T M K) : (1 ≤ M 2 0 ∧ M 2 0 ≤ 7) ∧ (1 ≤ M 2 1 ∧ M 2 1 ≤ 7) := ⟨g.rg.fl.1.1, g.rg.fl.1.2.1⟩
theorem Gl.wm (g : Gl T M K) : M 77 0 = M 2 0 ∧ M 77 1 = M 2 1 := by
  have h0 := g.rg.f 0 (by decide) (by decide)
  have h1 := g.rg.f 1 (by decide) (by decide)
  exact ⟨h0.symm, h1.symm⟩
theorem op_room {w hh : Int} (g : Gl T M K) (iw : I32 w) (ih : I32 hh) : Op S 68 128 [vI w, vI hh] T M K := by
  have hX := g.x
  have hM := g.m
  by_cases h1 : 1 ≤ w ∧ w ≤ 7
  · by_cases h2 : 1 ≤ hh ∧ hh ≤ 7
    · obtain ⟨M1, c1, ⟨f0, f1, f2, f3, f4, f5, f8, ft⟩, ⟨b1, b2, b3⟩, bn, fr⟩ := c_startAnew (S := S) (M := M) (w := w) (h := hh) hX.s1
      obtain ⟨M2, c2, ⟨m0, m1, m3, mk⟩, mo, mf⟩ := c_begins (S := S) (M := M1) (r := 0) (w := w) (hh := hh) hM (by decide) (by decide)
      have p1 : w * hh ≤ 7 * 7 := Int.mul_le_mul h1.2 h2.2 (by omega) (by omega)
      have p0 : 1 * 1 ≤ w * hh := Int.mul_le_mul h1.1 h2.1 (by omega) (by omega)
      refine ⟨1, T, M1, M2, by decide, ⟨_, rfl, ?_⟩, ⟨_, rfl, ?_⟩, ?_⟩
      · refine Rn.cal rfl (X_ild rfl <| X_i <| X_i <| X_nil) (vs := [_, _, _]) (rest := []) rfl rfl rfl rfl (c_wY (by omega) (by decide) (by decide) h1) ?_
        refine Rn.ieq rfl (X_nil) (by first | omega | (simp (disch := omega) only [um_eq, um_na, um_ni, Int.toNat_natCast]; omega)) (fun hc => absurd hc (by first | omega | decide | (simp (disch := omega) only [um_eq, um_na, um_ni, Int.toNat_natCast]; omega))) (fun hc => ?_)
        refine Rn.cal rfl (X_ild rfl <| X_i <| X_i <| X_nil) (vs := [_, _, _]) (rest := []) rfl rfl rfl rfl (c_wY (by omega) (by decide) (by decide) h2) ?_
        refine Rn.ine rfl (X_nil) (by first | omega | (simp (disch := omega) only [um_eq, um_na, um_ni, Int.toNat_natCast]; omega)) (fun hc => ?_) (fun hc => absurd hc (by first | omega | decide | (simp (disch := omega) only [um_eq, um_na, um_ni, Int.toNat_natCast]; omega)))
        refine Rn.cal rfl (X_ald rfl <| X_gr 7 0 hX.ob ⟨rfl, rfl⟩ rfl rfl <| X_ild rfl <| X_ild rfl <| X_nil) (vs := [_, _, _]) (rest := []) rfl rfl rfl (rcv_v hX.s1.st (by decide)) (c1) ?_
        refine Rn.ri rfl (X_i <| X_nil) rfl
      · refine Rn.cal rfl (X_ild rfl <| X_i2l (by first | omega | (simp (disch := omega) only [um_eq, um_na, um_ni, Int.toNat_natCast]; omega)) <| X_l <| X_l <| X_nil) (vs := [_, _, _]) (rest := []) rfl rfl rfl rfl (c_iY (by omega) (by decide) (by decide) h1) ?_
        refine Rn.ieq rfl (X_nil) (by first | omega | (simp (disch := omega) only [um_eq, um_na, um_ni, Int.toNat_natCast]; omega)) (fun hc => absurd hc (by first | omega | decide | (simp (disch := omega) only [um_eq, um_na, um_ni, Int.toNat_natCast]; omega))) (fun hc => ?_)
        refine Rn.cal rfl (X_ild rfl <| X_i2l (by first | omega | (simp (disch := omega) only [um_eq, um_na, um_ni, Int.toNat_natCast]; omega)) <| X_l <| X_l <| X_nil) (vs := [_, _, _]) (rest := []) rfl rfl rfl rfl (c_iY (by omega) (by decide) (by decide) h2) ?_
        refine Rn.ine rfl (X_nil) (by first | omega | (simp (disch := omega) only [um_eq, um_na, um_ni, Int.toNat_natCast]; omega)) (fun hc => ?_) (fun hc => absurd hc (by first | omega | decide | (simp (disch := omega) only [um_eq, um_na, um_ni, Int.toNat_natCast]; omega)))
        refine Rn.cal rfl (X_ald rfl <| X_i <| X_ild rfl <| X_ild rfl <| X_nil) (vs := [_, _, _, _]) (rest := []) rfl rfl rfl (rcv_v hM.ob (by decide)) (c2) ?_
        refine Rn.ri rfl (X_i <| X_nil) rfl
      · have e : ∀ a, a ≠ 2 → a ≠ 3 → a ≠ 5 → a ≠ 24 → a ≠ 77 → M2 a = M a := fun a a1 a2 a3 a4 a5 => by rw [mf a a5, fr a a1 a2 a3 a4]
        have e76 := e 76 (by decide) (by decide) (by decide) (by decide) (by decide)
        refine g.upd (Kept.of (fun a ha => e a (by omega) (by omega) (by omega) (by omega) (by omega)) (by rw [e76]) (by rw [e76]) (by rw [e76]) (fun k k0 k1 => by rw [mo k (by omega), fr 77 (by decide) (by decide) (by decide) (by decide)])) ?_ (g.re.cg (e _ (by decide) (by decide) (by decide) (by decide) (by decide)) (e _ (by decide) (by decide) (by decide) (by decide) (by decide)) (by omega)) (by omega)
        have n2 : M2 2 = M1 2 := mf _ (by decide)
        have n3 : M2 3 = M1 3 := mf _ (by decide)
        have n5 : M2 5 = M1 5 := mf _ (by decide)
        have n24 : M2 24 = M1 24 := mf _ (by decide)
        have mk' : ∀ k, 0 ≤ k → k < 187 → k ≠ 0 → k ≠ 1 → k ≠ 3 → M2 77 k = 0 := fun k a b c d e => by
          have := mk k a b c d e
          rw [Int.zero_add] at this
          exact this
        unfold Rg
        show (∀ k, 0 ≤ k → k < 6 → M2 2 k = M2 77 (0 + k)) ∧ (∀ c, 0 ≤ c → c < 49 → M2 3 c = M2 77 (0 + 10 + c)) ∧ M2 5 1 = M2 77 6 ∧ M2 24 0 = M2 77 7 ∧ M2 5 2 = M2 77 8 ∧ M2 5 3 = M2 77 9 ∧ (∀ i : Nat, (i : Int) < M2 5 1 → ∀ k, 0 ≤ k → k < 8 → M2 (1 + 16 + 2 * i) k = M2 77 (0 + 59 + 4 * k + (i : Int))) ∧ (∀ i, 0 ≤ i → i < M2 24 0 → (M2 25 i = M2 77 (0 + 91 + i) ∧ M2 26 i = M2 77 (0 + 99 + i)) ∧ (0 ≤ M2 25 i ∧ M2 25 i ≤ 3) ∧ (0 ≤ M2 26 i ∧ M2 26 i ≤ 15)) ∧ (∀ i : Nat, (i : Int) < M2 5 3 → RowOk M2 1 (rowA M2 1 i) i (M2 77) 0 (K + 1)) ∧ FlNo M2 1 ∧ (0 ≤ M2 5 1 ∧ M2 5 1 ≤ 4) ∧ (0 ≤ M2 5 2 ∧ M2 5 2 ≤ 30 * ((K + 1 : Nat) : Int)) ∧ (0 ≤ M2 5 3 ∧ M2 5 3 ≤ 8 ∧ M2 5 3 ≤ M2 5 2) ∧ (0 ≤ M2 24 0 ∧ M2 24 0 ≤ 8) ∧ ∀ i : Nat, (i : Int) < M2 5 1 → TrB M2 (1 + 16 + 2 * i) (K + 1)
        have b1 : M1 5 1 = 0 := b1
        have b2 : M1 5 2 = 0 := b2
        have b3 : M1 5 3 = 0 := b3
        have bn : M1 24 0 = 0 := bn
        have f0 : M1 2 0 = w := f0
        have f1 : M1 2 1 = hh := f1
        have f2 : M1 2 2 = 0 := f2
        have f3 : M1 2 3 = w * hh - 1 := f3
        have f4 : M1 2 4 = 0 := f4
        have f5 : M1 2 5 = 0 := f5
        have f8 : M1 2 8 = -1 := f8
        have ft : ∀ c, 0 ≤ c → c < 49 → M1 3 c = 0 := ft
        rw [n5, n24, b1, b2, b3, bn]
        refine ⟨?_, ?_, (mk' 6 (by decide) (by decide) (by decide) (by decide) (by decide)).symm, (mk' 7 (by decide) (by decide) (by decide) (by decide) (by decide)).symm, (mk' 8 (by decide) (by decide) (by decide) (by decide) (by decide)).symm, (mk' 9 (by decide) (by decide) (by decide) (by decide) (by decide)).symm, fun i hi => by omega, fun i i0 i1 => by omega, fun i hi => by omega, ⟨?_, Or.inl ?_⟩, by omega, by omega, by omega, by omega, fun i hi => by omega⟩
        · intro k k0 k6
          rw [n2, Int.zero_add]
          rcases (show k = 0 ∨ k = 1 ∨ k = 2 ∨ k = 3 ∨ k = 4 ∨ k = 5 by omega) with rfl | rfl | rfl | rfl | rfl | rfl
          · rw [f0, m0]
          · rw [f1]; exact m1.symm
          · rw [f2, mk' 2 (by decide) (by decide) (by decide) (by decide) (by decide)]
          · rw [f3]; exact m3.symm
          · rw [f4, mk' 4 (by decide) (by decide) (by decide) (by decide) (by decide)]
          · rw [f5, mk' 5 (by decide) (by decide) (by decide) (by decide) (by decide)]
        · intro c c0 c1
          rw [n3, ft c c0 c1, mk' _ (by omega) (by omega) (by omega) (by omega) (by omega)]
        · refine FlOk.of ?_ ?_ ?_ ?_ ?_ ?_ ?_
          · show 1 ≤ M2 2 0 ∧ M2 2 0 ≤ 7
            rw [n2, f0]; exact h1
          · show 1 ≤ M2 2 1 ∧ M2 2 1 ≤ 7
            rw [n2, f1]; exact h2
          · show 0 ≤ M2 2 2 ∧ M2 2 2 < M2 2 0 * M2 2 1
            rw [n2, f0, f1, f2]; omega
          · show 0 ≤ M2 2 3 ∧ M2 2 3 < M2 2 0 * M2 2 1
            rw [n2, f0, f1, f3]; omega
          · show 0 ≤ M2 2 4 ∧ M2 2 4 ≤ 127
            rw [n2, f4]; decide
          · show 0 ≤ M2 2 5 ∧ M2 2 5 ≤ 1
            rw [n2, f5]; decide
          · intro c c0 c1
            show 0 ≤ M2 3 c ∧ M2 3 c ≤ 9
            rw [n3, ft c c0 c1]; decide
        · show M2 2 8 = -1
          rw [n2]; exact f8
    · refine Op.bad (v := -2) (k := 0) g (by decide) (by decide) (by decide) ⟨_, rfl, ?_⟩ (fun M1 h80 => ⟨_, rfl, ?_⟩) trivial
      · refine Rn.cal rfl (X_ild rfl <| X_i <| X_i <| X_nil) (vs := [_, _, _]) (rest := []) rfl rfl rfl rfl (c_wY (by omega) (by decide) (by decide) h1) ?_
        refine Rn.ieq rfl (X_nil) (by first | omega | (simp (disch := omega) only [um_eq, um_na, um_ni, Int.toNat_natCast]; omega)) (fun hc => absurd hc (by first | omega | decide | (simp (disch := omega) only [um_eq, um_na, um_ni, Int.toNat_natCast]; omega))) (fun hc => ?_)
        refine Rn.cal rfl (X_ild rfl <| X_i <| X_i <| X_nil) (vs := [_, _, _]) (rest := []) rfl rfl rfl rfl (c_wN (by omega) (by decide) (by decide) h2) ?_
        refine Rn.ine rfl (X_nil) (by first | omega | (simp (disch := omega) only [um_eq, um_na, um_ni, Int.toNat_natCast]; omega)) (fun hc => absurd hc (by first | omega | decide | (simp (disch := omega) only [um_eq, um_na, um_ni, Int.toNat_natCast]; omega))) (fun hc => ?_)
        refine Rn.cal rfl (X_ald rfl <| X_i <| X_nil) (vs := [_, _]) (rest := []) rfl rfl rfl (rcv_v hX.ob (by decide)) (c_bad hX) ?_
        refine Rn.ri rfl (X_nil) rfl
      · refine Rn.cal rfl (X_ild rfl <| X_i2l (by first | omega | (simp (disch := omega) only [um_eq, um_na, um_ni, Int.toNat_natCast]; omega)) <| X_l <| X_l <| X_nil) (vs := [_, _, _]) (rest := []) rfl rfl rfl rfl (c_iY (by omega) (by decide) (by decide) h1) ?_
        refine Rn.ieq rfl (X_nil) (by first | omega | (simp (disch := omega) only [um_eq, um_na, um_ni, Int.toNat_natCast]; omega)) (fun hc => absurd hc (by first | omega | decide | (simp (disch := omega) only [um_eq, um_na, um_ni, Int.toNat_natCast]; omega))) (fun hc => ?_)
        refine Rn.cal rfl (X_ild rfl <| X_i2l (by first | omega | (simp (disch := omega) only [um_eq, um_na, um_ni, Int.toNat_natCast]; omega)) <| X_l <| X_l <| X_nil) (vs := [_, _, _]) (rest := []) rfl rfl rfl rfl (c_iN (by omega) (by decide) (by decide) h2) ?_
        refine Rn.ine rfl (X_nil) (by first | omega | (simp (disch := omega) only [um_eq, um_na, um_ni, Int.toNat_natCast]; omega)) (fun hc => absurd hc (by first | omega | decide | (simp (disch := omega) only [um_eq, um_na, um_ni, Int.toNat_natCast]; omega))) (fun hc => ?_)
        refine Rn.cal rfl (X_ald rfl <| X_nil) (vs := [_]) (rest := []) rfl rfl rfl (rcv_v hM.ob (by decide)) (c_mbad hM) ?_
        refine Rn.ri rfl (X_nil) rfl
  · refine Op.bad (v := -2) (k := 0) g (by decide) (by decide) (by decide) ⟨_, rfl, ?_⟩ (fun M1 h80 => ⟨_, rfl, ?_⟩) trivial
    · refine Rn.cal rfl (X_ild rfl <| X_i <| X_i <| X_nil) (vs := [_, _, _]) (rest := []) rfl rfl rfl rfl (c_wN (by omega) (by decide) (by decide) h1) ?_
      refine Rn.ieq rfl (X_nil) (by first | omega | (simp (disch := omega) only [um_eq, um_na, um_ni, Int.toNat_natCast]; omega)) (fun hc => ?_) (fun hc => absurd hc (by first | omega | decide | (simp (disch := omega) only [um_eq, um_na, um_ni, Int.toNat_natCast]; omega)))
      refine Rn.cal rfl (X_ald rfl <| X_i <| X_nil) (vs := [_, _]) (rest := []) rfl rfl rfl (rcv_v hX.ob (by decide)) (c_bad hX) ?_
      refine Rn.ri rfl (X_nil) rfl
    · refine Rn.cal rfl (X_ild rfl <| X_i2l (by first | omega | (simp (disch := omega) only [um_eq, um_na, um_ni, Int.toNat_natCast]; omega)) <| X_l <| X_l <| X_nil) (vs := [_, _, _]) (rest := []) rfl rfl rfl rfl (c_iN (by omega) (by decide) (by decide) h1) ?_
      refine Rn.ieq rfl (X_nil) (by first | omega | (simp (disch := omega) only [um_eq, um_na, um_ni, Int.toNat_natCast]; omega)) (fun hc => ?_) (fun hc => absurd hc (by first | omega | decide | (simp (disch := omega) only [um_eq, um_na, um_ni, Int.toNat_natCast]; omega)))
      refine Rn.cal rfl (X_ald rfl <| X_nil) (vs := [_]) (rest := []) rfl rfl rfl (rcv_v hM.ob (by decide)) (c_mbad hM) ?_
      refine Rn.ri rfl (X_nil) rfl
end Ops1
