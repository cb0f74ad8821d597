/-! COST -/
section CostOp
variable {S : List Int} {T : List Sh} {M N : Nat → Int → Int} {K b s : Nat} {p : Int × Int × Int} {wk : Int} {h : Hp}
theorem mCost_is (h19 : N 76 19 = p.1) (h20 : N 76 20 = p.2.1) (h21 : N 76 21 = p.2.2) (h18 : N 76 18 = M (b + 1) 5) (h17 : 2 * N 76 17 = wk) (hl : ∀ k, 0 ≤ k → k < 8 → V N (0 + 16 + 2 * s) k = M (b + 16 + 2 * s) k) : mCost N s = nCost M b p wk s := by
  have h3 := hl 3 (by decide) (by decide)
  rw [V_3] at h3
  unfold mCost nCost
  rw [h19, h20, h21, h18, h17, h3, lightC_pw hl]
theorem lightC_in {a : Nat} {t : Int} (ht : TrOk M a) (t0 : 0 ≤ t) (t3 : t ≤ 300) : 0 ≤ lightC M a t ∧ lightC M a t ≤ 2700 := by
  obtain ⟨-, h1, h2, -⟩ := ht
  unfold lightC
  split
  · omega
  · rename_i c
    have p1 : M a 2 * (t - M a 1) ≤ 9 * 300 := Int.mul_le_mul h2.2 (by omega) (by omega) (by omega)
    have p0 : 0 ≤ M a 2 * (t - M a 1) := Int.mul_nonneg h2.1 (by omega)
    omega
theorem nCost_in (ht : TrOk M (b + 16 + 2 * s)) (t0 : 0 ≤ p.1) (t3 : p.1 ≤ 300) (w0 : 0 ≤ wk) (w4 : wk ≤ 400) : 0 ≤ nCost M b p wk s ∧ nCost M b p wk s ≤ 4000 := by
  have hl := lightC_in ht t0 t3
  have h3 := ht.2.2.2.1
  unfold nCost
  split
  · split <;> omega
  · omega
theorem op_cost {k : Int} (g : Gl T M K) (hK : K ≤ 100) (ik : I32 k) : Op S 84 167 [vI k] T M K := by
  have hX := g.x
  have hM := g.m
  have hS := hX.s1
  have hz := g.sz
  have b77 : um M 59 0 (M 59 0 + 1) 77 = M 77 := um_fn (by decide)
  by_cases h1 : 0 ≤ k ∧ k ≤ M 5 1 - 1
  case neg =>
    refine Op.bad1 (v := -2) (k := 0) g (by decide) (by decide) (by decide) ⟨_, rfl, ?_⟩ ⟨_, rfl, ?_⟩
    · refine Rn.cal rfl (X_ald rfl <| X_gr 7 0 hX.ob ⟨rfl, rfl⟩ rfl rfl <| X_gr 6 1 hX.s1.st ⟨rfl, rfl⟩ rfl rfl <| X_ild rfl <| X_nil) (vs := [_, _]) (rest := []) rfl rfl rfl (rcv_v hX.s1.be (by decide)) (c_bhN hX hz.2 ik h1) ?_
      refine Rn.ine rfl (X_nil) (by first | omega | (simp (disch := omega) only [um_eq, um_na, um_ni, Int.toNat_natCast]; omega)) (fun hc => absurd hc (by first | omega | decide | (simp (disch := omega) only [um_eq, um_na, um_ni, Int.toNat_natCast]; omega))) (fun hc => ?_)
      refine Rn.cal rfl (X_ald rfl <| X_i <| X_nil) (vs := [_, _]) (rest := []) rfl rfl rfl (rcv_v hX.ob (by decide)) (c_bad hX) ?_
      refine Rn.ri rfl (X_nil) rfl
    · refine Rn.cal rfl (X_ald rfl <| X_ild rfl <| X_nil) (vs := [_, _]) (rest := []) rfl rfl rfl (rcv_v hM.ob (by decide)) (c_ioN hM (by rw [b77]; exact hz.1) hz.2 ik h1) ?_
      refine Rn.ine rfl (X_nil) (by first | omega | (simp (disch := omega) only [um_eq, um_na, um_ni, Int.toNat_natCast]; omega)) (fun hc => absurd hc (by first | omega | decide | (simp (disch := omega) only [um_eq, um_na, um_ni, Int.toNat_natCast]; omega))) (fun hc => ?_)
      refine Rn.cal rfl (X_ald rfl <| X_nil) (vs := [_]) (rest := []) rfl rfl rfl (rcv_v hM.ob (by decide)) (c_mbad hM) ?_
      refine Rn.ri rfl (X_nil) rfl
  obtain ⟨i, rfl⟩ : ∃ i : Nat, k = (i : Int) := ⟨k.toNat, by omega⟩
  have hi : i < 4 := by omega
  obtain ⟨M1, c1, fr, fk, ⟨v, v1, v2⟩, n0, n1, n2⟩ := c_foresee (S := S) (M := M) (b := 1) hS g.rg.fl.1 g.rg.fl.2 (g.beOk hK)
  have m77 : M1 77 = M 77 := fr 77 (by decide) (by decide) (by decide)
  obtain ⟨M2, cl, ls, lw, lc, l76, lf⟩ := lay_of (S := S) (N := M1) g m77
  have q77 : M2 77 = M 77 := by rw [lf 77 (by decide) (by decide) (by decide) (by decide) (by decide)]; exact m77
  have q6 : M2 77 6 = M 5 1 := by rw [q77]; exact hz.1
  obtain ⟨mo, en⟩ := mo_of (N := M2) g hK q6 ls
  have cg := c_goNight (S := S) (M := M2) hM mo
  rw [en] at cg
  have ni := nightV_in (g.beOk hK)
  have z4 : M (1 + 4) 1 ≤ 4 := hz.2.2
  have ht := (g.rg.tr i (show (i : Int) < M 5 1 by omega)).ok hK
  have f2 : 0 ≤ M 2 2 ∧ M 2 2 < M 2 0 * M 2 1 := g.rg.fl.1.2.2.1
  have f3 : 0 ≤ M 2 3 ∧ M 2 3 < M 2 0 * M 2 1 := g.rg.fl.1.2.2.2.1
  have f5 : 0 ≤ M 2 5 ∧ M 2 5 ≤ 1 := g.rg.fl.1.2.2.2.2.2.1
  have hv := WayIs.le (M := M) (b := 1) g.rg.fl.1 (show ((M 2 3).toNat : Int) < M 2 0 * M 2 1 by omega) (show ((M 2 2).toNat : Int) < M 2 0 * M 2 1 by omega) v1
  have hin := nCost_in (p := nightV M 1) (wk := 2 * v) ht (by omega) (by omega) (by omega) (by omega)
  have t1 : M1 (1 + 16 + 2 * i) = M (1 + 16 + 2 * i) := fr _ (by omega) (by omega) (by omega)
  have e5 : M1 (1 + 1) 5 = M (1 + 1) 5 := fk 5 (by decide)
  have cc := c_cost (S := S) (M := M1) (b := 1) (s := i) hS ⟨by rw [n0]; omega, by rw [n1]; omega, by rw [n2]; exact ni.2.2.2.2.1⟩ hi (TrOk_cg t1 ht) (by rw [e5]; exact f5)
  rw [costV_n n0 n1 n2 e5 v2 t1] at cc
  have g77 : setG M2 (nightV M 1) 77 = M 77 := by rw [setG_ne (by decide)]; exact q77
  have r1 := g.rg.s i (show (i : Int) < M 5 1 by omega) 1 (by decide) (by decide)
  have cm := c_costOf (S := S) (M := setG M2 (nightV M 1)) (s := i) hM hi (by
    rw [g77]
    have h1 := ht.2.1
    have e : M 77 (63 + (i : Int)) = M (1 + 16 + 2 * i) 1 := by rw [r1]; congr 1 <;> omega
    rw [e]
    exact h1) (by rw [setG_19]; omega) (by rw [setG_20]; omega) (by rw [setG_k (by decide) (by decide) (by decide), lc]; exact f5) (by rw [setG_21]; exact ni.2.2.2.2.1)
  have vg : V (setG M2 (nightV M 1)) = V M2 := V_fn (setG_ne (by decide)) (setG_ne (by decide)) (setG_ne (by decide)) (setG_ne (by decide))
  rw [mCost_is (M := M) (b := 1) (p := nightV M 1) (wk := 2 * v) setG_19 setG_20 setG_21 (by rw [setG_k (by decide) (by decide) (by decide)]; exact lc) (by rw [setG_k (by decide) (by decide) (by decide), lw v v1]) (by rw [vg]; exact ls i (by omega))] at cm
  have hG : Gl T (setG M2 (nightV M 1)) (K + 1) := by
    refine g.foreseen (fun a a1 a2 a3 a4 a5 a6 a7 a8 => by rw [setG_ne a4, lf a a4 a5 a6 a7 a8]; exact fr a a1 a2 a3) (fun k hk => by rw [setG_ne (by decide), lf 2 (by decide) (by decide) (by decide) (by decide) (by decide)]; exact fk k hk) ⟨v, v1, by rw [setG_ne (by decide), lf 2 (by decide) (by decide) (by decide) (by decide) (by decide)]; exact v2⟩ (fun k k1 k2 k3 k4 k5 => by rw [setG_k k3 k4 k5, l76 k k1 k2, fr 76 (by decide) (by decide) (by decide)])
  refine ⟨nCost M 1 (nightV M 1) (2 * v) i, T, M1, _, by omega, ⟨_, rfl, ?_⟩, ⟨_, rfl, ?_⟩, hG⟩
  · refine Rn.cal rfl (X_ald rfl <| X_gr 7 0 hX.ob ⟨rfl, rfl⟩ rfl rfl <| X_gr 6 1 hX.s1.st ⟨rfl, rfl⟩ rfl rfl <| X_ild rfl <| X_nil) (vs := [_, _]) (rest := []) rfl rfl rfl (rcv_v hX.s1.be (by decide)) (c_bhY hX hz.2 ik h1) ?_
    refine Rn.ine rfl (X_nil) (by first | omega | (simp (disch := omega) only [um_eq, um_na, um_ni, Int.toNat_natCast]; omega)) (fun hc => ?_) (fun hc => absurd hc (by first | omega | decide | (simp (disch := omega) only [um_eq, um_na, um_ni, Int.toNat_natCast]; omega)))
    refine Rn.cal rfl (X_ald rfl <| X_gr 7 0 hX.ob ⟨rfl, rfl⟩ rfl rfl <| X_nil) (vs := [_]) (rest := []) rfl rfl rfl (rcv_v hX.s1.st (by decide)) (c1) ?_
    refine Rn.cal rfl (X_ald rfl <| X_gr 7 0 hX.ob ⟨rfl, rfl⟩ rfl rfl <| X_ild rfl <| X_nil) (vs := [_, _]) (rest := []) rfl rfl rfl (rcv_v hX.s1.st (by decide)) (cc) ?_
    refine Rn.ri rfl (X_nil) rfl
  · refine Rn.cal rfl (X_ald rfl <| X_ild rfl <| X_nil) (vs := [_, _]) (rest := []) rfl rfl rfl (rcv_v hM.ob (by decide)) (c_ioY hM (by rw [m77]; exact hz.1) hz.2 ik h1) ?_
    refine Rn.ine rfl (X_nil) (by first | omega | (simp (disch := omega) only [um_eq, um_na, um_ni, Int.toNat_natCast]; omega)) (fun hc => ?_) (fun hc => absurd hc (by first | omega | decide | (simp (disch := omega) only [um_eq, um_na, um_ni, Int.toNat_natCast]; omega)))
    refine Rn.cal rfl (X_ald rfl <| X_nil) (vs := [_]) (rest := []) rfl rfl rfl (rcv_v hM.ob (by decide)) (cl) ?_
    refine Rn.cal rfl (X_ald rfl <| X_nil) (vs := [_]) (rest := []) rfl rfl rfl (rcv_v hM.ob (by decide)) (cg) ?_
    refine Rn.cal rfl (X_ald rfl <| X_ild rfl <| X_nil) (vs := [_, _]) (rest := []) rfl rfl rfl (rcv_v hM.ob (by decide)) (cm) ?_
    refine Rn.ri rfl (X_nil) rfl
end CostOp
