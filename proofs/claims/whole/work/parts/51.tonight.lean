/-! TONIGHT, COST -/
section Tonight
variable {S : List Int} {T : List Sh} {M N : Nat → Int → Int} {K : Nat} {h : Hp}
/-- the model lays the class's numbers -/
theorem lay_of (g : Gl T M K) (hN : N 77 = M 77) : ∃ M', Cl S 156 [vR 76] (T, N) (none, (T, M')) ∧ SmB (M 5 1).toNat (V M') 0 M 1 ∧ (∀ v, WayIs M 1 (M 2 3).toNat (M 2 2).toNat v → M' 76 17 = v) ∧ M' 76 18 = M 2 5 ∧ (∀ k, k ≠ 17 → k ≠ 18 → M' 76 k = N 76 k) ∧ (∀ a, a ≠ 76 → a ≠ 81 → a ≠ 82 → a ≠ 83 → a ≠ 84 → M' a = N a) := by
  have hM := g.m
  have hm := g.wm
  have hz := g.sz
  have f2 : 0 ≤ M 2 2 ∧ M 2 2 < M 2 0 * M 2 1 := g.rg.fl.1.2.2.1
  have f3 : 0 ≤ M 2 3 ∧ M 2 3 < M 2 0 * M 2 1 := g.rg.fl.1.2.2.2.1
  obtain ⟨w, hh, e0, e1, w7, hh7, ewh, hwh⟩ := g.wh
  have c2 := g.flI (j := 2) (by decide) (by decide)
  have c3 := g.flI (j := 3) (by decide) (by decide)
  have c5 := g.flI (j := 5) (by decide) (by decide)
  obtain ⟨M', F, cl, l1, ⟨l2, l3, l4⟩, ⟨lR, lF⟩, l5⟩ := c_layNow (S := S) (M := N) (w := w) (hh := hh) (s := (M 2 3).toNat) (e := (M 2 2).toNat) hM (by rw [hN, hm.1]; exact e0) (by rw [hN, hm.2]; exact e1) w7 hh7 (by rw [hN]; exact g.thM) (by rw [hN]; omega) (by rw [hN]; omega) (by omega) (by omega)
  have m77 : M' 77 = M 77 := by rw [l5 77 (by decide) (by decide) (by decide) (by decide) (by decide)]; exact hN
  refine ⟨M', cl, fun i hi k k0 k8 => ?_, fun v hv => ?_, by rw [l3, hN]; exact c5, l4, l5⟩
  · have es := g.rg.s i (show (i : Int) < M 5 1 by omega) k k0 k8
    rw [es]
    obtain ⟨q1, q2, q3⟩ := l1 i (by omega)
    rw [hN] at q1 q2 q3
    rcases (show k < 5 ∨ k = 5 ∨ k = 6 ∨ k = 7 by omega) with hk | rfl | rfl | rfl
    · rw [V_k i k hk, m77]
      congr 1 <;> omega
    · rw [V_5, q1]
      congr 1 <;> omega
    · rw [V_6, q2]
      congr 1 <;> omega
    · rw [V_7, q3]
      congr 1 <;> omega
  · obtain ⟨D, hD, rfl⟩ := hv
    have hD : IsW M 1 (M 2 0).toNat (M 2 1).toNat (M 2 2).toNat D := hD
    rw [e0, e1, Int.toNat_natCast, Int.toNat_natCast] at hD
    rw [l2]
    exact (way_same (N := N) (w := w) (hh := hh) g hN e0 e1 w7.1 hwh (by omega) (by omega) hD lR lF).symm
theorem Gl.beOk (g : Gl T M K) (hK : K ≤ 100) : BeOk M 1 := by
  have n4 := g.rg.n4
  have u8 := g.rg.u8
  exact ⟨g.rg.z4, by omega, by omega, fun i hi => (g.rg.tr i hi).ok hK⟩
theorem mo_of (g : Gl T M K) (hK : K ≤ 100) (h6 : N 77 6 = M 5 1) (hs : SmB (M 5 1).toNat (V N) 0 M 1) : MoOk N ∧ mNight N = nightV M 1 := by
  have hz := g.sz
  refine ⟨⟨by rw [h6]; exact hz.2, fun i hi => ?_⟩, ?_⟩
  · rw [h6] at hi
    exact TrOk_pw (hs i (by omega)) ((g.rg.tr i hi).ok hK)
  · show nightF (V N) 0 (lstC (V N) 0 (N 77 6).toNat) (N 77 6).toNat = nightF M 1 (lstC M 1 (M 5 1).toNat) (M 5 1).toNat
    rw [h6, lstC_pw _ hs, nightF_pw _ hs]
/-- the class has foreseen, the model has gone a night: nothing else is new -/
theorem Gl.foreseen (g : Gl T M K) (e : ∀ a, a ≠ 2 → a ≠ 4 → a ≠ 27 → a ≠ 76 → a ≠ 81 → a ≠ 82 → a ≠ 83 → a ≠ 84 → N a = M a) (h2 : ∀ k, k ≠ 8 → N 2 k = M 2 k) (h8 : ∃ v, WayIs M 1 (M 2 3).toNat (M 2 2).toNat v ∧ N 2 8 = 2 * v) (h76 : ∀ k, k ≠ 17 → k ≠ 18 → k ≠ 19 → k ≠ 20 → k ≠ 21 → N 76 k = M 76 k) : Gl T N (K + 1) := by
  have e77 : N 77 = M 77 := e 77 (by decide) (by decide) (by decide) (by decide) (by decide) (by decide) (by decide) (by decide)
  have e3 : N 3 = M 3 := e 3 (by decide) (by decide) (by decide) (by decide) (by decide) (by decide) (by decide) (by decide)
  refine g.upd (Kept.of (fun a ha => e a (by omega) (by omega) (by omega) (by omega) (by omega) (by omega) (by omega) (by omega)) (h76 _ (by decide) (by decide) (by decide) (by decide) (by decide)) (h76 _ (by decide) (by decide) (by decide) (by decide) (by decide)) (h76 _ (by decide) (by decide) (by decide) (by decide) (by decide)) (fun k _ _ => by rw [e77])) ?_ (g.re.cg (e _ (by decide) (by decide) (by decide) (by decide) (by decide) (by decide) (by decide) (by decide)) (e _ (by decide) (by decide) (by decide) (by decide) (by decide) (by decide) (by decide) (by decide)) (by omega)) (by omega)
  refine g.rg.floor (by omega) (fun a a1 a2 => e a (by omega) (by omega) (by omega) (by omega) (by omega) (by omega) (by omega) (by omega)) (fun k _ => by rw [e77]) (fun k k0 k6 => ?_) (fun c c0 c1 => ?_) ⟨?_, ?_⟩
  · show N 2 k = N 77 (0 + k)
    rw [h2 k (by omega), e77]
    exact g.rg.f k k0 k6
  · show N 3 c = N 77 (0 + 10 + c)
    rw [e3, e77]
    exact g.rg.t c c0 c1
  · have hf := g.rg.fl.1
    unfold FlOk at hf ⊢
    show (1 ≤ N 2 0 ∧ N 2 0 ≤ 7) ∧ (1 ≤ N 2 1 ∧ N 2 1 ≤ 7) ∧ (0 ≤ N 2 2 ∧ N 2 2 < N 2 0 * N 2 1) ∧ (0 ≤ N 2 3 ∧ N 2 3 < N 2 0 * N 2 1) ∧ (0 ≤ N 2 4 ∧ N 2 4 ≤ 127) ∧ (0 ≤ N 2 5 ∧ N 2 5 ≤ 1) ∧ ∀ c, 0 ≤ c → c < 49 → 0 ≤ N 3 c ∧ N 3 c ≤ 9
    rw [h2 0 (by decide), h2 1 (by decide), h2 2 (by decide), h2 3 (by decide), h2 4 (by decide), h2 5 (by decide), e3]
    exact hf
  · obtain ⟨v, v1, v2⟩ := h8
    refine Or.inr ⟨v, ?_, v2⟩
    show WayIs N 1 (N 2 3).toNat (N 2 2).toNat v
    rw [h2 3 (by decide), h2 2 (by decide), WayIs_cg (M := M) (b := 1) (h2 0 (by decide)) (h2 1 (by decide)) (h2 4 (by decide)) e3]
    exact v1
theorem op_tonight {k : Int} (g : Gl T M K) (hK : K ≤ 100) (ik : I32 k) : Op S 83 166 [vI k] T M K := by
  have hX := g.x
  have hM := g.m
  have hS := hX.s1
  by_cases h1 : 0 ≤ k ∧ k ≤ 2
  case neg =>
    refine Op.bad (v := -2) (k := 0) g (by decide) (by decide) (by decide) ⟨_, rfl, ?_⟩ (fun M1 h80 => ⟨_, rfl, ?_⟩) trivial
    · refine Rn.cal rfl (X_ild rfl <| X_i <| X_i <| X_nil) (vs := [_, _, _]) (rest := []) rfl rfl rfl rfl (c_wN (by omega) (by decide) (by decide) h1) ?_
      refine Rn.ine rfl (X_nil) (by first | omega | (simp (disch := omega) only [um_eq, um_na, um_ni, Int.toNat_natCast]; omega)) (fun hc => absurd hc (by first | omega | decide | (simp (disch := omega) only [um_eq, um_na, um_ni, Int.toNat_natCast]; omega))) (fun hc => ?_)
      refine Rn.cal rfl (X_ald rfl <| X_i <| X_nil) (vs := [_, _]) (rest := []) rfl rfl rfl (rcv_v hX.ob (by decide)) (c_bad hX) ?_
      refine Rn.ri rfl (X_nil) rfl
    · refine Rn.cal rfl (X_ild rfl <| X_i2l (by first | omega | (simp (disch := omega) only [um_eq, um_na, um_ni, Int.toNat_natCast]; omega)) <| X_l <| X_l <| X_nil) (vs := [_, _, _]) (rest := []) rfl rfl rfl rfl (c_iN (by omega) (by decide) (by decide) h1) ?_
      refine Rn.ine rfl (X_nil) (by first | omega | (simp (disch := omega) only [um_eq, um_na, um_ni, Int.toNat_natCast]; omega)) (fun hc => absurd hc (by first | omega | decide | (simp (disch := omega) only [um_eq, um_na, um_ni, Int.toNat_natCast]; omega))) (fun hc => ?_)
      refine Rn.cal rfl (X_ald rfl <| X_nil) (vs := [_]) (rest := []) rfl rfl rfl (rcv_v hM.ob (by decide)) (c_mbad hM) ?_
      refine Rn.ri rfl (X_nil) rfl
  obtain ⟨M1, c1, fr, fk, ⟨v, v1, v2⟩, n0, n1, n2⟩ := c_foresee (S := S) (M := M) (b := 1) hS g.rg.fl.1 g.rg.fl.2 (g.beOk hK)
  have m77 : M1 77 = M 77 := fr 77 (by decide) (by decide) (by decide)
  obtain ⟨M2, cl, ls, lw, lc, l76, lf⟩ := lay_of (S := S) (N := M1) g m77
  have q77 : M2 77 = M 77 := by rw [lf 77 (by decide) (by decide) (by decide) (by decide) (by decide)]; exact m77
  have q6 : M2 77 6 = M 5 1 := by rw [q77]; exact g.sz.1
  obtain ⟨mo, en⟩ := mo_of (N := M2) g hK q6 ls
  have cg := c_goNight (S := S) (M := M2) hM mo
  rw [en] at cg
  have ni := nightV_in (g.beOk hK)
  have n0 : M1 27 0 = (nightV M 1).1 := n0
  have n1 : M1 27 1 = (nightV M 1).2.1 := n1
  have n2 : M1 27 2 = (nightV M 1).2.2 := n2
  have z4 : M (1 + 4) 1 ≤ 4 := g.sz.2.2
  have hG : Gl T (setG M2 (nightV M 1)) (K + 1) := by
    refine g.foreseen (fun a a1 a2 a3 a4 a5 a6 a7 a8 => by rw [setG_ne a4, lf a a4 a5 a6 a7 a8]; exact fr a a1 a2 a3) (fun k hk => by rw [setG_ne (by decide), lf 2 (by decide) (by decide) (by decide) (by decide) (by decide)]; exact fk k hk) ⟨v, v1, by rw [setG_ne (by decide), lf 2 (by decide) (by decide) (by decide) (by decide) (by decide)]; exact v2⟩ (fun k k1 k2 k3 k4 k5 => by rw [setG_k k3 k4 k5, l76 k k1 k2, fr 76 (by decide) (by decide) (by decide)])
  rcases (show k = 0 ∨ k = 1 ∨ k = 2 by omega) with rfl | rfl | rfl
  · refine ⟨(nightV M 1).1, T, M1, _, by omega, ⟨_, rfl, ?_⟩, ⟨_, rfl, ?_⟩, hG⟩
    · rw [← n0]
      refine Rn.cal rfl (X_ild rfl <| X_i <| X_i <| X_nil) (vs := [_, _, _]) (rest := []) rfl rfl rfl rfl (c_wY (by omega) (by decide) (by decide) h1) ?_
      refine Rn.ine rfl (X_nil) (by first | omega | (simp (disch := omega) only [um_eq, um_na, um_ni, Int.toNat_natCast]; omega)) (fun hc => ?_) (fun hc => absurd hc (by first | omega | decide | (simp (disch := omega) only [um_eq, um_na, um_ni, Int.toNat_natCast]; omega)))
      refine Rn.cal rfl (X_ald rfl <| X_gr 7 0 hX.ob ⟨rfl, rfl⟩ rfl rfl <| X_nil) (vs := [_]) (rest := []) rfl rfl rfl (rcv_v hX.s1.st (by decide)) (c1) ?_
      refine Rn.swl (q' := 60) rfl (X_ald rfl <| X_gr 7 0 hX.ob ⟨rfl, rfl⟩ rfl rfl <| X_gr 6 3 hX.s1.st ⟨rfl, rfl⟩ rfl rfl <| X_ast rfl (L' := [_, _, _]) rfl <| X_ild rfl <| X_nil) (by first | omega | (simp (disch := omega) only [um_eq, um_na, um_ni, Int.toNat_natCast]; omega)) (by first | rfl | (rw [e]; rfl)) ?_
      refine Rn.ri rfl (X_ald rfl <| X_gi 2 0 0 hX.s1.ni ⟨rfl, rfl, rfl⟩ (Or.inl rfl) <| X_nil) rfl
    · rw [← setG_19 (M := M2) (p := nightV M 1)]
      refine Rn.cal rfl (X_ild rfl <| X_i2l (by first | omega | (simp (disch := omega) only [um_eq, um_na, um_ni, Int.toNat_natCast]; omega)) <| X_l <| X_l <| X_nil) (vs := [_, _, _]) (rest := []) rfl rfl rfl rfl (c_iY (by omega) (by decide) (by decide) h1) ?_
      refine Rn.ine rfl (X_nil) (by first | omega | (simp (disch := omega) only [um_eq, um_na, um_ni, Int.toNat_natCast]; omega)) (fun hc => ?_) (fun hc => absurd hc (by first | omega | decide | (simp (disch := omega) only [um_eq, um_na, um_ni, Int.toNat_natCast]; omega)))
      refine Rn.cal rfl (X_ald rfl <| X_nil) (vs := [_]) (rest := []) rfl rfl rfl (rcv_v hM.ob (by decide)) (cl) ?_
      refine Rn.cal rfl (X_ald rfl <| X_nil) (vs := [_]) (rest := []) rfl rfl rfl (rcv_v hM.ob (by decide)) (cg) ?_
      refine Rn.ine rfl (X_ild rfl <| X_nil) (by first | omega | (simp (disch := omega) only [um_eq, um_na, um_ni, Int.toNat_natCast]; omega)) (fun hc => absurd hc (by first | omega | decide | (simp (disch := omega) only [um_eq, um_na, um_ni, Int.toNat_natCast]; omega))) (fun hc => ?_)
      refine Rn.jto rfl (X_ald rfl <| X_gi 8 19 19 hM.ob ⟨rfl, rfl, rfl⟩ (Or.inl rfl) <| X_nil) ?_
      refine Rn.ri rfl (X_nil) rfl
  · refine ⟨(nightV M 1).2.1, T, M1, _, by omega, ⟨_, rfl, ?_⟩, ⟨_, rfl, ?_⟩, hG⟩
    · rw [← n1]
      refine Rn.cal rfl (X_ild rfl <| X_i <| X_i <| X_nil) (vs := [_, _, _]) (rest := []) rfl rfl rfl rfl (c_wY (by omega) (by decide) (by decide) h1) ?_
      refine Rn.ine rfl (X_nil) (by first | omega | (simp (disch := omega) only [um_eq, um_na, um_ni, Int.toNat_natCast]; omega)) (fun hc => ?_) (fun hc => absurd hc (by first | omega | decide | (simp (disch := omega) only [um_eq, um_na, um_ni, Int.toNat_natCast]; omega)))
      refine Rn.cal rfl (X_ald rfl <| X_gr 7 0 hX.ob ⟨rfl, rfl⟩ rfl rfl <| X_nil) (vs := [_]) (rest := []) rfl rfl rfl (rcv_v hX.s1.st (by decide)) (c1) ?_
      refine Rn.swl (q' := 65) rfl (X_ald rfl <| X_gr 7 0 hX.ob ⟨rfl, rfl⟩ rfl rfl <| X_gr 6 3 hX.s1.st ⟨rfl, rfl⟩ rfl rfl <| X_ast rfl (L' := [_, _, _]) rfl <| X_ild rfl <| X_nil) (by first | omega | (simp (disch := omega) only [um_eq, um_na, um_ni, Int.toNat_natCast]; omega)) (by first | rfl | (rw [e]; rfl)) ?_
      refine Rn.ri rfl (X_ald rfl <| X_gi 2 1 1 hX.s1.ni ⟨rfl, rfl, rfl⟩ (Or.inl rfl) <| X_nil) rfl
    · rw [← setG_20 (M := M2) (p := nightV M 1)]
      refine Rn.cal rfl (X_ild rfl <| X_i2l (by first | omega | (simp (disch := omega) only [um_eq, um_na, um_ni, Int.toNat_natCast]; omega)) <| X_l <| X_l <| X_nil) (vs := [_, _, _]) (rest := []) rfl rfl rfl rfl (c_iY (by omega) (by decide) (by decide) h1) ?_
      refine Rn.ine rfl (X_nil) (by first | omega | (simp (disch := omega) only [um_eq, um_na, um_ni, Int.toNat_natCast]; omega)) (fun hc => ?_) (fun hc => absurd hc (by first | omega | decide | (simp (disch := omega) only [um_eq, um_na, um_ni, Int.toNat_natCast]; omega)))
      refine Rn.cal rfl (X_ald rfl <| X_nil) (vs := [_]) (rest := []) rfl rfl rfl (rcv_v hM.ob (by decide)) (cl) ?_
      refine Rn.cal rfl (X_ald rfl <| X_nil) (vs := [_]) (rest := []) rfl rfl rfl (rcv_v hM.ob (by decide)) (cg) ?_
      refine Rn.ine rfl (X_ild rfl <| X_nil) (by first | omega | (simp (disch := omega) only [um_eq, um_na, um_ni, Int.toNat_natCast]; omega)) (fun hc => ?_) (fun hc => absurd hc (by first | omega | decide | (simp (disch := omega) only [um_eq, um_na, um_ni, Int.toNat_natCast]; omega)))
      refine Rn.cne rfl (X_ild rfl <| X_i <| X_nil) (by first | omega | (simp (disch := omega) only [um_eq, um_na, um_ni, Int.toNat_natCast]; omega)) (by first | omega | (simp (disch := omega) only [um_eq, um_na, um_ni, Int.toNat_natCast]; omega)) (fun hc => absurd hc (by first | omega | decide | (simp (disch := omega) only [um_eq, um_na, um_ni, Int.toNat_natCast]; omega))) (fun hc => ?_)
      refine Rn.jto rfl (X_ald rfl <| X_gi 8 20 20 hM.ob ⟨rfl, rfl, rfl⟩ (Or.inl rfl) <| X_nil) ?_
      refine Rn.ri rfl (X_nil) rfl
  · have n2' : M1 (1 + 26) 2 = (nightV M 1).2.2 := n2
    refine ⟨(nightV M 1).2.2, T, M1, _, by omega, ⟨_, rfl, ?_⟩, ⟨_, rfl, ?_⟩, hG⟩
    · refine Rn.cal rfl (X_ild rfl <| X_i <| X_i <| X_nil) (vs := [_, _, _]) (rest := []) rfl rfl rfl rfl (c_wY (by omega) (by decide) (by decide) h1) ?_
      refine Rn.ine rfl (X_nil) (by first | omega | (simp (disch := omega) only [um_eq, um_na, um_ni, Int.toNat_natCast]; omega)) (fun hc => ?_) (fun hc => absurd hc (by first | omega | decide | (simp (disch := omega) only [um_eq, um_na, um_ni, Int.toNat_natCast]; omega)))
      refine Rn.cal rfl (X_ald rfl <| X_gr 7 0 hX.ob ⟨rfl, rfl⟩ rfl rfl <| X_nil) (vs := [_]) (rest := []) rfl rfl rfl (rcv_v hX.s1.st (by decide)) (c1) ?_
      refine Rn.swl (q' := 70) rfl (X_ald rfl <| X_gr 7 0 hX.ob ⟨rfl, rfl⟩ rfl rfl <| X_gr 6 3 hX.s1.st ⟨rfl, rfl⟩ rfl rfl <| X_ast rfl (L' := [_, _, _]) rfl <| X_ild rfl <| X_nil) (by first | omega | (simp (disch := omega) only [um_eq, um_na, um_ni, Int.toNat_natCast]; omega)) (by first | rfl | (rw [e]; rfl)) ?_
      rcases ni.2.2.2.2.1 with e0 | e0
      · rw [e0]
        refine Rn.ieq rfl (X_ald rfl <| X_gi 2 2 2 hX.s1.ni ⟨rfl, rfl, rfl⟩ (Or.inr rfl) <| X_nil) (by first | omega | (simp (disch := omega) only [um_eq, um_na, um_ni, Int.toNat_natCast]; omega)) (fun hc => ?_) (fun hc => absurd hc (by first | omega | decide | (simp (disch := omega) only [um_eq, um_na, um_ni, Int.toNat_natCast]; omega)))
        refine Rn.fal rfl (X_i <| X_nil) ?_
        refine Rn.ri rfl (X_nil) rfl
      · rw [e0]
        refine Rn.ieq rfl (X_ald rfl <| X_gi 2 2 2 hX.s1.ni ⟨rfl, rfl, rfl⟩ (Or.inr rfl) <| X_nil) (by first | omega | (simp (disch := omega) only [um_eq, um_na, um_ni, Int.toNat_natCast]; omega)) (fun hc => absurd hc (by first | omega | decide | (simp (disch := omega) only [um_eq, um_na, um_ni, Int.toNat_natCast]; omega))) (fun hc => ?_)
        refine Rn.jto rfl (X_i <| X_nil) ?_
        refine Rn.ri rfl (X_nil) rfl
    · rw [← setG_21 (M := M2) (p := nightV M 1)]
      refine Rn.cal rfl (X_ild rfl <| X_i2l (by first | omega | (simp (disch := omega) only [um_eq, um_na, um_ni, Int.toNat_natCast]; omega)) <| X_l <| X_l <| X_nil) (vs := [_, _, _]) (rest := []) rfl rfl rfl rfl (c_iY (by omega) (by decide) (by decide) h1) ?_
      refine Rn.ine rfl (X_nil) (by first | omega | (simp (disch := omega) only [um_eq, um_na, um_ni, Int.toNat_natCast]; omega)) (fun hc => ?_) (fun hc => absurd hc (by first | omega | decide | (simp (disch := omega) only [um_eq, um_na, um_ni, Int.toNat_natCast]; omega)))
      refine Rn.cal rfl (X_ald rfl <| X_nil) (vs := [_]) (rest := []) rfl rfl rfl (rcv_v hM.ob (by decide)) (cl) ?_
      refine Rn.cal rfl (X_ald rfl <| X_nil) (vs := [_]) (rest := []) rfl rfl rfl (rcv_v hM.ob (by decide)) (cg) ?_
      refine Rn.ine rfl (X_ild rfl <| X_nil) (by first | omega | (simp (disch := omega) only [um_eq, um_na, um_ni, Int.toNat_natCast]; omega)) (fun hc => ?_) (fun hc => absurd hc (by first | omega | decide | (simp (disch := omega) only [um_eq, um_na, um_ni, Int.toNat_natCast]; omega)))
      refine Rn.cne rfl (X_ild rfl <| X_i <| X_nil) (by first | omega | (simp (disch := omega) only [um_eq, um_na, um_ni, Int.toNat_natCast]; omega)) (by first | omega | (simp (disch := omega) only [um_eq, um_na, um_ni, Int.toNat_natCast]; omega)) (fun hc => ?_) (fun hc => absurd hc (by first | omega | decide | (simp (disch := omega) only [um_eq, um_na, um_ni, Int.toNat_natCast]; omega)))
      refine Rn.fal rfl (X_ald rfl <| X_gi 8 21 21 hM.ob ⟨rfl, rfl, rfl⟩ (Or.inl rfl) <| X_nil) ?_
      refine Rn.ri rfl (X_nil) rfl
end Tonight
