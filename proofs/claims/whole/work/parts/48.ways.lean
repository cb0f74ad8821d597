/-! WAY, BED -/
section Ways
variable {S : List Int} {T : List Sh} {M N C : Nat → Int → Int} {K : Nat} {h : Hp}
/-- the room's sides, as numbers -/
theorem Gl.wh (g : Gl T M K) : ∃ w hh : Nat, M 2 0 = (w : Int) ∧ M 2 1 = (hh : Int) ∧ (1 ≤ w ∧ w ≤ 7) ∧ (1 ≤ hh ∧ hh ≤ 7) ∧ M 2 0 * M 2 1 = ((w * hh : Nat) : Int) ∧ w * hh ≤ 49 := by
  have h1 := g.w
  refine ⟨(M 2 0).toNat, (M 2 1).toNat, by omega, by omega, by omega, by omega, ?_, ?_⟩
  · rw [Int.natCast_mul, ← show M 2 0 = (((M 2 0).toNat : Nat) : Int) by omega, ← show M 2 1 = (((M 2 1).toNat : Nat) : Int) by omega]
  · have : (M 2 0).toNat * (M 2 1).toNat ≤ 7 * 7 := Nat.mul_le_mul (by omega) (by omega)
    omega
theorem qM_qN {w hh : Nat} (g : Gl T M K) (hN : N 77 = M 77) (e0 : M 2 0 = (w : Int)) (hw : 1 ≤ w) (hwh : w * hh ≤ 49) : ∀ d, d < w * hh → qM N w d = qN M 1 w d := by
  intro d hd
  unfold qM qN qI
  have f4 := g.flI (j := 4) (by decide) (by decide)
  have ft : M 3 (d : Int) = M 77 (0 + 10 + (d : Int)) := g.rg.t d (by omega) (by omega)
  rw [Int.zero_add] at ft
  rw [hN, f4, ← ft]
  show _ = 2 + (if o_and (o_shr (M 2 4) ((d % w : Nat) : Int)) 1 = 1 then 0 else M 3 (((d % w : Nat) : Int) + M 2 0 * ((d / w : Nat) : Int)))
  rw [e0, cell_idx (hh := hh) (by omega) hd]
theorem way_same {w hh s e : Nat} {D F : Nat → Int} (g : Gl T M K) (hN : N 77 = M 77) (e0 : M 2 0 = (w : Int)) (e1 : M 2 1 = (hh : Int)) (hw : 1 ≤ w) (hwh : w * hh ≤ 49) (hs : s < w * hh) (he : e < w * hh) (hD : IsW M 1 w hh e D) (hR : Rf (w * hh) (AdjC w) (qM N w) s F) (hF : Ff (w * hh) (AdjC w) (qM N w) F) : D s = F e := by
  have hq := qM_qN (hh := hh) g hN e0 hw hwh
  have h2 := qN_ge g.rg.fl.1 e0 e1
  exact two_ways (fun d hd => (h2 d hd).1) hs he hD.1 hD.2 (Rf_q hq hR) (Ff_q hq hF)
theorem Gl.thM (g : Gl T M K) : ∀ c : Int, 0 ≤ c → c < 49 → 0 ≤ M 77 (10 + c) ∧ M 77 (10 + c) ≤ 9 := by
  intro c c0 c1
  have ft : M 3 c = M 77 (0 + 10 + c) := g.rg.t c c0 c1
  rw [Int.zero_add] at ft
  rw [← ft]
  exact g.rg.fl.1.2.2.2.2.2.2 c c0 c1
/-- the class has measured, the model has measured: nothing else is new -/
theorem Gl.measured (g : Gl T M K) (e : ∀ a, a ≠ 4 → a ≠ 81 → N a = M a) : Gl T N (K + 1) := by
  have e76 := e 76 (by decide) (by decide)
  refine g.upd (Kept.of (fun a ha => e a (by omega) (by omega)) (by rw [e76]) (by rw [e76]) (by rw [e76]) (fun k _ _ => by rw [e 77 (by decide) (by decide)])) ?_ (g.re.cg (e _ (by decide) (by decide)) (e _ (by decide) (by decide)) (by omega)) (by omega)
  rw [e 77 (by decide) (by decide)]
  exact g.rg.cg (fun a a1 a2 a3 => e a (by omega) (by omega)) (by omega)
theorem op_way {s e : Int} (g : Gl T M K) (is : I32 s) (ie : I32 e) : Op S 81 154 [vI s, vI e] T M K := by
  have hX := g.x
  have hM := g.m
  have hS := hX.s1
  have hw := g.w
  have hm := g.wm
  have hn : 1 ≤ M 2 0 * M 2 1 ∧ M 2 0 * M 2 1 ≤ 49 := g.rg.fl.1.n
  have b77 : um M 59 0 (M 59 0 + 1) 77 = M 77 := um_fn (by decide)
  by_cases h1 : 0 ≤ s ∧ s ≤ M 2 0 * M 2 1 - 1
  case neg =>
    refine Op.bad1 (v := -2) (k := 0) g (by decide) (by decide) (by decide) ⟨_, rfl, ?_⟩ ⟨_, rfl, ?_⟩
    · refine Rn.cal rfl (X_ald rfl <| X_gr 7 0 hX.ob ⟨rfl, rfl⟩ rfl rfl <| X_gr 6 0 hX.s1.st ⟨rfl, rfl⟩ rfl rfl <| X_ild rfl <| X_nil) (vs := [_, _]) (rest := []) rfl rfl rfl (rcv_v hX.s1.fl (by decide)) (c_fhN hX hw.1 hw.2 is h1) ?_
      refine Rn.ieq rfl (X_nil) (by first | omega | (simp (disch := omega) only [um_eq, um_na, um_ni, Int.toNat_natCast]; omega)) (fun hc => ?_) (fun hc => absurd hc (by first | omega | decide | (simp (disch := omega) only [um_eq, um_na, um_ni, Int.toNat_natCast]; omega)))
      refine Rn.cal rfl (X_ald rfl <| X_i <| X_nil) (vs := [_, _]) (rest := []) rfl rfl rfl (rcv_v hX.ob (by decide)) (c_bad hX) ?_
      refine Rn.ri rfl (X_nil) rfl
    · refine Rn.cal rfl (X_ald rfl <| X_i <| X_ild rfl <| X_nil) (vs := [_, _, _]) (rest := []) rfl rfl rfl (rcv_v hM.ob (by decide)) (c_icN hM (by rw [b77]; exact hm.1) (by rw [b77]; exact hm.2) hw.1 hw.2 is h1) ?_
      refine Rn.ieq rfl (X_nil) (by first | omega | (simp (disch := omega) only [um_eq, um_na, um_ni, Int.toNat_natCast]; omega)) (fun hc => ?_) (fun hc => absurd hc (by first | omega | decide | (simp (disch := omega) only [um_eq, um_na, um_ni, Int.toNat_natCast]; omega)))
      refine Rn.cal rfl (X_ald rfl <| X_nil) (vs := [_]) (rest := []) rfl rfl rfl (rcv_v hM.ob (by decide)) (c_mbad hM) ?_
      refine Rn.ri rfl (X_nil) rfl
  by_cases h2 : 0 ≤ e ∧ e ≤ M 2 0 * M 2 1 - 1
  case neg =>
    refine Op.bad1 (v := -2) (k := 0) g (by decide) (by decide) (by decide) ⟨_, rfl, ?_⟩ ⟨_, rfl, ?_⟩
    · refine Rn.cal rfl (X_ald rfl <| X_gr 7 0 hX.ob ⟨rfl, rfl⟩ rfl rfl <| X_gr 6 0 hX.s1.st ⟨rfl, rfl⟩ rfl rfl <| X_ild rfl <| X_nil) (vs := [_, _]) (rest := []) rfl rfl rfl (rcv_v hX.s1.fl (by decide)) (c_fhY hX hw.1 hw.2 is h1) ?_
      refine Rn.ieq rfl (X_nil) (by first | omega | (simp (disch := omega) only [um_eq, um_na, um_ni, Int.toNat_natCast]; omega)) (fun hc => absurd hc (by first | omega | decide | (simp (disch := omega) only [um_eq, um_na, um_ni, Int.toNat_natCast]; omega))) (fun hc => ?_)
      refine Rn.cal rfl (X_ald rfl <| X_gr 7 0 hX.ob ⟨rfl, rfl⟩ rfl rfl <| X_gr 6 0 hX.s1.st ⟨rfl, rfl⟩ rfl rfl <| X_ild rfl <| X_nil) (vs := [_, _]) (rest := []) rfl rfl rfl (rcv_v hX.s1.fl (by decide)) (c_fhN hX hw.1 hw.2 ie h2) ?_
      refine Rn.ine rfl (X_nil) (by first | omega | (simp (disch := omega) only [um_eq, um_na, um_ni, Int.toNat_natCast]; omega)) (fun hc => absurd hc (by first | omega | decide | (simp (disch := omega) only [um_eq, um_na, um_ni, Int.toNat_natCast]; omega))) (fun hc => ?_)
      refine Rn.cal rfl (X_ald rfl <| X_i <| X_nil) (vs := [_, _]) (rest := []) rfl rfl rfl (rcv_v hX.ob (by decide)) (c_bad hX) ?_
      refine Rn.ri rfl (X_nil) rfl
    · refine Rn.cal rfl (X_ald rfl <| X_i <| X_ild rfl <| X_nil) (vs := [_, _, _]) (rest := []) rfl rfl rfl (rcv_v hM.ob (by decide)) (c_icY hM (by rw [b77]; exact hm.1) (by rw [b77]; exact hm.2) hw.1 hw.2 is h1) ?_
      refine Rn.ieq rfl (X_nil) (by first | omega | (simp (disch := omega) only [um_eq, um_na, um_ni, Int.toNat_natCast]; omega)) (fun hc => absurd hc (by first | omega | decide | (simp (disch := omega) only [um_eq, um_na, um_ni, Int.toNat_natCast]; omega))) (fun hc => ?_)
      refine Rn.cal rfl (X_ald rfl <| X_i <| X_ild rfl <| X_nil) (vs := [_, _, _]) (rest := []) rfl rfl rfl (rcv_v hM.ob (by decide)) (c_icN hM (by rw [b77]; exact hm.1) (by rw [b77]; exact hm.2) hw.1 hw.2 ie h2) ?_
      refine Rn.ieq rfl (X_nil) (by first | omega | (simp (disch := omega) only [um_eq, um_na, um_ni, Int.toNat_natCast]; omega)) (fun hc => ?_) (fun hc => absurd hc (by first | omega | decide | (simp (disch := omega) only [um_eq, um_na, um_ni, Int.toNat_natCast]; omega)))
      refine Rn.cal rfl (X_ald rfl <| X_nil) (vs := [_]) (rest := []) rfl rfl rfl (rcv_v hM.ob (by decide)) (c_mbad hM) ?_
      refine Rn.ri rfl (X_nil) rfl
  obtain ⟨w, hh, e0, e1, w7, hh7, ewh, hwh⟩ := g.wh
  obtain ⟨i, rfl⟩ : ∃ i : Nat, s = (i : Int) := ⟨s.toNat, by omega⟩
  obtain ⟨j, rfl⟩ : ∃ j : Nat, e = (j : Int) := ⟨e.toNat, by omega⟩
  have hi : i < w * hh := by omega
  have hj : j < w * hh := by omega
  obtain ⟨M1, c1, f1, hD⟩ := c_measure (S := S) (M := M) (b := 1) (w := w) (hh := hh) (e := j) hS g.rg.fl.1 e0 e1 hj
  have m77 : M1 77 = M 77 := f1 77 (by decide)
  obtain ⟨M2, c2, f2, hR, hF⟩ := c_wayOf (S := S) (M := M1) (w := w) (hh := hh) (s := i) (e := j) hM (by rw [m77, hm.1]; exact e0) (by rw [m77, hm.2]; exact e1) w7 hh7 (by rw [m77]; exact g.thM) hi hj
  have hsame : M1 4 (i : Int) = M2 81 (j : Int) := way_same (N := M1) g m77 e0 e1 w7.1 hwh hi hj hD hR hF
  have hle := WayIs.le (M := M) (b := 1) (s := i) (e := j) (v := M1 4 (i : Int)) g.rg.fl.1 (show (i : Int) < M 2 0 * M 2 1 by omega) (show (j : Int) < M 2 0 * M 2 1 by omega) ⟨fun a => M1 4 (a : Int), by
    show IsW M 1 (M 2 0).toNat (M 2 1).toNat j (fun a => M1 4 (a : Int))
    rw [e0, e1, Int.toNat_natCast, Int.toNat_natCast]
    exact hD, rfl⟩
  refine ⟨M1 4 (i : Int), T, M1, M2, by omega, ⟨_, rfl, ?_⟩, ⟨_, rfl, ?_⟩, g.measured (fun a a1 a2 => by rw [f2 a a2]; exact f1 a a1)⟩
  · have cw : Cl S 22 [vR (1 + 1), vI (i : Int), vI (j : Int)] (T, M) (some (vI (M1 4 (i : Int))), (T, M1)) := by
      refine ⟨_, rfl, ?_⟩
      refine Rn.cal rfl (X_ald rfl <| X_ild rfl <| X_nil) (vs := [_, _]) (rest := []) rfl rfl rfl (rcv_v hS.fl (by decide)) (c1) ?_
      refine Rn.ri rfl (X_ald rfl <| X_gr 1 7 hS.fl ⟨rfl, rfl⟩ rfl rfl <| X_ild rfl <| X_ia hS.wy (by first | omega | (simp (disch := omega) only [um_eq, um_na, um_ni, Int.toNat_natCast]; omega)) (by first | omega | (simp (disch := omega) only [um_eq, um_na, um_ni, Int.toNat_natCast]; omega)) rfl <| X_nil) rfl
    refine Rn.cal rfl (X_ald rfl <| X_gr 7 0 hX.ob ⟨rfl, rfl⟩ rfl rfl <| X_gr 6 0 hX.s1.st ⟨rfl, rfl⟩ rfl rfl <| X_ild rfl <| X_nil) (vs := [_, _]) (rest := []) rfl rfl rfl (rcv_v hX.s1.fl (by decide)) (c_fhY hX hw.1 hw.2 is h1) ?_
    refine Rn.ieq rfl (X_nil) (by first | omega | (simp (disch := omega) only [um_eq, um_na, um_ni, Int.toNat_natCast]; omega)) (fun hc => absurd hc (by first | omega | decide | (simp (disch := omega) only [um_eq, um_na, um_ni, Int.toNat_natCast]; omega))) (fun hc => ?_)
    refine Rn.cal rfl (X_ald rfl <| X_gr 7 0 hX.ob ⟨rfl, rfl⟩ rfl rfl <| X_gr 6 0 hX.s1.st ⟨rfl, rfl⟩ rfl rfl <| X_ild rfl <| X_nil) (vs := [_, _]) (rest := []) rfl rfl rfl (rcv_v hX.s1.fl (by decide)) (c_fhY hX hw.1 hw.2 ie h2) ?_
    refine Rn.ine rfl (X_nil) (by first | omega | (simp (disch := omega) only [um_eq, um_na, um_ni, Int.toNat_natCast]; omega)) (fun hc => ?_) (fun hc => absurd hc (by first | omega | decide | (simp (disch := omega) only [um_eq, um_na, um_ni, Int.toNat_natCast]; omega)))
    refine Rn.cal rfl (X_ald rfl <| X_gr 7 0 hX.ob ⟨rfl, rfl⟩ rfl rfl <| X_gr 6 0 hX.s1.st ⟨rfl, rfl⟩ rfl rfl <| X_ild rfl <| X_ild rfl <| X_nil) (vs := [_, _, _]) (rest := []) rfl rfl rfl (rcv_v hX.s1.fl (by decide)) (cw) ?_
    refine Rn.ri rfl (X_nil) rfl
  · rw [hsame]
    refine Rn.cal rfl (X_ald rfl <| X_i <| X_ild rfl <| X_nil) (vs := [_, _, _]) (rest := []) rfl rfl rfl (rcv_v hM.ob (by decide)) (c_icY hM (by rw [m77]; exact hm.1) (by rw [m77]; exact hm.2) hw.1 hw.2 is h1) ?_
    refine Rn.ieq rfl (X_nil) (by first | omega | (simp (disch := omega) only [um_eq, um_na, um_ni, Int.toNat_natCast]; omega)) (fun hc => absurd hc (by first | omega | decide | (simp (disch := omega) only [um_eq, um_na, um_ni, Int.toNat_natCast]; omega))) (fun hc => ?_)
    refine Rn.cal rfl (X_ald rfl <| X_i <| X_ild rfl <| X_nil) (vs := [_, _, _]) (rest := []) rfl rfl rfl (rcv_v hM.ob (by decide)) (c_icY hM (by rw [m77]; exact hm.1) (by rw [m77]; exact hm.2) hw.1 hw.2 ie h2) ?_
    refine Rn.ieq rfl (X_nil) (by first | omega | (simp (disch := omega) only [um_eq, um_na, um_ni, Int.toNat_natCast]; omega)) (fun hc => absurd hc (by first | omega | decide | (simp (disch := omega) only [um_eq, um_na, um_ni, Int.toNat_natCast]; omega))) (fun hc => ?_)
    refine Rn.cal rfl (X_ald rfl <| X_ild rfl <| X_ild rfl <| X_nil) (vs := [_, _, _]) (rest := []) rfl rfl rfl (rcv_v hM.ob (by decide)) (c2) ?_
    refine Rn.jto rfl (X_nil) ?_
    refine Rn.ri rfl (X_nil) rfl
end Ways
