/-! BECOME, TYPE, CLEAR, BURN, NOTE -/
section Ops6
variable {S : List Int} {T : List Sh} {M N C : Nat → Int → Int} {K : Nat} {h : Hp}
theorem TrB.tr5 {a : Nat} {k : Int} (t : TrB C a K) (k0 : 0 ≤ k) (k5 : k ≤ 5) : -1 ≤ C a k ∧ C a k ≤ 120 := by
  obtain ⟨⟨h0, h1, h2, h3, h4, h5⟩, h6, h7⟩ := t
  rcases (show k = 0 ∨ k = 1 ∨ k = 2 ∨ k = 3 ∨ k = 4 ∨ k = 5 by omega) with rfl | rfl | rfl | rfl | rfl | rfl <;> omega
theorem TrB_set {a : Nat} {j v : Int} (t : TrB C a K) (j0 : 0 ≤ j) (j5 : j ≤ 5) (hv : (if j = 5 then -1 else 0) ≤ v ∧ v ≤ mostV j) : TrB (um C a j v) a K := by
  obtain ⟨⟨h0, h1, h2, h3, h4, h5⟩, h6, h7⟩ := t
  unfold TrB
  rcases (show j = 0 ∨ j = 1 ∨ j = 2 ∨ j = 3 ∨ j = 4 ∨ j = 5 by omega) with rfl | rfl | rfl | rfl | rfl | rfl
  · have hv : 0 ≤ v ∧ v ≤ 5 := hv
    simp (disch := omega) only [um_eq, um_ni, ne_eq]
    exact ⟨⟨hv, h1, h2, h3, h4, h5⟩, h6, h7⟩
  · have hv : 0 ≤ v ∧ v ≤ 120 := hv
    simp (disch := omega) only [um_eq, um_ni, ne_eq]
    exact ⟨⟨h0, hv, h2, h3, h4, h5⟩, h6, h7⟩
  · have hv : 0 ≤ v ∧ v ≤ 9 := hv
    simp (disch := omega) only [um_eq, um_ni, ne_eq]
    exact ⟨⟨h0, h1, hv, h3, h4, h5⟩, h6, h7⟩
  · have hv : 0 ≤ v ∧ v ≤ 20 := hv
    simp (disch := omega) only [um_eq, um_ni, ne_eq]
    exact ⟨⟨h0, h1, h2, hv, h4, h5⟩, h6, h7⟩
  · have hv : 0 ≤ v ∧ v ≤ 60 := hv
    simp (disch := omega) only [um_eq, um_ni, ne_eq]
    exact ⟨⟨h0, h1, h2, h3, hv, h5⟩, h6, h7⟩
  · have hv : -1 ≤ v ∧ v ≤ 120 := hv
    simp (disch := omega) only [um_eq, um_ni, ne_eq]
    exact ⟨⟨h0, h1, h2, h3, h4, hv⟩, h6, h7⟩
theorem op_become {s j v : Int} (g : Gl T M K) (is : I32 s) (ij : I32 j) (iv : I32 v) : Op S 74 135 [vI s, vI j, vI v] T M K := by
  have hX := g.x
  have hM := g.m
  have hS := hX.s1
  have hz := g.sz
  have e45 : M (1 + 4) 1 = M 5 1 := rfl
  have e59 : um M 59 0 (M 59 0 + 1) 77 6 = M 5 1 := by rw [um_na (by decide)]; exact hz.1
  by_cases h1 : 0 ≤ s ∧ s ≤ M 5 1 - 1
  case neg =>
    refine Op.bad1 (v := -10) (k := 0) g (by decide) (by decide) (by decide) ⟨_, rfl, ?_⟩ ⟨_, rfl, ?_⟩
    · refine Rn.cal rfl (X_ald rfl <| X_gr 7 0 hX.ob ⟨rfl, rfl⟩ rfl rfl <| X_gr 6 1 hX.s1.st ⟨rfl, rfl⟩ rfl rfl <| X_ild rfl <| X_nil) (vs := [_, _]) (rest := []) rfl rfl rfl (rcv_v hX.s1.be (by decide)) (c_bhN hX hz.2 is h1) ?_
      refine Rn.ieq rfl (X_nil) (by first | omega | (simp (disch := omega) only [um_eq, um_na, um_ni, Int.toNat_natCast]; omega)) (fun hc => ?_) (fun hc => absurd hc (by first | omega | decide | (simp (disch := omega) only [um_eq, um_na, um_ni, Int.toNat_natCast]; omega)))
      refine Rn.cal rfl (X_ald rfl <| X_i <| X_nil) (vs := [_, _]) (rest := []) rfl rfl rfl (rcv_v hX.ob (by decide)) (c_bad hX) ?_
      refine Rn.ri rfl (X_nil) rfl
    · refine Rn.cal rfl (X_ald rfl <| X_ild rfl <| X_nil) (vs := [_, _]) (rest := []) rfl rfl rfl (rcv_v hM.ob (by decide)) (c_ioN hM e59 hz.2 is h1) ?_
      refine Rn.ieq rfl (X_nil) (by first | omega | (simp (disch := omega) only [um_eq, um_na, um_ni, Int.toNat_natCast]; omega)) (fun hc => ?_) (fun hc => absurd hc (by first | omega | decide | (simp (disch := omega) only [um_eq, um_na, um_ni, Int.toNat_natCast]; omega)))
      refine Rn.fal rfl (X_i <| X_nil) ?_
      refine Rn.ieq rfl (X_ist rfl (L' := [_, _, _, _, _]) rfl <| X_ild rfl <| X_nil) (by first | omega | (simp (disch := omega) only [um_eq, um_na, um_ni, Int.toNat_natCast]; omega)) (fun hc => ?_) (fun hc => absurd hc (by first | omega | decide | (simp (disch := omega) only [um_eq, um_na, um_ni, Int.toNat_natCast]; omega)))
      refine Rn.cal rfl (X_ald rfl <| X_i <| X_nil) (vs := [_, _]) (rest := []) rfl rfl rfl (rcv_v hM.ob (by decide)) (c_mbadAs hM) ?_
      refine Rn.ri rfl (X_nil) rfl
  by_cases h2 : 0 ≤ j ∧ j ≤ 5
  case neg =>
    refine Op.bad1 (v := -10) (k := 0) g (by decide) (by decide) (by decide) ⟨_, rfl, ?_⟩ ⟨_, rfl, ?_⟩
    · refine Rn.cal rfl (X_ald rfl <| X_gr 7 0 hX.ob ⟨rfl, rfl⟩ rfl rfl <| X_gr 6 1 hX.s1.st ⟨rfl, rfl⟩ rfl rfl <| X_ild rfl <| X_nil) (vs := [_, _]) (rest := []) rfl rfl rfl (rcv_v hX.s1.be (by decide)) (c_bhY hX hz.2 is h1) ?_
      refine Rn.ieq rfl (X_nil) (by first | omega | (simp (disch := omega) only [um_eq, um_na, um_ni, Int.toNat_natCast]; omega)) (fun hc => absurd hc (by first | omega | decide | (simp (disch := omega) only [um_eq, um_na, um_ni, Int.toNat_natCast]; omega))) (fun hc => ?_)
      refine Rn.cal rfl (X_ild rfl <| X_i <| X_i <| X_nil) (vs := [_, _, _]) (rest := []) rfl rfl rfl rfl (c_wN (by omega) (by decide) (by decide) h2) ?_
      refine Rn.ieq rfl (X_nil) (by first | omega | (simp (disch := omega) only [um_eq, um_na, um_ni, Int.toNat_natCast]; omega)) (fun hc => ?_) (fun hc => absurd hc (by first | omega | decide | (simp (disch := omega) only [um_eq, um_na, um_ni, Int.toNat_natCast]; omega)))
      refine Rn.cal rfl (X_ald rfl <| X_i <| X_nil) (vs := [_, _]) (rest := []) rfl rfl rfl (rcv_v hX.ob (by decide)) (c_bad hX) ?_
      refine Rn.ri rfl (X_nil) rfl
    · refine Rn.cal rfl (X_ald rfl <| X_ild rfl <| X_nil) (vs := [_, _]) (rest := []) rfl rfl rfl (rcv_v hM.ob (by decide)) (c_ioY hM e59 hz.2 is h1) ?_
      refine Rn.ieq rfl (X_nil) (by first | omega | (simp (disch := omega) only [um_eq, um_na, um_ni, Int.toNat_natCast]; omega)) (fun hc => absurd hc (by first | omega | decide | (simp (disch := omega) only [um_eq, um_na, um_ni, Int.toNat_natCast]; omega))) (fun hc => ?_)
      refine Rn.cal rfl (X_ild rfl <| X_i2l (by first | omega | (simp (disch := omega) only [um_eq, um_na, um_ni, Int.toNat_natCast]; omega)) <| X_l <| X_l <| X_nil) (vs := [_, _, _]) (rest := []) rfl rfl rfl rfl (c_iN (by omega) (by decide) (by decide) h2) ?_
      refine Rn.ieq rfl (X_nil) (by first | omega | (simp (disch := omega) only [um_eq, um_na, um_ni, Int.toNat_natCast]; omega)) (fun hc => ?_) (fun hc => absurd hc (by first | omega | decide | (simp (disch := omega) only [um_eq, um_na, um_ni, Int.toNat_natCast]; omega)))
      refine Rn.fal rfl (X_i <| X_nil) ?_
      refine Rn.ieq rfl (X_ist rfl (L' := [_, _, _, _, _]) rfl <| X_ild rfl <| X_nil) (by first | omega | (simp (disch := omega) only [um_eq, um_na, um_ni, Int.toNat_natCast]; omega)) (fun hc => ?_) (fun hc => absurd hc (by first | omega | decide | (simp (disch := omega) only [um_eq, um_na, um_ni, Int.toNat_natCast]; omega)))
      refine Rn.cal rfl (X_ald rfl <| X_i <| X_nil) (vs := [_, _]) (rest := []) rfl rfl rfl (rcv_v hM.ob (by decide)) (c_mbadAs hM) ?_
      refine Rn.ri rfl (X_nil) rfl
  have hmo := mostV_in (k := j)
  by_cases h3 : (if j = 5 then -1 else 0) ≤ v ∧ v ≤ mostV j
  case neg =>
    refine Op.bad1 (v := -10) (k := 0) g (by decide) (by decide) (by decide) ⟨_, rfl, ?_⟩ ⟨_, rfl, ?_⟩
    · refine Rn.cal rfl (X_ald rfl <| X_gr 7 0 hX.ob ⟨rfl, rfl⟩ rfl rfl <| X_gr 6 1 hX.s1.st ⟨rfl, rfl⟩ rfl rfl <| X_ild rfl <| X_nil) (vs := [_, _]) (rest := []) rfl rfl rfl (rcv_v hX.s1.be (by decide)) (c_bhY hX hz.2 is h1) ?_
      refine Rn.ieq rfl (X_nil) (by first | omega | (simp (disch := omega) only [um_eq, um_na, um_ni, Int.toNat_natCast]; omega)) (fun hc => absurd hc (by first | omega | decide | (simp (disch := omega) only [um_eq, um_na, um_ni, Int.toNat_natCast]; omega))) (fun hc => ?_)
      refine Rn.cal rfl (X_ild rfl <| X_i <| X_i <| X_nil) (vs := [_, _, _]) (rest := []) rfl rfl rfl rfl (c_wY (by omega) (by decide) (by decide) h2) ?_
      refine Rn.ieq rfl (X_nil) (by first | omega | (simp (disch := omega) only [um_eq, um_na, um_ni, Int.toNat_natCast]; omega)) (fun hc => absurd hc (by first | omega | decide | (simp (disch := omega) only [um_eq, um_na, um_ni, Int.toNat_natCast]; omega))) (fun hc => ?_)
      refine Rn.cal rfl (X_ild rfl <| X_ild rfl <| X_nil) (vs := [_, _]) (rest := []) rfl rfl rfl rfl (c_fN h2.1 h2.2 iv h3) ?_
      refine Rn.ine rfl (X_nil) (by first | omega | (simp (disch := omega) only [um_eq, um_na, um_ni, Int.toNat_natCast]; omega)) (fun hc => absurd hc (by first | omega | decide | (simp (disch := omega) only [um_eq, um_na, um_ni, Int.toNat_natCast]; omega))) (fun hc => ?_)
      refine Rn.cal rfl (X_ald rfl <| X_i <| X_nil) (vs := [_, _]) (rest := []) rfl rfl rfl (rcv_v hX.ob (by decide)) (c_bad hX) ?_
      refine Rn.ri rfl (X_nil) rfl
    · refine Rn.cal rfl (X_ald rfl <| X_ild rfl <| X_nil) (vs := [_, _]) (rest := []) rfl rfl rfl (rcv_v hM.ob (by decide)) (c_ioY hM e59 hz.2 is h1) ?_
      refine Rn.ieq rfl (X_nil) (by first | omega | (simp (disch := omega) only [um_eq, um_na, um_ni, Int.toNat_natCast]; omega)) (fun hc => absurd hc (by first | omega | decide | (simp (disch := omega) only [um_eq, um_na, um_ni, Int.toNat_natCast]; omega))) (fun hc => ?_)
      refine Rn.cal rfl (X_ild rfl <| X_i2l (by first | omega | (simp (disch := omega) only [um_eq, um_na, um_ni, Int.toNat_natCast]; omega)) <| X_l <| X_l <| X_nil) (vs := [_, _, _]) (rest := []) rfl rfl rfl rfl (c_iY (by omega) (by decide) (by decide) h2) ?_
      refine Rn.ieq rfl (X_nil) (by first | omega | (simp (disch := omega) only [um_eq, um_na, um_ni, Int.toNat_natCast]; omega)) (fun hc => absurd hc (by first | omega | decide | (simp (disch := omega) only [um_eq, um_na, um_ni, Int.toNat_natCast]; omega))) (fun hc => ?_)
      by_cases e5 : j = 5
      · rw [if_pos (c := j = 5) e5] at h3
        refine Rn.cne rfl (X_ild rfl <| X_i2l (by first | omega | (simp (disch := omega) only [um_eq, um_na, um_ni, Int.toNat_natCast]; omega)) <| X_ild rfl <| X_i <| X_nil) (by first | omega | (simp (disch := omega) only [um_eq, um_na, um_ni, Int.toNat_natCast]; omega)) (by first | omega | (simp (disch := omega) only [um_eq, um_na, um_ni, Int.toNat_natCast]; omega)) (fun hc => absurd hc (by first | omega | decide | (simp (disch := omega) only [um_eq, um_na, um_ni, Int.toNat_natCast]; omega))) (fun hc => ?_)
        refine Rn.jto rfl (X_l <| X_nil) ?_
        refine Rn.cal rfl (X_ild rfl <| X_nil) (vs := [_]) (rest := [_, _]) rfl rfl rfl rfl (c_most (by omega)) ?_
        refine Rn.cal rfl (X_i2l (by first | omega | (simp (disch := omega) only [um_eq, um_na, um_ni, Int.toNat_natCast]; omega)) <| X_nil) (vs := [_, _, _]) (rest := []) rfl rfl rfl rfl (c_iN (by omega) (by decide) (by omega) h3) ?_
        refine Rn.ieq rfl (X_nil) (by first | omega | (simp (disch := omega) only [um_eq, um_na, um_ni, Int.toNat_natCast]; omega)) (fun hc => ?_) (fun hc => absurd hc (by first | omega | decide | (simp (disch := omega) only [um_eq, um_na, um_ni, Int.toNat_natCast]; omega)))
        refine Rn.fal rfl (X_i <| X_nil) ?_
        refine Rn.ieq rfl (X_ist rfl (L' := [_, _, _, _, _]) rfl <| X_ild rfl <| X_nil) (by first | omega | (simp (disch := omega) only [um_eq, um_na, um_ni, Int.toNat_natCast]; omega)) (fun hc => ?_) (fun hc => absurd hc (by first | omega | decide | (simp (disch := omega) only [um_eq, um_na, um_ni, Int.toNat_natCast]; omega)))
        refine Rn.cal rfl (X_ald rfl <| X_i <| X_nil) (vs := [_, _]) (rest := []) rfl rfl rfl (rcv_v hM.ob (by decide)) (c_mbadAs hM) ?_
        refine Rn.ri rfl (X_nil) rfl
      · rw [if_neg (c := j = 5) e5] at h3
        refine Rn.cne rfl (X_ild rfl <| X_i2l (by first | omega | (simp (disch := omega) only [um_eq, um_na, um_ni, Int.toNat_natCast]; omega)) <| X_ild rfl <| X_i <| X_nil) (by first | omega | (simp (disch := omega) only [um_eq, um_na, um_ni, Int.toNat_natCast]; omega)) (by first | omega | (simp (disch := omega) only [um_eq, um_na, um_ni, Int.toNat_natCast]; omega)) (fun hc => ?_) (fun hc => absurd hc (by first | omega | decide | (simp (disch := omega) only [um_eq, um_na, um_ni, Int.toNat_natCast]; omega)))
        refine Rn.fal rfl (X_l <| X_nil) ?_
        refine Rn.cal rfl (X_ild rfl <| X_nil) (vs := [_]) (rest := [_, _]) rfl rfl rfl rfl (c_most (by omega)) ?_
        refine Rn.cal rfl (X_i2l (by first | omega | (simp (disch := omega) only [um_eq, um_na, um_ni, Int.toNat_natCast]; omega)) <| X_nil) (vs := [_, _, _]) (rest := []) rfl rfl rfl rfl (c_iN (by omega) (by decide) (by omega) h3) ?_
        refine Rn.ieq rfl (X_nil) (by first | omega | (simp (disch := omega) only [um_eq, um_na, um_ni, Int.toNat_natCast]; omega)) (fun hc => ?_) (fun hc => absurd hc (by first | omega | decide | (simp (disch := omega) only [um_eq, um_na, um_ni, Int.toNat_natCast]; omega)))
        refine Rn.fal rfl (X_i <| X_nil) ?_
        refine Rn.ieq rfl (X_ist rfl (L' := [_, _, _, _, _]) rfl <| X_ild rfl <| X_nil) (by first | omega | (simp (disch := omega) only [um_eq, um_na, um_ni, Int.toNat_natCast]; omega)) (fun hc => ?_) (fun hc => absurd hc (by first | omega | decide | (simp (disch := omega) only [um_eq, um_na, um_ni, Int.toNat_natCast]; omega)))
        refine Rn.cal rfl (X_ald rfl <| X_i <| X_nil) (vs := [_, _]) (rest := []) rfl rfl rfl (rcv_v hM.ob (by decide)) (c_mbadAs hM) ?_
        refine Rn.ri rfl (X_nil) rfl
  obtain ⟨i, rfl⟩ : ∃ i : Nat, s = (i : Int) := ⟨s.toNat, by omega⟩
  have hi : i < 4 := by omega
  have htr := g.rg.tr i (by omega)
  have t5 := htr.tr5 h2.1 h2.2
  have es := g.rg.s i (by omega) j h2.1 (by omega)
  rw [Int.zero_add] at es
  have cb := c_becomes (S := S) (M := um M (1 + 16 + 2 * i) j v) (a := 59 + 4 * j + (i : Int)) (v := v) hM (by omega) (by omega)
  rw [um_na (by omega), ← es] at cb
  have e : ∀ a, a ≠ 1 + 16 + 2 * i → a ≠ 77 → um (um M (1 + 16 + 2 * i) j v) 77 (59 + 4 * j + (i : Int)) v a = M a := fun a a1 a2 => by rw [um_fn a2, um_fn a1]
  have e1 : um M (1 + 16 + 2 * i) j v 77 6 = M 5 1 := by rw [um_na (by omega)]; exact hz.1
  have e76 := e 76 (by omega) (by decide)
  have e5' := e (1 + 4) (by omega) (by decide)
  refine ⟨M (1 + 16 + 2 * i) j, T, um M (1 + 16 + 2 * i) j v, _, by omega, ⟨_, rfl, ?_⟩, ⟨_, rfl, ?_⟩, g.upd (N := um (um M (1 + 16 + 2 * i) j v) 77 (59 + 4 * j + (i : Int)) v) (Kept.of (fun a ha => e a (by omega) (by omega)) (by rw [e76]) (by rw [e76]) (by rw [e76]) (fun k k0 k1 => by rw [um_ni (by omega), um_na (by omega)])) ?_ (g.re.cg (e _ (by omega) (by decide)) (e _ (by omega) (by decide)) (by omega)) (by omega)⟩
  · refine Rn.cal rfl (X_ald rfl <| X_gr 7 0 hX.ob ⟨rfl, rfl⟩ rfl rfl <| X_gr 6 1 hX.s1.st ⟨rfl, rfl⟩ rfl rfl <| X_ild rfl <| X_nil) (vs := [_, _]) (rest := []) rfl rfl rfl (rcv_v hX.s1.be (by decide)) (c_bhY hX hz.2 is h1) ?_
    refine Rn.ieq rfl (X_nil) (by first | omega | (simp (disch := omega) only [um_eq, um_na, um_ni, Int.toNat_natCast]; omega)) (fun hc => absurd hc (by first | omega | decide | (simp (disch := omega) only [um_eq, um_na, um_ni, Int.toNat_natCast]; omega))) (fun hc => ?_)
    refine Rn.cal rfl (X_ild rfl <| X_i <| X_i <| X_nil) (vs := [_, _, _]) (rest := []) rfl rfl rfl rfl (c_wY (by omega) (by decide) (by decide) h2) ?_
    refine Rn.ieq rfl (X_nil) (by first | omega | (simp (disch := omega) only [um_eq, um_na, um_ni, Int.toNat_natCast]; omega)) (fun hc => absurd hc (by first | omega | decide | (simp (disch := omega) only [um_eq, um_na, um_ni, Int.toNat_natCast]; omega))) (fun hc => ?_)
    refine Rn.cal rfl (X_ild rfl <| X_ild rfl <| X_nil) (vs := [_, _]) (rest := []) rfl rfl rfl rfl (c_fY h2.1 h2.2 iv h3) ?_
    refine Rn.ine rfl (X_nil) (by first | omega | (simp (disch := omega) only [um_eq, um_na, um_ni, Int.toNat_natCast]; omega)) (fun hc => ?_) (fun hc => absurd hc (by first | omega | decide | (simp (disch := omega) only [um_eq, um_na, um_ni, Int.toNat_natCast]; omega)))
    refine Rn.ri rfl (X_ald rfl <| X_gr 7 0 hX.ob ⟨rfl, rfl⟩ rfl rfl <| X_gr 6 1 hX.s1.st ⟨rfl, rfl⟩ rfl rfl <| X_gr 0 0 hX.s1.be ⟨rfl, rfl⟩ rfl rfl <| X_ild rfl <| X_aa hX.s1.sl (by decide) (by first | omega | (simp (disch := omega) only [um_eq, um_na, um_ni, Int.toNat_natCast]; omega)) (by first | omega | (simp (disch := omega) only [um_eq, um_na, um_ni, Int.toNat_natCast]; omega)) rfl (rSl_at (by omega)) <| X_gr 5 0 (hX.s1.se (by omega)) ⟨rfl, rfl⟩ rfl rfl <| X_ast rfl (L' := [_, _, _, _, _, _]) rfl <| X_ald rfl <| X_ild rfl <| X_ia (hX.s1.tr (by omega)) (by first | omega | (simp (disch := omega) only [um_eq, um_na, um_ni, Int.toNat_natCast]; omega)) (by first | omega | (simp (disch := omega) only [um_eq, um_na, um_ni, Int.toNat_natCast]; omega)) rfl <| X_ist rfl (L' := [_, _, _, _, _, _]) rfl <| X_ald rfl <| X_ild rfl <| X_ild rfl <| X_is (hX.s1.tr (by omega)) (by first | omega | (simp (disch := omega) only [um_eq, um_na, um_ni, Int.toNat_natCast]; omega)) (by first | omega | (simp (disch := omega) only [um_eq, um_na, um_ni, Int.toNat_natCast]; omega)) rfl <| X_ild rfl <| X_nil) rfl
  · refine Rn.cal rfl (X_ald rfl <| X_ild rfl <| X_nil) (vs := [_, _]) (rest := []) rfl rfl rfl (rcv_v hM.ob (by decide)) (c_ioY hM e1 hz.2 is h1) ?_
    refine Rn.ieq rfl (X_nil) (by first | omega | (simp (disch := omega) only [um_eq, um_na, um_ni, Int.toNat_natCast]; omega)) (fun hc => absurd hc (by first | omega | decide | (simp (disch := omega) only [um_eq, um_na, um_ni, Int.toNat_natCast]; omega))) (fun hc => ?_)
    refine Rn.cal rfl (X_ild rfl <| X_i2l (by first | omega | (simp (disch := omega) only [um_eq, um_na, um_ni, Int.toNat_natCast]; omega)) <| X_l <| X_l <| X_nil) (vs := [_, _, _]) (rest := []) rfl rfl rfl rfl (c_iY (by omega) (by decide) (by decide) h2) ?_
    refine Rn.ieq rfl (X_nil) (by first | omega | (simp (disch := omega) only [um_eq, um_na, um_ni, Int.toNat_natCast]; omega)) (fun hc => absurd hc (by first | omega | decide | (simp (disch := omega) only [um_eq, um_na, um_ni, Int.toNat_natCast]; omega))) (fun hc => ?_)
    by_cases e5 : j = 5
    · rw [if_pos (c := j = 5) e5] at h3
      refine Rn.cne rfl (X_ild rfl <| X_i2l (by first | omega | (simp (disch := omega) only [um_eq, um_na, um_ni, Int.toNat_natCast]; omega)) <| X_ild rfl <| X_i <| X_nil) (by first | omega | (simp (disch := omega) only [um_eq, um_na, um_ni, Int.toNat_natCast]; omega)) (by first | omega | (simp (disch := omega) only [um_eq, um_na, um_ni, Int.toNat_natCast]; omega)) (fun hc => absurd hc (by first | omega | decide | (simp (disch := omega) only [um_eq, um_na, um_ni, Int.toNat_natCast]; omega))) (fun hc => ?_)
      refine Rn.jto rfl (X_l <| X_nil) ?_
      refine Rn.cal rfl (X_ild rfl <| X_nil) (vs := [_]) (rest := [_, _]) rfl rfl rfl rfl (c_most (by omega)) ?_
      refine Rn.cal rfl (X_i2l (by first | omega | (simp (disch := omega) only [um_eq, um_na, um_ni, Int.toNat_natCast]; omega)) <| X_nil) (vs := [_, _, _]) (rest := []) rfl rfl rfl rfl (c_iY (by omega) (by decide) (by omega) h3) ?_
      refine Rn.ieq rfl (X_nil) (by first | omega | (simp (disch := omega) only [um_eq, um_na, um_ni, Int.toNat_natCast]; omega)) (fun hc => absurd hc (by first | omega | decide | (simp (disch := omega) only [um_eq, um_na, um_ni, Int.toNat_natCast]; omega))) (fun hc => ?_)
      refine Rn.jto rfl (X_i <| X_nil) ?_
      refine Rn.ieq rfl (X_ist rfl (L' := [_, _, _, _, _]) rfl <| X_ild rfl <| X_nil) (by first | omega | (simp (disch := omega) only [um_eq, um_na, um_ni, Int.toNat_natCast]; omega)) (fun hc => absurd hc (by first | omega | decide | (simp (disch := omega) only [um_eq, um_na, um_ni, Int.toNat_natCast]; omega))) (fun hc => ?_)
      refine Rn.cal rfl (X_ald rfl <| X_i <| X_i <| X_ild rfl <| X_mul <| X_add <| X_ild rfl <| X_add <| X_ild rfl <| X_nil) (vs := [_, _, _]) (rest := []) rfl rfl rfl (rcv_v hM.ob (by decide)) (cb) ?_
      refine Rn.jto rfl (X_nil) ?_
      refine Rn.ri rfl (X_nil) rfl
    · rw [if_neg (c := j = 5) e5] at h3
      refine Rn.cne rfl (X_ild rfl <| X_i2l (by first | omega | (simp (disch := omega) only [um_eq, um_na, um_ni, Int.toNat_natCast]; omega)) <| X_ild rfl <| X_i <| X_nil) (by first | omega | (simp (disch := omega) only [um_eq, um_na, um_ni, Int.toNat_natCast]; omega)) (by first | omega | (simp (disch := omega) only [um_eq, um_na, um_ni, Int.toNat_natCast]; omega)) (fun hc => ?_) (fun hc => absurd hc (by first | omega | decide | (simp (disch := omega) only [um_eq, um_na, um_ni, Int.toNat_natCast]; omega)))
      refine Rn.fal rfl (X_l <| X_nil) ?_
      refine Rn.cal rfl (X_ild rfl <| X_nil) (vs := [_]) (rest := [_, _]) rfl rfl rfl rfl (c_most (by omega)) ?_
      refine Rn.cal rfl (X_i2l (by first | omega | (simp (disch := omega) only [um_eq, um_na, um_ni, Int.toNat_natCast]; omega)) <| X_nil) (vs := [_, _, _]) (rest := []) rfl rfl rfl rfl (c_iY (by omega) (by decide) (by omega) h3) ?_
      refine Rn.ieq rfl (X_nil) (by first | omega | (simp (disch := omega) only [um_eq, um_na, um_ni, Int.toNat_natCast]; omega)) (fun hc => absurd hc (by first | omega | decide | (simp (disch := omega) only [um_eq, um_na, um_ni, Int.toNat_natCast]; omega))) (fun hc => ?_)
      refine Rn.jto rfl (X_i <| X_nil) ?_
      refine Rn.ieq rfl (X_ist rfl (L' := [_, _, _, _, _]) rfl <| X_ild rfl <| X_nil) (by first | omega | (simp (disch := omega) only [um_eq, um_na, um_ni, Int.toNat_natCast]; omega)) (fun hc => absurd hc (by first | omega | decide | (simp (disch := omega) only [um_eq, um_na, um_ni, Int.toNat_natCast]; omega))) (fun hc => ?_)
      refine Rn.cal rfl (X_ald rfl <| X_i <| X_i <| X_ild rfl <| X_mul <| X_add <| X_ild rfl <| X_add <| X_ild rfl <| X_nil) (vs := [_, _, _]) (rest := []) rfl rfl rfl (rcv_v hM.ob (by decide)) (cb) ?_
      refine Rn.jto rfl (X_nil) ?_
      refine Rn.ri rfl (X_nil) rfl
  · refine g.rg.bed (by omega) (fun a ha => e a (by omega) (by omega)) (by rw [e5']) (by rw [e5']) (fun k hk => by rw [um_ni (by omega), um_na (by omega)]) (by rw [e5', um_ni (by omega), um_na (by omega)]; exact g.rg.z) (by rw [e5']; exact hz.2) (fun x hx k k0 k8 => ?_) (fun x hx => ?_)
    · rw [e5'] at hx
      have ex := g.rg.s x hx k k0 k8
      rw [um_na (by omega)]
      by_cases exi : x = i ∧ k = j
      · obtain ⟨rfl, rfl⟩ := exi
        rw [um_eq, show 0 + 59 + 4 * k + (x : Int) = 59 + 4 * k + x by omega, um_eq]
      · rw [um_ni (a := 77) (by omega), um_na (a := 1 + 16 + 2 * i) (a' := 77) (by omega), ← ex]
        by_cases hxi : x = i
        · subst hxi
          rw [um_ni (fun z => exi ⟨rfl, z⟩)]
        · rw [um_na (by omega)]
    · rw [e5'] at hx
      by_cases hxi : x = i
      · subst hxi
        refine TrB_pw (C := um M (1 + 16 + 2 * x) j v) (a := 1 + 16 + 2 * x) (K := K) (by omega) (fun k _ _ => by rw [um_na (by omega)]) (TrB_set htr h2.1 h2.2 h3)
      · exact TrB_pw (by omega) (fun k _ _ => by rw [e _ (by omega) (by omega)]) (g.rg.tr x hx)
theorem Rg.notes {C' : Nat → Int → Int} {b : Nat} {W W' : Int → Int} {r : Int} {K' : Nat} (h : Rg C b W r K) (hK : K ≤ K') (hc : ∀ a, b + 1 ≤ a → a < b + 23 → C' a = C a) (hw : ∀ k, (0 ≤ k ∧ k < 7) ∨ (8 ≤ k ∧ k < 91) ∨ (107 ≤ k ∧ k < 187) → W' (r + k) = W (r + k)) (hm : C' (b + 23) 0 = W' (r + 7)) (m8 : 0 ≤ C' (b + 23) 0 ∧ C' (b + 23) 0 ≤ 8) (hn : ∀ i, 0 ≤ i → i < C' (b + 23) 0 → (C' (b + 24) i = W' (r + 91 + i) ∧ C' (b + 25) i = W' (r + 99 + i)) ∧ (0 ≤ C' (b + 24) i ∧ C' (b + 24) i ≤ 3) ∧ (0 ≤ C' (b + 25) i ∧ C' (b + 25) i ≤ 15)) : Rg C' b W' r K' := by
  have u8 := h.u8
  have z4 := h.z4
  have n4 := h.n4
  have e1 := hc (b + 1) (by omega) (by omega)
  have e2 := hc (b + 2) (by omega) (by omega)
  have e4 := hc (b + 4) (by omega) (by omega)
  have hw' : ∀ j : Int, (r ≤ j ∧ j < r + 7) ∨ (r + 8 ≤ j ∧ j < r + 91) ∨ (r + 107 ≤ j ∧ j < r + 187) → W' j = W j := fun j hj => by
    have := hw (j - r) (by omega)
    rw [show r + (j - r) = j by omega] at this
    exact this
  unfold Rg
  rw [e1, e2, e4]
  refine ⟨fun k k0 k6 => ?_, fun c c0 c1 => ?_, ?_, hm, ?_, ?_, ?_, hn, ?_, ?_, z4, by omega, u8, m8, ?_⟩
  · rw [hw' _ (by omega)]; exact h.f k k0 k6
  · rw [hw' _ (by omega)]; exact h.t c c0 c1
  · rw [hw' _ (by omega)]; exact h.z
  · rw [hw' _ (by omega)]; exact h.n
  · rw [hw' _ (by omega)]; exact h.u
  · intro i hi k k0 k8
    rw [hc (b + 16 + 2 * i) (by omega) (by omega), hw' _ (by omega)]
    exact h.s i hi k k0 k8
  · intro i hi
    have e := h.p i hi
    have ea : rowA C' b i = rowA C b i := by unfold rowA; rw [e4]
    have hk : ((C (b + 4) 2 - C (b + 4) 3 + (i : Int)) % 8).toNat < 8 := by omega
    rw [ea]
    have er : C' (rowA C b i) = C (rowA C b i) := hc _ (by unfold rowA; omega) (by unfold rowA; omega)
    unfold RowOk at e ⊢
    rw [er, e4, hw' (r + 107 + 10 * (i : Int) + 9) (by omega), hw' (r + 107 + 10 * (i : Int) + 8) (by omega)]
    obtain ⟨q1, q2, q3, q4⟩ := e
    refine ⟨q1, q2, q3, fun s hs => ?_⟩
    rw [hw' (r + 107 + 10 * (i : Int) + s) (by omega), hw' (r + 107 + 10 * (i : Int) + 4 + s) (by omega)]
    obtain ⟨p1, p2, p3⟩ := q4 s hs
    exact ⟨p1, by omega, by omega⟩
  · exact FlNo_pw (C := C) (o := b) (by rw [e1]) (by rw [e1]) (by rw [e1]) (by rw [e1]) (by rw [e1]) (by rw [e1]) (by rw [e1]) (fun _ _ _ => by rw [e2]) h.fl
  · intro i hi
    exact TrB_pw hK (fun k _ _ => by rw [hc (b + 16 + 2 * i) (by omega) (by omega)]) (h.tr i hi)
theorem op_burn (g : Gl T M K) : Op S 94 184 [] T M K := by
  have hX := g.x
  have hM := g.m
  have hS := hX.s1
  have m8 : 0 ≤ M 24 0 ∧ M 24 0 ≤ 8 := g.rg.m8
  have em : M 24 0 = M 77 7 := g.rg.m
  have e : ∀ a, a ≠ 24 → a ≠ 77 → um (um M 24 0 0) 77 7 0 a = M a := fun a a1 a2 => by rw [um_fn a2, um_fn a1]
  have e76 := e 76 (by omega) (by decide)
  refine ⟨M 24 0, T, um M 24 0 0, um (um M 24 0 0) 77 7 0, by omega, ⟨_, rfl, ?_⟩, ⟨_, rfl, ?_⟩, g.upd (Kept.of (fun a ha => e a (by omega) (by omega)) (by rw [e76]) (by rw [e76]) (by rw [e76]) (fun k k0 k1 => by rw [um_ni (by omega), um_na (by omega)])) ?_ (g.re.cg (e _ (by omega) (by decide)) (e _ (by omega) (by decide)) (by omega)) (by omega)⟩
  · refine Rn.ri rfl (X_ald rfl <| X_gr 7 0 hX.ob ⟨rfl, rfl⟩ rfl rfl <| X_gr 6 2 hX.s1.st ⟨rfl, rfl⟩ rfl rfl <| X_gi 3 0 0 hX.s1.no ⟨rfl, rfl, rfl⟩ (Or.inl rfl) <| X_ist rfl (L' := [_, _]) rfl <| X_ald rfl <| X_gr 7 0 hX.ob ⟨rfl, rfl⟩ rfl rfl <| X_gr 6 2 hX.s1.st ⟨rfl, rfl⟩ rfl rfl <| X_i <| X_pi 3 0 0 hX.s1.no ⟨rfl, rfl, rfl⟩ (Or.inl rfl) <| X_ild rfl <| X_nil) rfl
  · have e2 : M 24 0 = um M 24 0 0 77 7 := by rw [um_na (by decide)]; exact em
    rw [e2]
    refine Rn.ri rfl (X_ald rfl <| X_gr 8 0 hM.ob ⟨rfl, rfl⟩ rfl rfl <| X_i <| X_ia hM.w (by first | omega | (simp (disch := omega) only [um_eq, um_na, um_ni, Int.toNat_natCast]; omega)) (by first | omega | (simp (disch := omega) only [um_eq, um_na, um_ni, Int.toNat_natCast]; omega)) rfl <| X_ist rfl (L' := [_, _]) rfl <| X_ald rfl <| X_gr 8 0 hM.ob ⟨rfl, rfl⟩ rfl rfl <| X_i <| X_i <| X_is hM.w (by first | omega | (simp (disch := omega) only [um_eq, um_na, um_ni, Int.toNat_natCast]; omega)) (by first | omega | (simp (disch := omega) only [um_eq, um_na, um_ni, Int.toNat_natCast]; omega)) rfl <| X_ild rfl <| X_nil) rfl
  · refine g.rg.notes (by omega) (fun a a1 a2 => e a (by omega) (by omega)) (fun k hk => by rw [um_ni (by omega), um_na (by omega)]) ?_ ?_ (fun i i0 i1 => ?_)
    · show um (um M 24 0 0) 77 7 0 24 0 = um (um M 24 0 0) 77 7 0 77 7
      rw [um_na (by decide), um_eq, um_eq]
    · show 0 ≤ um (um M 24 0 0) 77 7 0 24 0 ∧ um (um M 24 0 0) 77 7 0 24 0 ≤ 8
      rw [um_na (by decide), um_eq]
      decide
    · have i1 : i < um (um M 24 0 0) 77 7 0 24 0 := i1
      rw [um_na (by decide), um_eq] at i1
      omega
end Ops6
