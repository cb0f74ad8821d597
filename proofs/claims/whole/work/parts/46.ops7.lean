/-! TYPE, CLEAR, STATUS, COUNT, NOTE, PART -/
section Ops7
variable {S : List Int} {T : List Sh} {M N C : Nat → Int → Int} {K : Nat} {h : Hp}
theorem i2b_in {c : Int} (h0 : 0 ≤ c) (h1 : c ≤ 127) : o_i2b c = c := by
  have key : ∀ n : Fin 128, o_i2b (n.val : Int) = (n.val : Int) := by decide
  have := key ⟨c.toNat, by omega⟩
  rw [show ((⟨c.toNat, by omega⟩ : Fin 128).val : Int) = c by show ((c.toNat : Nat) : Int) = c; omega] at this
  exact this
theorem Gl.same (g : Gl T M K) (e : ∀ a, N a = M a) : Gl T N (K + 1) := by
  refine g.upd (Kept.of (fun a _ => e a) (by rw [e]) (by rw [e]) (by rw [e]) (fun k _ _ => by rw [e])) ?_ (g.re.cg (e _) (e _) (by omega)) (by omega)
  rw [e]
  exact g.rg.cg (fun a _ _ _ => e a) (by omega)
theorem Gl.up1 (g : Gl T M K) : Gl T M (K + 1) := g.same (fun _ => rfl)
theorem op_type {c : Int} (g : Gl T M K) (ic : I32 c) : Op S 75 136 [vI c] T M K := by
  have hX := g.x
  have hM := g.m
  obtain ⟨t1, t2, t3⟩ := g.tx
  by_cases h1 : 0 ≤ c ∧ c ≤ 127
  case neg =>
    refine Op.bad (v := -2) (k := 0) g (by decide) (by decide) (by decide) ⟨_, rfl, ?_⟩ (fun M1 h80 => ⟨_, rfl, ?_⟩) trivial
    · refine Rn.cal rfl (X_ild rfl <| X_i <| X_i <| X_nil) (vs := [_, _, _]) (rest := []) rfl rfl rfl rfl (c_wN (by omega) (by decide) (by decide) h1) ?_
      refine Rn.ine rfl (X_nil) (by first | omega | (simp (disch := omega) only [um_eq, um_na, um_ni, Int.toNat_natCast]; omega)) (fun hc => absurd hc (by first | omega | decide | (simp (disch := omega) only [um_eq, um_na, um_ni, Int.toNat_natCast]; omega))) (fun hc => ?_)
      refine Rn.cal rfl (X_ald rfl <| X_i <| X_nil) (vs := [_, _]) (rest := []) rfl rfl rfl (rcv_v hX.ob (by decide)) (c_bad hX) ?_
      refine Rn.ri rfl (X_nil) rfl
    · refine Rn.cal rfl (X_ild rfl <| X_i2l (by first | omega | (simp (disch := omega) only [um_eq, um_na, um_ni, Int.toNat_natCast]; omega)) <| X_l <| X_l <| X_nil) (vs := [_, _, _]) (rest := []) rfl rfl rfl rfl (c_iN (by omega) (by decide) (by decide) h1) ?_
      refine Rn.ine rfl (X_nil) (by first | omega | (simp (disch := omega) only [um_eq, um_na, um_ni, Int.toNat_natCast]; omega)) (fun hc => absurd hc (by first | omega | decide | (simp (disch := omega) only [um_eq, um_na, um_ni, Int.toNat_natCast]; omega))) (fun hc => ?_)
      refine Rn.cal rfl (X_ald rfl <| X_nil) (vs := [_]) (rest := []) rfl rfl rfl (rcv_v hM.ob (by decide)) (c_mbad hM) ?_
      refine Rn.ri rfl (X_nil) rfl
  by_cases h2 : M 56 0 < 150
  case neg =>
    have e3 : um M 59 2 (M 59 2 + 1) 76 3 = 150 := by rw [um_na (by decide)]; omega
    refine Op.bad1 (v := -4) (k := 2) g (by decide) (by decide) (by decide) ⟨_, rfl, ?_⟩ ⟨_, rfl, ?_⟩
    · refine Rn.cal rfl (X_ild rfl <| X_i <| X_i <| X_nil) (vs := [_, _, _]) (rest := []) rfl rfl rfl rfl (c_wY (by omega) (by decide) (by decide) h1) ?_
      refine Rn.ine rfl (X_nil) (by first | omega | (simp (disch := omega) only [um_eq, um_na, um_ni, Int.toNat_natCast]; omega)) (fun hc => ?_) (fun hc => absurd hc (by first | omega | decide | (simp (disch := omega) only [um_eq, um_na, um_ni, Int.toNat_natCast]; omega)))
      refine Rn.clt rfl (X_ald rfl <| X_gr 7 3 hX.ob ⟨rfl, rfl⟩ rfl rfl <| X_gi 4 0 0 hX.sc ⟨rfl, rfl, rfl⟩ (Or.inl rfl) <| X_i <| X_nil) (by first | omega | (simp (disch := omega) only [um_eq, um_na, um_ni, Int.toNat_natCast]; omega)) (by first | omega | (simp (disch := omega) only [um_eq, um_na, um_ni, Int.toNat_natCast]; omega)) (fun hc => absurd hc (by first | omega | decide | (simp (disch := omega) only [um_eq, um_na, um_ni, Int.toNat_natCast]; omega))) (fun hc => ?_)
      refine Rn.cal rfl (X_ald rfl <| X_nil) (vs := [_]) (rest := []) rfl rfl rfl (rcv_v hX.ob (by decide)) (c_full hX) ?_
      refine Rn.ri rfl (X_nil) rfl
    · refine Rn.cal rfl (X_ild rfl <| X_i2l (by first | omega | (simp (disch := omega) only [um_eq, um_na, um_ni, Int.toNat_natCast]; omega)) <| X_l <| X_l <| X_nil) (vs := [_, _, _]) (rest := []) rfl rfl rfl rfl (c_iY (by omega) (by decide) (by decide) h1) ?_
      refine Rn.ine rfl (X_nil) (by first | omega | (simp (disch := omega) only [um_eq, um_na, um_ni, Int.toNat_natCast]; omega)) (fun hc => ?_) (fun hc => absurd hc (by first | omega | decide | (simp (disch := omega) only [um_eq, um_na, um_ni, Int.toNat_natCast]; omega)))
      refine Rn.cne rfl (X_ald rfl <| X_gi 8 3 3 hM.ob ⟨rfl, rfl, rfl⟩ (Or.inl rfl) <| X_i <| X_nil) (by first | omega | (simp (disch := omega) only [um_eq, um_na, um_ni, Int.toNat_natCast]; omega)) (by first | omega | (simp (disch := omega) only [um_eq, um_na, um_ni, Int.toNat_natCast]; omega)) (fun hc => absurd hc (by first | omega | decide | (simp (disch := omega) only [um_eq, um_na, um_ni, Int.toNat_natCast]; omega))) (fun hc => ?_)
      refine Rn.cal rfl (X_ald rfl <| X_i <| X_nil) (vs := [_, _]) (rest := []) rfl rfl rfl (rcv_v hM.ob (by decide)) (c_met hM (Or.inr (Or.inr rfl))) ?_
      refine Rn.ri rfl (X_nil) rfl
  have ib := i2b_in h1.1 h1.2
  have ca : Cl S 37 [vR 56, vI c] (T, M) (none, (T, um (um M 57 (M 56 0) c) 56 0 (M 56 0 + 1))) := by
    obtain ⟨N, hN, eN⟩ : ∃ N, Rn S 37 0 ([], [some (vR 56), some (vI c)], T, M) (none, (T, N)) ∧ N = um (um M 57 (M 56 0) c) 56 0 (M 56 0 + 1) := by
      refine ⟨_, (Rn.rv rfl (X_ald rfl <| X_gr 4 1 hX.sc ⟨rfl, rfl⟩ rfl rfl <| X_ald rfl <| X_gi 4 0 0 hX.sc ⟨rfl, rfl, rfl⟩ (Or.inl rfl) <| X_ild rfl <| X_i2b <| X_bs hX.by' (by decide) (by first | omega | (simp (disch := omega) only [um_eq, um_na, um_ni, Int.toNat_natCast]; omega)) (by first | omega | (simp (disch := omega) only [um_eq, um_na, um_ni, Int.toNat_natCast]; omega)) rfl <| X_ald rfl <| X_dupr <| X_gi 4 0 0 hX.sc ⟨rfl, rfl, rfl⟩ (Or.inl rfl) <| X_i <| X_add <| X_pi 4 0 0 hX.sc ⟨rfl, rfl, rfl⟩ (Or.inl rfl) <| X_nil) rfl), ?_⟩
      simp (disch := omega) only [um_na, ib, if_true, ne_eq]
    rw [eN] at hN
    exact ⟨_, rfl, hN⟩
  have m1 : ∀ a, a ≠ 56 → a ≠ 57 → um (um M 57 (M 56 0) c) 56 0 (M 56 0 + 1) a = M a := fun a a1 a2 => by rw [um_fn a1, um_fn a2]
  have e3 : um (um M 57 (M 56 0) c) 56 0 (M 56 0 + 1) 76 3 = M 56 0 := by rw [m1 76 (by decide) (by decide)]; exact t1.symm
  have e4 : ∀ a, a ≠ 56 → a ≠ 57 → a ≠ 76 → a ≠ 79 → um (um (um (um M 57 (M 56 0) c) 56 0 (M 56 0 + 1)) 79 (M 56 0) c) 76 3 (M 56 0 + 1) a = M a := fun a a1 a2 a3 a4 => by rw [um_fn a3, um_fn a4, m1 a a1 a2]
  refine ⟨M 56 0 + 1, T, um (um M 57 (M 56 0) c) 56 0 (M 56 0 + 1), um (um (um (um M 57 (M 56 0) c) 56 0 (M 56 0 + 1)) 79 (M 56 0) c) 76 3 (M 56 0 + 1), by omega, ⟨_, rfl, ?_⟩, ⟨_, rfl, ?_⟩, ⟨hX, hM, ?_, ?_, ?_, ?_, ?_⟩⟩
  · refine Rn.cal rfl (X_ild rfl <| X_i <| X_i <| X_nil) (vs := [_, _, _]) (rest := []) rfl rfl rfl rfl (c_wY (by omega) (by decide) (by decide) h1) ?_
    refine Rn.ine rfl (X_nil) (by first | omega | (simp (disch := omega) only [um_eq, um_na, um_ni, Int.toNat_natCast]; omega)) (fun hc => ?_) (fun hc => absurd hc (by first | omega | decide | (simp (disch := omega) only [um_eq, um_na, um_ni, Int.toNat_natCast]; omega)))
    refine Rn.clt rfl (X_ald rfl <| X_gr 7 3 hX.ob ⟨rfl, rfl⟩ rfl rfl <| X_gi 4 0 0 hX.sc ⟨rfl, rfl, rfl⟩ (Or.inl rfl) <| X_i <| X_nil) (by first | omega | (simp (disch := omega) only [um_eq, um_na, um_ni, Int.toNat_natCast]; omega)) (by first | omega | (simp (disch := omega) only [um_eq, um_na, um_ni, Int.toNat_natCast]; omega)) (fun hc => ?_) (fun hc => absurd hc (by first | omega | decide | (simp (disch := omega) only [um_eq, um_na, um_ni, Int.toNat_natCast]; omega)))
    refine Rn.cal rfl (X_ald rfl <| X_gr 7 3 hX.ob ⟨rfl, rfl⟩ rfl rfl <| X_ild rfl <| X_nil) (vs := [_, _]) (rest := []) rfl rfl rfl (rcv_v hX.sc (by decide)) (ca) ?_
    have er : M 56 0 + 1 = um (um M 57 (M 56 0) c) 56 0 (M 56 0 + 1) 56 0 := by rw [um_eq]
    obtain ⟨z, hN, ez⟩ : ∃ z, Rn S 75 43 ([], [some (vR 0), some (vI c)], T, um (um M 57 (M 56 0) c) 56 0 (M 56 0 + 1)) (some (vI z), (T, um (um M 57 (M 56 0) c) 56 0 (M 56 0 + 1))) ∧ z = M 56 0 + 1 := ⟨_, (Rn.ri rfl (X_ald rfl <| X_gr 7 3 hX.ob ⟨rfl, rfl⟩ rfl rfl <| X_gi 4 0 0 hX.sc ⟨rfl, rfl, rfl⟩ (Or.inl rfl) <| X_nil) rfl), um_eq⟩
    rw [ez] at hN
    exact hN
  · refine Rn.cal rfl (X_ild rfl <| X_i2l (by first | omega | (simp (disch := omega) only [um_eq, um_na, um_ni, Int.toNat_natCast]; omega)) <| X_l <| X_l <| X_nil) (vs := [_, _, _]) (rest := []) rfl rfl rfl rfl (c_iY (by omega) (by decide) (by decide) h1) ?_
    refine Rn.ine rfl (X_nil) (by first | omega | (simp (disch := omega) only [um_eq, um_na, um_ni, Int.toNat_natCast]; omega)) (fun hc => ?_) (fun hc => absurd hc (by first | omega | decide | (simp (disch := omega) only [um_eq, um_na, um_ni, Int.toNat_natCast]; omega)))
    refine Rn.cne rfl (X_ald rfl <| X_gi 8 3 3 hM.ob ⟨rfl, rfl, rfl⟩ (Or.inl rfl) <| X_i <| X_nil) (by first | omega | (simp (disch := omega) only [um_eq, um_na, um_ni, Int.toNat_natCast]; omega)) (by first | omega | (simp (disch := omega) only [um_eq, um_na, um_ni, Int.toNat_natCast]; omega)) (fun hc => ?_) (fun hc => absurd hc (by first | omega | decide | (simp (disch := omega) only [um_eq, um_na, um_ni, Int.toNat_natCast]; omega)))
    obtain ⟨z, N, hN, ez, eN⟩ : ∃ z N, Rn S 136 34 ([], [some (vR 76), some (vI c)], T, um (um M 57 (M 56 0) c) 56 0 (M 56 0 + 1)) (some (vI z), (T, N)) ∧ z = M 56 0 + 1 ∧ N = um (um (um (um M 57 (M 56 0) c) 56 0 (M 56 0 + 1)) 79 (M 56 0) c) 76 3 (M 56 0 + 1) := by
      refine ⟨_, _, (Rn.ri rfl (X_ald rfl <| X_gr 8 2 hM.ob ⟨rfl, rfl⟩ rfl rfl <| X_ald rfl <| X_gi 8 3 3 hM.ob ⟨rfl, rfl, rfl⟩ (Or.inl rfl) <| X_ild rfl <| X_is hM.te (by first | omega | (simp (disch := omega) only [um_eq, um_na, um_ni, Int.toNat_natCast]; omega)) (by first | omega | (simp (disch := omega) only [um_eq, um_na, um_ni, Int.toNat_natCast]; omega)) rfl <| X_ald rfl <| X_dupr <| X_gi 8 3 3 hM.ob ⟨rfl, rfl, rfl⟩ (Or.inl rfl) <| X_i <| X_add <| X_pi 8 3 3 hM.ob ⟨rfl, rfl, rfl⟩ (Or.inl rfl) <| X_ald rfl <| X_gi 8 3 3 hM.ob ⟨rfl, rfl, rfl⟩ (Or.inl rfl) <| X_nil) rfl), ?_, ?_⟩
      · rw [um_eq, um_na (by decide), e3]
      · rw [um_na (a := 79) (by decide), e3]
    rw [ez, eN] at hN
    exact hN
  · rw [e4 77 (by decide) (by decide) (by decide) (by decide)]
    exact g.rg.cg (fun a a1 a2 _ => e4 a (by omega) (by omega) (by omega) (by omega)) (by omega)
  · unfold TxOk
    have q56 : um (um (um (um M 57 (M 56 0) c) 56 0 (M 56 0 + 1)) 79 (M 56 0) c) 76 3 (M 56 0 + 1) 56 0 = M 56 0 + 1 := by rw [um_na (by decide), um_na (by decide), um_eq]
    have q76 : um (um (um (um M 57 (M 56 0) c) 56 0 (M 56 0 + 1)) 79 (M 56 0) c) 76 3 (M 56 0 + 1) 76 3 = M 56 0 + 1 := um_eq
    rw [q56, q76]
    refine ⟨rfl, by omega, fun i i0 i1 => ?_⟩
    rw [um_na (by decide), um_na (by decide), um_na (by decide), um_na (a' := 79) (a := 76) (by decide)]
    by_cases ei : i = M 56 0
    · rw [ei, um_eq, um_eq]
      exact ⟨rfl, h1⟩
    · rw [um_ni ei, um_ni ei, um_na (by decide), um_na (by decide)]
      exact t3 i i0 (by omega)
  · exact g.re.cg (e4 _ (by decide) (by decide) (by decide) (by decide)) (e4 _ (by decide) (by decide) (by decide) (by decide)) (by omega)
  · have e0 := e4 0 (by decide) (by decide) (by decide) (by decide)
    exact g.fr.cg (by rw [e0]) (by rw [e0]) (by rw [um_ni (by decide), um_na (by decide), m1 76 (by decide) (by decide)]) (by rw [um_ni (by decide), um_na (by decide), m1 76 (by decide) (by decide)])
  · exact g.im.cg (e4 _ (by decide) (by decide) (by decide) (by decide)) (fun k _ _ => by rw [e4 77 (by decide) (by decide) (by decide) (by decide)]) (fun a ha => e4 a (by omega) (by omega) (by omega) (by omega)) (by omega)
theorem op_clear (g : Gl T M K) : Op S 76 137 [] T M K := by
  have hX := g.x
  have hM := g.m
  obtain ⟨t1, t2, t3⟩ := g.tx
  have e : ∀ a, a ≠ 56 → a ≠ 76 → um (um M 56 0 0) 76 3 0 a = M a := fun a a1 a2 => by rw [um_fn a2, um_fn a1]
  refine ⟨M 56 0, T, um M 56 0 0, um (um M 56 0 0) 76 3 0, by omega, ⟨_, rfl, ?_⟩, ⟨_, rfl, ?_⟩, ⟨hX, hM, ?_, ?_, ?_, ?_, ?_⟩⟩
  · refine Rn.ri rfl (X_ald rfl <| X_gr 7 3 hX.ob ⟨rfl, rfl⟩ rfl rfl <| X_gi 4 0 0 hX.sc ⟨rfl, rfl, rfl⟩ (Or.inl rfl) <| X_ist rfl (L' := [_, _]) rfl <| X_ald rfl <| X_gr 7 3 hX.ob ⟨rfl, rfl⟩ rfl rfl <| X_i <| X_pi 4 0 0 hX.sc ⟨rfl, rfl, rfl⟩ (Or.inl rfl) <| X_ild rfl <| X_nil) rfl
  · have e2 : M 56 0 = um M 56 0 0 76 3 := by rw [um_na (by decide)]; exact t1
    rw [e2]
    refine Rn.ri rfl (X_ald rfl <| X_gi 8 3 3 hM.ob ⟨rfl, rfl, rfl⟩ (Or.inl rfl) <| X_ist rfl (L' := [_, _]) rfl <| X_ald rfl <| X_i <| X_pi 8 3 3 hM.ob ⟨rfl, rfl, rfl⟩ (Or.inl rfl) <| X_ild rfl <| X_nil) rfl
  · rw [e 77 (by decide) (by decide)]
    exact g.rg.cg (fun a a1 a2 _ => e a (by omega) (by omega)) (by omega)
  · unfold TxOk
    have q56 : um (um M 56 0 0) 76 3 0 56 0 = 0 := by rw [um_na (by decide), um_eq]
    rw [q56, um_eq]
    exact ⟨rfl, by decide, fun i i0 i1 => by omega⟩
  · exact g.re.cg (e _ (by decide) (by decide)) (e _ (by decide) (by decide)) (by omega)
  · have e0 := e 0 (by decide) (by decide)
    exact g.fr.cg (by rw [e0]) (by rw [e0]) (by rw [um_ni (by decide), um_na (by decide)]) (by rw [um_ni (by decide), um_na (by decide)])
  · exact g.im.cg (e _ (by decide) (by decide)) (fun k _ _ => by rw [e 77 (by decide) (by decide)]) (fun a ha => e a (by omega) (by omega)) (by omega)
theorem op_status {k : Int} (g : Gl T M K) (hK : K ≤ 1000) (ik : I32 k) : Op S 100 191 [vI k] T M K := by
  have hX := g.x
  have hM := g.m
  by_cases h1 : 0 ≤ k ∧ k ≤ 2
  case neg =>
    refine Op.bad (v := -1) (k := 0) g (by decide) (by decide) (by decide) ⟨_, rfl, ?_⟩ (fun M1 h80 => ⟨_, rfl, ?_⟩) trivial
    · refine Rn.cal rfl (X_ild rfl <| X_i <| X_i <| X_nil) (vs := [_, _, _]) (rest := []) rfl rfl rfl rfl (c_wN (by omega) (by decide) (by decide) h1) ?_
      refine Rn.ine rfl (X_nil) (by first | omega | (simp (disch := omega) only [um_eq, um_na, um_ni, Int.toNat_natCast]; omega)) (fun hc => absurd hc (by first | omega | decide | (simp (disch := omega) only [um_eq, um_na, um_ni, Int.toNat_natCast]; omega))) (fun hc => ?_)
      refine Rn.cal rfl (X_ald rfl <| X_i <| X_nil) (vs := [_, _]) (rest := []) rfl rfl rfl (rcv_v hX.ob (by decide)) (c_bad hX) ?_
      refine Rn.ri rfl (X_nil) rfl
    · refine Rn.cal rfl (X_ild rfl <| X_i2l (by first | omega | (simp (disch := omega) only [um_eq, um_na, um_ni, Int.toNat_natCast]; omega)) <| X_l <| X_l <| X_nil) (vs := [_, _, _]) (rest := []) rfl rfl rfl rfl (c_iN (by omega) (by decide) (by decide) h1) ?_
      refine Rn.ieq rfl (X_nil) (by first | omega | (simp (disch := omega) only [um_eq, um_na, um_ni, Int.toNat_natCast]; omega)) (fun hc => ?_) (fun hc => absurd hc (by first | omega | decide | (simp (disch := omega) only [um_eq, um_na, um_ni, Int.toNat_natCast]; omega)))
      refine Rn.cal rfl (X_ald rfl <| X_i <| X_nil) (vs := [_, _]) (rest := []) rfl rfl rfl (rcv_v hM.ob (by decide)) (c_mbadAs hM) ?_
      refine Rn.ri rfl (X_nil) rfl
  have hr := g.re k h1.1 (by omega)
  refine ⟨M 59 k, T, M, M, by omega, ⟨_, rfl, ?_⟩, ⟨_, rfl, ?_⟩, g.up1⟩
  · refine Rn.cal rfl (X_ild rfl <| X_i <| X_i <| X_nil) (vs := [_, _, _]) (rest := []) rfl rfl rfl rfl (c_wY (by omega) (by decide) (by decide) h1) ?_
    refine Rn.ine rfl (X_nil) (by first | omega | (simp (disch := omega) only [um_eq, um_na, um_ni, Int.toNat_natCast]; omega)) (fun hc => ?_) (fun hc => absurd hc (by first | omega | decide | (simp (disch := omega) only [um_eq, um_na, um_ni, Int.toNat_natCast]; omega)))
    refine Rn.ri rfl (X_ald rfl <| X_gr 7 4 hX.ob ⟨rfl, rfl⟩ rfl rfl <| X_ild rfl <| X_ia hX.re (by first | omega | (simp (disch := omega) only [um_eq, um_na, um_ni, Int.toNat_natCast]; omega)) (by first | omega | (simp (disch := omega) only [um_eq, um_na, um_ni, Int.toNat_natCast]; omega)) rfl <| X_nil) rfl
  · rw [hr.1]
    refine Rn.cal rfl (X_ild rfl <| X_i2l (by first | omega | (simp (disch := omega) only [um_eq, um_na, um_ni, Int.toNat_natCast]; omega)) <| X_l <| X_l <| X_nil) (vs := [_, _, _]) (rest := []) rfl rfl rfl rfl (c_iY (by omega) (by decide) (by decide) h1) ?_
    refine Rn.ieq rfl (X_nil) (by first | omega | (simp (disch := omega) only [um_eq, um_na, um_ni, Int.toNat_natCast]; omega)) (fun hc => absurd hc (by first | omega | decide | (simp (disch := omega) only [um_eq, um_na, um_ni, Int.toNat_natCast]; omega))) (fun hc => ?_)
    refine Rn.jto rfl (X_ald rfl <| X_gr 8 4 hM.ob ⟨rfl, rfl⟩ rfl rfl <| X_ild rfl <| X_ia hM.re (by first | omega | (simp (disch := omega) only [um_eq, um_na, um_ni, Int.toNat_natCast]; omega)) (by first | omega | (simp (disch := omega) only [um_eq, um_na, um_ni, Int.toNat_natCast]; omega)) rfl <| X_nil) ?_
    refine Rn.ri rfl (X_nil) rfl
end Ops7
