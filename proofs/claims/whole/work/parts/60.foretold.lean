/-! FORETOLD -/
section Trial
variable {S : List Int} {T : List Sh} {M N C C' : Nat → Int → Int} {a b b' K j : Nat} {v : Int} {h : Hp}
/-- what is tried out leaves the rest as it was -/
theorem Gl.tried (g : Gl T M K) (e : ∀ a, a < 28 ∨ 55 ≤ a → ¬ (60 ≤ a ∧ a ≤ 76) → ¬ (81 ≤ a ∧ a ≤ 87) → N a = M a) (h76 : ∀ k, ¬ (17 ≤ k ∧ k ≤ 21) → N 76 k = M 76 k) : Gl T N (K + 1) := by
  have e77 : N 77 = M 77 := e 77 (by omega) (by omega) (by omega)
  refine g.upd (Kept.of (fun a ha => e a (by omega) (by omega) (by omega)) (h76 _ (by decide)) (h76 _ (by decide)) (h76 _ (by decide)) (fun k _ _ => by rw [e77])) ?_ (g.re.cg (e _ (by omega) (by omega) (by omega)) (e _ (by omega) (by omega) (by omega)) (by omega)) (by omega)
  rw [e77]
  exact g.rg.cg (fun a a1 a2 _ => e a (by omega) (by omega) (by omega)) (by omega)
theorem trial_of (g : Gl T M K) : ∃ M1, Cl S 55 [vR 28, vR 1] (T, M) (none, (T, M1)) ∧ NtOk M1 28 K 0 ∧ CpSt M M1 1 28 ∧ (∀ v, WayIs M1 28 (M1 29 3).toNat (M1 29 2).toNat v → WayIs M 1 (M 2 3).toNat (M 2 2).toNat v) := by
  obtain ⟨M1, c1, hc⟩ := c_scopy (S := S) (M := M) (b := 28) (o := 1) g.x.s2 g.x.s1 (by omega)
  have r1 : Rg M1 28 (M 77) 0 K := g.rg.copy hc.q (Nat.le_refl K)
  refine ⟨M1, c1, r1.nt, hc, fun v hv => ?_⟩
  obtain ⟨⟨c0, c1, c2, c3, c4, c5, c8⟩, ct, -⟩ := hc
  have c2' : M1 29 2 = M 2 2 := c2
  have c3' : M1 29 3 = M 2 3 := c3
  rw [c2', c3'] at hv
  exact WayIs_pw (C := M1) (C' := M) (o := 28) (b := 1) r1.fl.1 c0.symm c1.symm c4.symm (fun c d0 d1 => (ct c d0 d1).symm) hv
theorem sumT_pw {M' : Nat → Int → Int} {t : Int} (t0 : 0 ≤ t) (t8 : t < 8) : ∀ n : Nat, SmB n M b M' b' → sumT M b t n = sumT M' b' t n
  | 0, _ => rfl
  | n + 1, h => by
    unfold sumT
    rw [sumT_pw t0 t8 n (fun i hi => h i (by omega)), h n (by omega) t t0 t8]
theorem sumT_bd {t B : Int} : ∀ n : Nat, (∀ i, i < n → 0 ≤ M (b + 16 + 2 * i) t ∧ M (b + 16 + 2 * i) t ≤ B) → 0 ≤ sumT M b t n ∧ sumT M b t n ≤ B * (n : Int)
  | 0, _ => by unfold sumT; omega
  | n + 1, h => by
    have ih := sumT_bd n (fun i hi => h i (by omega))
    have hn := h n (by omega)
    have e : B * ((n + 1 : Nat) : Int) = B * (n : Int) + B := by
      rw [Int.natCast_add, Int.mul_add]
      omega
    unfold sumT
    omega
theorem c_sumOf {w : Int} {n : Nat} (hM : isM T) (h6 : M 77 6 = (n : Int)) (hn : n ≤ 4) (hw : w = 0 ∨ w = 1) : Cl S 168 [vR 76, vI w] (T, M) (some (vI (sumT (V M) 0 (6 + w) n)), (T, M)) := by
  have loop : ∀ (k i : Nat), i + k = n → Rn S 168 4 ([], [some (vR 76), some (vI w), some (vI (sumT (V M) 0 (6 + w) i)), some (vI (i : Int))], T, M) (some (vI (sumT (V M) 0 (6 + w) n)), (T, M)) := by
    intro k
    induction k with
    | zero =>
      intro i hi
      have ei : i = n := by omega
      subst ei
      refine Rn.cge rfl (X_ild rfl <| X_ald rfl <| X_gr 8 0 hM.ob ⟨rfl, rfl⟩ rfl rfl <| X_i <| X_ia hM.w (by first | omega | (simp (disch := omega) only [um_eq, um_na, um_ni, Int.toNat_natCast]; omega)) (by first | omega | (simp (disch := omega) only [um_eq, um_na, um_ni, Int.toNat_natCast]; omega)) rfl <| X_nil) (by first | omega | (simp (disch := omega) only [um_eq, um_na, um_ni, Int.toNat_natCast]; omega)) (by first | omega | (simp (disch := omega) only [um_eq, um_na, um_ni, Int.toNat_natCast]; omega)) (fun hc => ?_) (fun hc => absurd hc (by first | omega | decide | (simp (disch := omega) only [um_eq, um_na, um_ni, Int.toNat_natCast]; omega)))
      refine Rn.ri rfl (X_ild rfl <| X_nil) rfl
    | succ k ih =>
      intro i hi
      have nx := ih (i + 1) (by omega)
      rcases hw with rfl | rfl
      · have es : sumT (V M) 0 (6 + 0) (i + 1) = sumT (V M) 0 (6 + 0) i + M 83 (i : Int) := by
          have e := V_6 (M := M) i
          rw [← e]
          rfl
        rw [es] at nx
        refine Rn.cge rfl (X_ild rfl <| X_ald rfl <| X_gr 8 0 hM.ob ⟨rfl, rfl⟩ rfl rfl <| X_i <| X_ia hM.w (by first | omega | (simp (disch := omega) only [um_eq, um_na, um_ni, Int.toNat_natCast]; omega)) (by first | omega | (simp (disch := omega) only [um_eq, um_na, um_ni, Int.toNat_natCast]; omega)) rfl <| X_nil) (by first | omega | (simp (disch := omega) only [um_eq, um_na, um_ni, Int.toNat_natCast]; omega)) (by first | omega | (simp (disch := omega) only [um_eq, um_na, um_ni, Int.toNat_natCast]; omega)) (fun hc => absurd hc (by first | omega | decide | (simp (disch := omega) only [um_eq, um_na, um_ni, Int.toNat_natCast]; omega))) (fun hc => ?_)
        refine Rn.ine rfl (X_ild rfl <| X_ild rfl <| X_nil) (by first | omega | (simp (disch := omega) only [um_eq, um_na, um_ni, Int.toNat_natCast]; omega)) (fun hc => absurd hc (by first | omega | decide | (simp (disch := omega) only [um_eq, um_na, um_ni, Int.toNat_natCast]; omega))) (fun hc => ?_)
        refine Rn.jto rfl (X_ald rfl <| X_gr 8 15 hM.ob ⟨rfl, rfl⟩ rfl rfl <| X_ild rfl <| X_ia hM.co (by first | omega | (simp (disch := omega) only [um_eq, um_na, um_ni, Int.toNat_natCast]; omega)) (by first | omega | (simp (disch := omega) only [um_eq, um_na, um_ni, Int.toNat_natCast]; omega)) rfl <| X_nil) ?_
        refine Rn.jto rfl (X_add <| X_ist rfl (L' := [_, _, _, _]) rfl <| X_inc rfl (L' := [_, _, _, _]) rfl <| X_nil) ?_
        exact nx
      · have es : sumT (V M) 0 (6 + 1) (i + 1) = sumT (V M) 0 (6 + 1) i + M 84 (i : Int) := by
          have e := V_7 (M := M) i
          rw [← e]
          rfl
        rw [es] at nx
        refine Rn.cge rfl (X_ild rfl <| X_ald rfl <| X_gr 8 0 hM.ob ⟨rfl, rfl⟩ rfl rfl <| X_i <| X_ia hM.w (by first | omega | (simp (disch := omega) only [um_eq, um_na, um_ni, Int.toNat_natCast]; omega)) (by first | omega | (simp (disch := omega) only [um_eq, um_na, um_ni, Int.toNat_natCast]; omega)) rfl <| X_nil) (by first | omega | (simp (disch := omega) only [um_eq, um_na, um_ni, Int.toNat_natCast]; omega)) (by first | omega | (simp (disch := omega) only [um_eq, um_na, um_ni, Int.toNat_natCast]; omega)) (fun hc => absurd hc (by first | omega | decide | (simp (disch := omega) only [um_eq, um_na, um_ni, Int.toNat_natCast]; omega))) (fun hc => ?_)
        refine Rn.ine rfl (X_ild rfl <| X_ild rfl <| X_nil) (by first | omega | (simp (disch := omega) only [um_eq, um_na, um_ni, Int.toNat_natCast]; omega)) (fun hc => ?_) (fun hc => absurd hc (by first | omega | decide | (simp (disch := omega) only [um_eq, um_na, um_ni, Int.toNat_natCast]; omega)))
        refine Rn.fal rfl (X_ald rfl <| X_gr 8 16 hM.ob ⟨rfl, rfl⟩ rfl rfl <| X_ild rfl <| X_ia hM.pa (by first | omega | (simp (disch := omega) only [um_eq, um_na, um_ni, Int.toNat_natCast]; omega)) (by first | omega | (simp (disch := omega) only [um_eq, um_na, um_ni, Int.toNat_natCast]; omega)) rfl <| X_nil) ?_
        refine Rn.jto rfl (X_add <| X_ist rfl (L' := [_, _, _, _]) rfl <| X_inc rfl (L' := [_, _, _, _]) rfl <| X_nil) ?_
        exact nx
  refine ⟨_, rfl, ?_⟩
  refine Rn.fal rfl (X_i <| X_ist rfl (L' := [_, _, _, _]) rfl <| X_i <| X_ist rfl (L' := [_, _, _, _]) rfl <| X_nil) ?_
  exact loop n 0 (by omega)
end Trial
section Foretold
variable {S : List Int} {T : List Sh} {M N C C' : Nat → Int → Int} {a b b' K j : Nat} {v : Int} {h : Hp}
/-- the model beside the class's trial: the same sleepers, the same way, nothing else is new -/
def MdOk (M N D : Nat → Int → Int) (v c : Int) : Prop := SmB (M 5 1).toNat (V N) 0 D 28 ∧ N 77 = M 77 ∧ N 76 17 = v ∧ N 76 18 = c ∧ (∀ k, ¬ (17 ≤ k ∧ k ≤ 21) → N 76 k = M 76 k) ∧ (∀ a, a < 28 ∨ 55 ≤ a → a ≠ 76 → ¬ (81 ≤ a ∧ a ≤ 84) → N a = M a)
theorem op_foretold {n s w : Int} (g : Gl T M K) (hK : K ≤ 100) (inn : I32 n) (is : I32 s) (iw : I32 w) : Op S 85 169 [vI n, vI s, vI w] T M K := by
  have hX := g.x
  have hM := g.m
  have hz := g.sz
  have e45 : M (1 + 4) 1 = M 5 1 := rfl
  have b77 : um M 59 0 (M 59 0 + 1) 77 = M 77 := um_fn (by decide)
  by_cases h1 : 0 ≤ n ∧ n ≤ 60
  case neg =>
    refine Op.bad1 (v := -2) (k := 0) g (by decide) (by decide) (by decide) ⟨_, rfl, ?_⟩ ⟨_, rfl, ?_⟩
    · refine Rn.cal rfl (X_ild rfl <| X_i <| X_i <| X_nil) (vs := [_, _, _]) (rest := []) rfl rfl rfl rfl (c_wN (by omega) (by decide) (by decide) h1) ?_
      refine Rn.ieq rfl (X_nil) (by first | omega | (simp (disch := omega) only [um_eq, um_na, um_ni, Int.toNat_natCast]; omega)) (fun hc => ?_) (fun hc => absurd hc (by first | omega | decide | (simp (disch := omega) only [um_eq, um_na, um_ni, Int.toNat_natCast]; omega)))
      refine Rn.cal rfl (X_ald rfl <| X_i <| X_nil) (vs := [_, _]) (rest := []) rfl rfl rfl (rcv_v hX.ob (by decide)) (c_bad hX) ?_
      refine Rn.ri rfl (X_nil) rfl
    · refine Rn.cal rfl (X_ild rfl <| X_i2l (by first | omega | (simp (disch := omega) only [um_eq, um_na, um_ni, Int.toNat_natCast]; omega)) <| X_l <| X_l <| X_nil) (vs := [_, _, _]) (rest := []) rfl rfl rfl rfl (c_iN (by omega) (by decide) (by decide) h1) ?_
      refine Rn.ieq rfl (X_nil) (by first | omega | (simp (disch := omega) only [um_eq, um_na, um_ni, Int.toNat_natCast]; omega)) (fun hc => ?_) (fun hc => absurd hc (by first | omega | decide | (simp (disch := omega) only [um_eq, um_na, um_ni, Int.toNat_natCast]; omega)))
      refine Rn.cal rfl (X_ald rfl <| X_nil) (vs := [_]) (rest := []) rfl rfl rfl (rcv_v hM.ob (by decide)) (c_mbad hM) ?_
      refine Rn.ri rfl (X_nil) rfl
  by_cases h2 : s = -1 ∨ (0 ≤ s ∧ s ≤ M 5 1 - 1)
  case neg =>
    have h2' : ¬ (0 ≤ s ∧ s ≤ M 5 1 - 1) := fun q => h2 (Or.inr q)
    refine Op.bad1 (v := -2) (k := 0) g (by decide) (by decide) (by decide) ⟨_, rfl, ?_⟩ ⟨_, rfl, ?_⟩
    · refine Rn.cal rfl (X_ild rfl <| X_i <| X_i <| X_nil) (vs := [_, _, _]) (rest := []) rfl rfl rfl rfl (c_wY (by omega) (by decide) (by decide) h1) ?_
      refine Rn.ieq rfl (X_nil) (by first | omega | (simp (disch := omega) only [um_eq, um_na, um_ni, Int.toNat_natCast]; omega)) (fun hc => absurd hc (by first | omega | decide | (simp (disch := omega) only [um_eq, um_na, um_ni, Int.toNat_natCast]; omega))) (fun hc => ?_)
      refine Rn.ceq rfl (X_ild rfl <| X_i <| X_nil) (by first | omega | (simp (disch := omega) only [um_eq, um_na, um_ni, Int.toNat_natCast]; omega)) (by first | omega | (simp (disch := omega) only [um_eq, um_na, um_ni, Int.toNat_natCast]; omega)) (fun hc => absurd hc (by first | omega | decide | (simp (disch := omega) only [um_eq, um_na, um_ni, Int.toNat_natCast]; omega))) (fun hc => ?_)
      refine Rn.cal rfl (X_ald rfl <| X_gr 7 0 hX.ob ⟨rfl, rfl⟩ rfl rfl <| X_gr 6 1 hX.s1.st ⟨rfl, rfl⟩ rfl rfl <| X_ild rfl <| X_nil) (vs := [_, _]) (rest := []) rfl rfl rfl (rcv_v hX.s1.be (by decide)) (c_bhN hX hz.2 is h2') ?_
      refine Rn.ieq rfl (X_nil) (by first | omega | (simp (disch := omega) only [um_eq, um_na, um_ni, Int.toNat_natCast]; omega)) (fun hc => ?_) (fun hc => absurd hc (by first | omega | decide | (simp (disch := omega) only [um_eq, um_na, um_ni, Int.toNat_natCast]; omega)))
      refine Rn.cal rfl (X_ald rfl <| X_i <| X_nil) (vs := [_, _]) (rest := []) rfl rfl rfl (rcv_v hX.ob (by decide)) (c_bad hX) ?_
      refine Rn.ri rfl (X_nil) rfl
    · refine Rn.cal rfl (X_ild rfl <| X_i2l (by first | omega | (simp (disch := omega) only [um_eq, um_na, um_ni, Int.toNat_natCast]; omega)) <| X_l <| X_l <| X_nil) (vs := [_, _, _]) (rest := []) rfl rfl rfl rfl (c_iY (by omega) (by decide) (by decide) h1) ?_
      refine Rn.ieq rfl (X_nil) (by first | omega | (simp (disch := omega) only [um_eq, um_na, um_ni, Int.toNat_natCast]; omega)) (fun hc => absurd hc (by first | omega | decide | (simp (disch := omega) only [um_eq, um_na, um_ni, Int.toNat_natCast]; omega))) (fun hc => ?_)
      refine Rn.cal rfl (X_ald rfl <| X_ild rfl <| X_nil) (vs := [_, _]) (rest := []) rfl rfl rfl (rcv_v hM.ob (by decide)) (c_ioN hM (by rw [b77]; exact hz.1) hz.2 is h2') ?_
      refine Rn.ine rfl (X_nil) (by first | omega | (simp (disch := omega) only [um_eq, um_na, um_ni, Int.toNat_natCast]; omega)) (fun hc => absurd hc (by first | omega | decide | (simp (disch := omega) only [um_eq, um_na, um_ni, Int.toNat_natCast]; omega))) (fun hc => ?_)
      refine Rn.cne rfl (X_ild rfl <| X_i <| X_nil) (by first | omega | (simp (disch := omega) only [um_eq, um_na, um_ni, Int.toNat_natCast]; omega)) (by first | omega | (simp (disch := omega) only [um_eq, um_na, um_ni, Int.toNat_natCast]; omega)) (fun hc => ?_) (fun hc => absurd hc (by first | omega | decide | (simp (disch := omega) only [um_eq, um_na, um_ni, Int.toNat_natCast]; omega)))
      refine Rn.cal rfl (X_ald rfl <| X_nil) (vs := [_]) (rest := []) rfl rfl rfl (rcv_v hM.ob (by decide)) (c_mbad hM) ?_
      refine Rn.ri rfl (X_nil) rfl
  have pc : ∀ r, Rn S 85 29 ([], [some (vR 0), some (vI n), some (vI s), some (vI w), none], T, M) r → Rn S 85 0 ([], [some (vR 0), some (vI n), some (vI s), some (vI w), none], T, M) r := by
    intro r hr
    rcases h2 with h2 | h2
    · refine Rn.cal rfl (X_ild rfl <| X_i <| X_i <| X_nil) (vs := [_, _, _]) (rest := []) rfl rfl rfl rfl (c_wY (by omega) (by decide) (by decide) h1) ?_
      refine Rn.ieq rfl (X_nil) (by first | omega | (simp (disch := omega) only [um_eq, um_na, um_ni, Int.toNat_natCast]; omega)) (fun hc => absurd hc (by first | omega | decide | (simp (disch := omega) only [um_eq, um_na, um_ni, Int.toNat_natCast]; omega))) (fun hc => ?_)
      refine Rn.ceq rfl (X_ild rfl <| X_i <| X_nil) (by first | omega | (simp (disch := omega) only [um_eq, um_na, um_ni, Int.toNat_natCast]; omega)) (by first | omega | (simp (disch := omega) only [um_eq, um_na, um_ni, Int.toNat_natCast]; omega)) (fun hc => ?_) (fun hc => absurd hc (by first | omega | decide | (simp (disch := omega) only [um_eq, um_na, um_ni, Int.toNat_natCast]; omega)))
      exact hr
    · refine Rn.cal rfl (X_ild rfl <| X_i <| X_i <| X_nil) (vs := [_, _, _]) (rest := []) rfl rfl rfl rfl (c_wY (by omega) (by decide) (by decide) h1) ?_
      refine Rn.ieq rfl (X_nil) (by first | omega | (simp (disch := omega) only [um_eq, um_na, um_ni, Int.toNat_natCast]; omega)) (fun hc => absurd hc (by first | omega | decide | (simp (disch := omega) only [um_eq, um_na, um_ni, Int.toNat_natCast]; omega))) (fun hc => ?_)
      refine Rn.ceq rfl (X_ild rfl <| X_i <| X_nil) (by first | omega | (simp (disch := omega) only [um_eq, um_na, um_ni, Int.toNat_natCast]; omega)) (by first | omega | (simp (disch := omega) only [um_eq, um_na, um_ni, Int.toNat_natCast]; omega)) (fun hc => absurd hc (by first | omega | decide | (simp (disch := omega) only [um_eq, um_na, um_ni, Int.toNat_natCast]; omega))) (fun hc => ?_)
      refine Rn.cal rfl (X_ald rfl <| X_gr 7 0 hX.ob ⟨rfl, rfl⟩ rfl rfl <| X_gr 6 1 hX.s1.st ⟨rfl, rfl⟩ rfl rfl <| X_ild rfl <| X_nil) (vs := [_, _]) (rest := []) rfl rfl rfl (rcv_v hX.s1.be (by decide)) (c_bhY hX hz.2 is h2) ?_
      refine Rn.ieq rfl (X_nil) (by first | omega | (simp (disch := omega) only [um_eq, um_na, um_ni, Int.toNat_natCast]; omega)) (fun hc => absurd hc (by first | omega | decide | (simp (disch := omega) only [um_eq, um_na, um_ni, Int.toNat_natCast]; omega))) (fun hc => ?_)
      exact hr
  have pm : ∀ (N : Nat → Int → Int) r, N 77 = M 77 → Rn S 169 25 ([], [some (vR 76), some (vI n), some (vI s), some (vI w), none], T, N) r → Rn S 169 0 ([], [some (vR 76), some (vI n), some (vI s), some (vI w), none], T, N) r := by
    intro N r n77 hr
    rcases h2 with h2 | h2
    · refine Rn.cal rfl (X_ild rfl <| X_i2l (by first | omega | (simp (disch := omega) only [um_eq, um_na, um_ni, Int.toNat_natCast]; omega)) <| X_l <| X_l <| X_nil) (vs := [_, _, _]) (rest := []) rfl rfl rfl rfl (c_iY (by omega) (by decide) (by decide) h1) ?_
      refine Rn.ieq rfl (X_nil) (by first | omega | (simp (disch := omega) only [um_eq, um_na, um_ni, Int.toNat_natCast]; omega)) (fun hc => absurd hc (by first | omega | decide | (simp (disch := omega) only [um_eq, um_na, um_ni, Int.toNat_natCast]; omega))) (fun hc => ?_)
      refine Rn.cal rfl (X_ald rfl <| X_ild rfl <| X_nil) (vs := [_, _]) (rest := []) rfl rfl rfl (rcv_v hM.ob (by decide)) (c_ioN hM (by rw [n77]; exact hz.1) hz.2 is (by omega)) ?_
      refine Rn.ine rfl (X_nil) (by first | omega | (simp (disch := omega) only [um_eq, um_na, um_ni, Int.toNat_natCast]; omega)) (fun hc => absurd hc (by first | omega | decide | (simp (disch := omega) only [um_eq, um_na, um_ni, Int.toNat_natCast]; omega))) (fun hc => ?_)
      refine Rn.cne rfl (X_ild rfl <| X_i <| X_nil) (by first | omega | (simp (disch := omega) only [um_eq, um_na, um_ni, Int.toNat_natCast]; omega)) (by first | omega | (simp (disch := omega) only [um_eq, um_na, um_ni, Int.toNat_natCast]; omega)) (fun hc => absurd hc (by first | omega | decide | (simp (disch := omega) only [um_eq, um_na, um_ni, Int.toNat_natCast]; omega))) (fun hc => ?_)
      exact hr
    · refine Rn.cal rfl (X_ild rfl <| X_i2l (by first | omega | (simp (disch := omega) only [um_eq, um_na, um_ni, Int.toNat_natCast]; omega)) <| X_l <| X_l <| X_nil) (vs := [_, _, _]) (rest := []) rfl rfl rfl rfl (c_iY (by omega) (by decide) (by decide) h1) ?_
      refine Rn.ieq rfl (X_nil) (by first | omega | (simp (disch := omega) only [um_eq, um_na, um_ni, Int.toNat_natCast]; omega)) (fun hc => absurd hc (by first | omega | decide | (simp (disch := omega) only [um_eq, um_na, um_ni, Int.toNat_natCast]; omega))) (fun hc => ?_)
      refine Rn.cal rfl (X_ald rfl <| X_ild rfl <| X_nil) (vs := [_, _]) (rest := []) rfl rfl rfl (rcv_v hM.ob (by decide)) (c_ioY hM (by rw [n77]; exact hz.1) hz.2 is h2) ?_
      refine Rn.ine rfl (X_nil) (by first | omega | (simp (disch := omega) only [um_eq, um_na, um_ni, Int.toNat_natCast]; omega)) (fun hc => ?_) (fun hc => absurd hc (by first | omega | decide | (simp (disch := omega) only [um_eq, um_na, um_ni, Int.toNat_natCast]; omega)))
      exact hr
  by_cases h3 : 0 ≤ w ∧ w ≤ 1
  case neg =>
    refine Op.bad1 (v := -2) (k := 0) g (by decide) (by decide) (by decide) ⟨_, rfl, pc _ ?_⟩ ⟨_, rfl, pm _ _ b77 ?_⟩
    · refine Rn.cal rfl (X_ild rfl <| X_i <| X_i <| X_nil) (vs := [_, _, _]) (rest := []) rfl rfl rfl rfl (c_wN (by omega) (by decide) (by decide) h3) ?_
      refine Rn.ine rfl (X_nil) (by first | omega | (simp (disch := omega) only [um_eq, um_na, um_ni, Int.toNat_natCast]; omega)) (fun hc => absurd hc (by first | omega | decide | (simp (disch := omega) only [um_eq, um_na, um_ni, Int.toNat_natCast]; omega))) (fun hc => ?_)
      refine Rn.cal rfl (X_ald rfl <| X_i <| X_nil) (vs := [_, _]) (rest := []) rfl rfl rfl (rcv_v hX.ob (by decide)) (c_bad hX) ?_
      refine Rn.ri rfl (X_nil) rfl
    · refine Rn.cal rfl (X_ild rfl <| X_i2l (by first | omega | (simp (disch := omega) only [um_eq, um_na, um_ni, Int.toNat_natCast]; omega)) <| X_l <| X_l <| X_nil) (vs := [_, _, _]) (rest := []) rfl rfl rfl rfl (c_iN (by omega) (by decide) (by decide) h3) ?_
      refine Rn.ine rfl (X_nil) (by first | omega | (simp (disch := omega) only [um_eq, um_na, um_ni, Int.toNat_natCast]; omega)) (fun hc => absurd hc (by first | omega | decide | (simp (disch := omega) only [um_eq, um_na, um_ni, Int.toNat_natCast]; omega))) (fun hc => ?_)
      refine Rn.cal rfl (X_ald rfl <| X_nil) (vs := [_]) (rest := []) rfl rfl rfl (rcv_v hM.ob (by decide)) (c_mbad hM) ?_
      refine Rn.ri rfl (X_nil) rfl
  obtain ⟨q, rfl⟩ : ∃ q : Nat, n = (q : Int) := ⟨n.toNat, by omega⟩
  obtain ⟨M1, c1, nt, hc, hw⟩ := trial_of (S := S) g
  obtain ⟨D, v, d0, dv, v2, dP, dR⟩ := nights_of (S := S) hX.s2 hK q (by omega) nt
  have fr := hc.2.2.2.2.2.2.2
  have z1 : M1 (28 + 4) 1 = M 5 1 := hc.2.2.1.1
  have dz : ∀ i, i ≤ q → D i (28 + 4) 1 = M 5 1 := fun i hi => by rw [(dP i hi).2.2.2.1]; exact z1
  have df : ∀ i, i ≤ q → ∀ a, a < 28 ∨ 55 ≤ a → D i a = M a := fun i hi a ha => by
    rw [(dP i hi).2.2.2.2 a (by omega)]
    exact fr a ha
  have d5 : ∀ i, i ≤ q → D i (28 + 1) 5 = M 2 5 := fun i hi => by rw [(dP i hi).2.1 5 (by decide)]; exact hc.1.2.2.2.2.2.1
  have cloop : ∀ r, Rn S 85 79 ([], [some (vR 0), some (vI (q : Int)), some (vI s), some (vI w), some (vI (q : Int))], T, D q) r → ∀ (k i : Nat), i + k = q → Rn S 85 59 ([], [some (vR 0), some (vI (q : Int)), some (vI s), some (vI w), some (vI (i : Int))], T, D i) r := by
    intro r hr k
    induction k with
    | zero =>
      intro i hi
      have ei : i = q := by omega
      subst ei
      refine Rn.cge rfl (X_ild rfl <| X_ild rfl <| X_nil) (by first | omega | (simp (disch := omega) only [um_eq, um_na, um_ni, Int.toNat_natCast]; omega)) (by first | omega | (simp (disch := omega) only [um_eq, um_na, um_ni, Int.toNat_natCast]; omega)) (fun hc => ?_) (fun hc => absurd hc (by first | omega | decide | (simp (disch := omega) only [um_eq, um_na, um_ni, Int.toNat_natCast]; omega)))
      exact hr
    | succ k ih =>
      intro i hi
      have nx := ih (i + 1) (by omega)
      have cs := (dR i (by omega)).1
      refine Rn.cge rfl (X_ild rfl <| X_ild rfl <| X_nil) (by first | omega | (simp (disch := omega) only [um_eq, um_na, um_ni, Int.toNat_natCast]; omega)) (by first | omega | (simp (disch := omega) only [um_eq, um_na, um_ni, Int.toNat_natCast]; omega)) (fun hc => absurd hc (by first | omega | decide | (simp (disch := omega) only [um_eq, um_na, um_ni, Int.toNat_natCast]; omega))) (fun hc => ?_)
      refine Rn.cal rfl (X_ald rfl <| X_gr 7 1 hX.ob ⟨rfl, rfl⟩ rfl rfl <| X_nil) (vs := [_]) (rest := []) rfl rfl rfl (rcv_v hX.s2.st (by decide)) (cs) ?_
      refine Rn.jto rfl (X_pop <| X_inc rfl (L' := [_, _, _, _, _]) rfl <| X_nil) ?_
      exact nx
  -- the model
  have dq77 : D q 77 = M 77 := df q (Nat.le_refl q) 77 (by omega)
  obtain ⟨M2, cl, ls, lw, lc, l76, lf⟩ := lay_of (S := S) (N := D q) g dq77
  have sm0 : SmB (M 5 1).toNat (V M2) 0 (D 0) 28 := by
    refine ls.trans (fun i hi k k0 k8 => ?_)
    rw [d0]
    exact (hc.2.2.2.1 i (by omega) k k0 k8).symm
  have p0 : MdOk M M2 (D 0) v (M 2 5) := ⟨sm0, by rw [lf 77 (by decide) (by decide) (by decide) (by decide) (by decide)]; exact dq77, lw v (hw v dv), lc, fun k hk => by rw [l76 k (by omega) (by omega), df q (Nat.le_refl q) 76 (by omega)], fun a a1 a2 a3 => by rw [lf a a2 (by omega) (by omega) (by omega) (by omega)]; exact df q (Nat.le_refl q) a a1⟩
  obtain ⟨E, e0, eP, eR⟩ := seq_of (P := fun i N => MdOk M N (D i) v (M 2 5)) (R := fun i N N' => ∃ P, Cl S 158 [vR 76] (T, N) (none, (T, P)) ∧ Cl S 160 [vR 76] (T, P) (none, (T, N'))) p0 q (fun i N hi hN => by
    obtain ⟨n1, n2, n3, n4, n5, n6⟩ := hN
    have ez := dz i (by omega)
    obtain ⟨P, N', k1, k2, k3, k4, k5, k6, k7⟩ := mstep (S := S) (K := K) (j := i) (v := v) hM hK (by omega) (dP i (by omega)).1 (by rw [ez]; exact n1) (by rw [n2, ez]; exact hz.1) n3 (by rw [n4, d5 i (by omega)]) (dR i hi).2
    rw [ez] at k3
    refine ⟨N', ⟨k3, by rw [k6 77 (by decide) (by decide) (by decide)]; exact n2, by rw [k5 17 (by decide) (by decide) (by decide)]; exact n3, by rw [k5 18 (by decide) (by decide) (by decide)]; exact n4, fun k hk => by rw [k5 k (by omega) (by omega) (by omega)]; exact n5 k hk, fun a a1 a2 a3 => by rw [k6 a a2 (by omega) (by omega)]; exact n6 a a1 a2 a3⟩, P, k1, k2⟩)
  have mloop : ∀ r, Rn S 169 67 ([], [some (vR 76), some (vI (q : Int)), some (vI s), some (vI w), some (vI (q : Int))], T, E q) r → ∀ (k i : Nat), i + k = q → Rn S 169 47 ([], [some (vR 76), some (vI (q : Int)), some (vI s), some (vI w), some (vI (i : Int))], T, E i) r := by
    intro r hr k
    induction k with
    | zero =>
      intro i hi
      have ei : i = q := by omega
      subst ei
      refine Rn.cge rfl (X_ild rfl <| X_ild rfl <| X_nil) (by first | omega | (simp (disch := omega) only [um_eq, um_na, um_ni, Int.toNat_natCast]; omega)) (by first | omega | (simp (disch := omega) only [um_eq, um_na, um_ni, Int.toNat_natCast]; omega)) (fun hc => ?_) (fun hc => absurd hc (by first | omega | decide | (simp (disch := omega) only [um_eq, um_na, um_ni, Int.toNat_natCast]; omega)))
      exact hr
    | succ k ih =>
      intro i hi
      have nx := ih (i + 1) (by omega)
      obtain ⟨P, k1, k2⟩ := eR i (by omega)
      refine Rn.cge rfl (X_ild rfl <| X_ild rfl <| X_nil) (by first | omega | (simp (disch := omega) only [um_eq, um_na, um_ni, Int.toNat_natCast]; omega)) (by first | omega | (simp (disch := omega) only [um_eq, um_na, um_ni, Int.toNat_natCast]; omega)) (fun hc => absurd hc (by first | omega | decide | (simp (disch := omega) only [um_eq, um_na, um_ni, Int.toNat_natCast]; omega))) (fun hc => ?_)
      refine Rn.cal rfl (X_ald rfl <| X_nil) (vs := [_]) (rest := []) rfl rfl rfl (rcv_v hM.ob (by decide)) (k1) ?_
      refine Rn.cal rfl (X_ald rfl <| X_nil) (vs := [_]) (rest := []) rfl rfl rfl (rcv_v hM.ob (by decide)) (k2) ?_
      refine Rn.jto rfl (X_inc rfl (L' := [_, _, _, _, _]) rfl <| X_nil) ?_
      exact nx
  obtain ⟨n1, n2, n3, n4, n5, n6⟩ := eP q (Nat.le_refl q)
  have hG : Gl T (E q) (K + 1) := g.tried (fun a a1 a2 a3 => n6 a a1 (by omega) (by omega)) n5
  have zq := dz q (Nat.le_refl q)
  have hT := (dP q (Nat.le_refl q)).1.2.2.2.2
  rw [zq] at hT
  have q6 : E q 77 6 = (((M 5 1).toNat : Nat) : Int) := by rw [n2, hz.1]; omega
  have w01 : w = 0 ∨ w = 1 := by omega
  -- what is asked
  have fin : ∃ x, I32 x ∧ Rn S 85 79 ([], [some (vR 0), some (vI (q : Int)), some (vI s), some (vI w), some (vI (q : Int))], T, D q) (some (vI x), (T, D q)) ∧ Rn S 169 67 ([], [some (vR 76), some (vI (q : Int)), some (vI s), some (vI w), some (vI (q : Int))], T, E q) (some (vI x), (T, E q)) := by
    by_cases hs : s = -1
    · subst hs
      have cm := c_sumOf (S := S) (M := E q) (w := w) hM q6 (by omega) w01
      rw [sumT_pw (by omega) (by omega) _ n1] at cm
      have cc := c_sum (S := S) (M := D q) (b := 28) (t := 6 + w) hX.s2 (by rw [zq]; omega) (by rw [zq]; omega) (by omega) (by omega)
      rw [zq] at cc
      have bd := sumT_bd (M := D q) (b := 28) (t := 6 + w) (B := 20000000) (M 5 1).toNat (fun i hi => by
        obtain ⟨-, t2, t3⟩ := hT i (by omega)
        rcases w01 with rfl | rfl
        · show 0 ≤ D q (28 + 16 + 2 * i) 6 ∧ D q (28 + 16 + 2 * i) 6 ≤ 20000000
          omega
        · show 0 ≤ D q (28 + 16 + 2 * i) 7 ∧ D q (28 + 16 + 2 * i) 7 ≤ 20000000
          omega)
      refine ⟨sumT (D q) 28 (6 + w) (M 5 1).toNat, by omega, ?_, ?_⟩
      · rcases w01 with rfl | rfl
        · refine Rn.ine rfl (X_ild rfl <| X_nil) (by first | omega | (simp (disch := omega) only [um_eq, um_na, um_ni, Int.toNat_natCast]; omega)) (fun hc => absurd hc (by first | omega | decide | (simp (disch := omega) only [um_eq, um_na, um_ni, Int.toNat_natCast]; omega))) (fun hc => ?_)
          refine Rn.jto rfl (X_i <| X_nil) ?_
          refine Rn.cne rfl (X_ist rfl (L' := [_, _, _, _, _]) rfl <| X_ild rfl <| X_i <| X_nil) (by first | omega | (simp (disch := omega) only [um_eq, um_na, um_ni, Int.toNat_natCast]; omega)) (by first | omega | (simp (disch := omega) only [um_eq, um_na, um_ni, Int.toNat_natCast]; omega)) (fun hc => absurd hc (by first | omega | decide | (simp (disch := omega) only [um_eq, um_na, um_ni, Int.toNat_natCast]; omega))) (fun hc => ?_)
          refine Rn.cal rfl (X_ald rfl <| X_gr 7 1 hX.ob ⟨rfl, rfl⟩ rfl rfl <| X_gr 6 1 hX.s2.st ⟨rfl, rfl⟩ rfl rfl <| X_ild rfl <| X_nil) (vs := [_, _]) (rest := []) rfl rfl rfl (rcv_v hX.s2.be (by decide)) (cc) ?_
          refine Rn.ri rfl (X_nil) rfl
        · refine Rn.ine rfl (X_ild rfl <| X_nil) (by first | omega | (simp (disch := omega) only [um_eq, um_na, um_ni, Int.toNat_natCast]; omega)) (fun hc => ?_) (fun hc => absurd hc (by first | omega | decide | (simp (disch := omega) only [um_eq, um_na, um_ni, Int.toNat_natCast]; omega)))
          refine Rn.fal rfl (X_i <| X_nil) ?_
          refine Rn.cne rfl (X_ist rfl (L' := [_, _, _, _, _]) rfl <| X_ild rfl <| X_i <| X_nil) (by first | omega | (simp (disch := omega) only [um_eq, um_na, um_ni, Int.toNat_natCast]; omega)) (by first | omega | (simp (disch := omega) only [um_eq, um_na, um_ni, Int.toNat_natCast]; omega)) (fun hc => absurd hc (by first | omega | decide | (simp (disch := omega) only [um_eq, um_na, um_ni, Int.toNat_natCast]; omega))) (fun hc => ?_)
          refine Rn.cal rfl (X_ald rfl <| X_gr 7 1 hX.ob ⟨rfl, rfl⟩ rfl rfl <| X_gr 6 1 hX.s2.st ⟨rfl, rfl⟩ rfl rfl <| X_ild rfl <| X_nil) (vs := [_, _]) (rest := []) rfl rfl rfl (rcv_v hX.s2.be (by decide)) (cc) ?_
          refine Rn.ri rfl (X_nil) rfl
      · refine Rn.cne rfl (X_ild rfl <| X_i <| X_nil) (by first | omega | (simp (disch := omega) only [um_eq, um_na, um_ni, Int.toNat_natCast]; omega)) (by first | omega | (simp (disch := omega) only [um_eq, um_na, um_ni, Int.toNat_natCast]; omega)) (fun hc => absurd hc (by first | omega | decide | (simp (disch := omega) only [um_eq, um_na, um_ni, Int.toNat_natCast]; omega))) (fun hc => ?_)
        refine Rn.cal rfl (X_ald rfl <| X_ild rfl <| X_nil) (vs := [_, _]) (rest := []) rfl rfl rfl (rcv_v hM.ob (by decide)) (cm) ?_
        refine Rn.jto rfl (X_nil) ?_
        refine Rn.ri rfl (X_nil) rfl
    · obtain ⟨i, rfl⟩ : ∃ i : Nat, s = (i : Int) := ⟨s.toNat, by omega⟩
      have hi : (i : Int) < M 5 1 := by omega
      have hi4 : i < 4 := by omega
      obtain ⟨-, t2, t3⟩ := hT i hi
      have e6 := n1 i (by omega) 6 (by decide) (by decide)
      have e7 := n1 i (by omega) 7 (by decide) (by decide)
      rw [V_6] at e6
      rw [V_7] at e7
      rcases w01 with rfl | rfl
      · refine ⟨D q (28 + 16 + 2 * i) 6, by omega, ?_, ?_⟩
        · refine Rn.ine rfl (X_ild rfl <| X_nil) (by first | omega | (simp (disch := omega) only [um_eq, um_na, um_ni, Int.toNat_natCast]; omega)) (fun hc => absurd hc (by first | omega | decide | (simp (disch := omega) only [um_eq, um_na, um_ni, Int.toNat_natCast]; omega))) (fun hc => ?_)
          refine Rn.jto rfl (X_i <| X_nil) ?_
          refine Rn.cne rfl (X_ist rfl (L' := [_, _, _, _, _]) rfl <| X_ild rfl <| X_i <| X_nil) (by first | omega | (simp (disch := omega) only [um_eq, um_na, um_ni, Int.toNat_natCast]; omega)) (by first | omega | (simp (disch := omega) only [um_eq, um_na, um_ni, Int.toNat_natCast]; omega)) (fun hc => ?_) (fun hc => absurd hc (by first | omega | decide | (simp (disch := omega) only [um_eq, um_na, um_ni, Int.toNat_natCast]; omega)))
          refine Rn.ri rfl (X_ald rfl <| X_gr 7 1 hX.ob ⟨rfl, rfl⟩ rfl rfl <| X_gr 6 1 hX.s2.st ⟨rfl, rfl⟩ rfl rfl <| X_gr 0 0 hX.s2.be ⟨rfl, rfl⟩ rfl rfl <| X_ild rfl <| X_aa hX.s2.sl (by decide) (by first | omega | (simp (disch := omega) only [um_eq, um_na, um_ni, Int.toNat_natCast]; omega)) (by first | omega | (simp (disch := omega) only [um_eq, um_na, um_ni, Int.toNat_natCast]; omega)) rfl (rSl_at (by omega)) <| X_gr 5 0 (hX.s2.se (by omega)) ⟨rfl, rfl⟩ rfl rfl <| X_ild rfl <| X_ia (hX.s2.tr (by omega)) (by first | omega | (simp (disch := omega) only [um_eq, um_na, um_ni, Int.toNat_natCast]; omega)) (by first | omega | (simp (disch := omega) only [um_eq, um_na, um_ni, Int.toNat_natCast]; omega)) rfl <| X_nil) rfl
        · rw [← e6]
          refine Rn.cne rfl (X_ild rfl <| X_i <| X_nil) (by first | omega | (simp (disch := omega) only [um_eq, um_na, um_ni, Int.toNat_natCast]; omega)) (by first | omega | (simp (disch := omega) only [um_eq, um_na, um_ni, Int.toNat_natCast]; omega)) (fun hc => ?_) (fun hc => absurd hc (by first | omega | decide | (simp (disch := omega) only [um_eq, um_na, um_ni, Int.toNat_natCast]; omega)))
          refine Rn.ine rfl (X_ild rfl <| X_nil) (by first | omega | (simp (disch := omega) only [um_eq, um_na, um_ni, Int.toNat_natCast]; omega)) (fun hc => absurd hc (by first | omega | decide | (simp (disch := omega) only [um_eq, um_na, um_ni, Int.toNat_natCast]; omega))) (fun hc => ?_)
          refine Rn.jto rfl (X_ald rfl <| X_gr 8 15 hM.ob ⟨rfl, rfl⟩ rfl rfl <| X_ild rfl <| X_ia hM.co (by first | omega | (simp (disch := omega) only [um_eq, um_na, um_ni, Int.toNat_natCast]; omega)) (by first | omega | (simp (disch := omega) only [um_eq, um_na, um_ni, Int.toNat_natCast]; omega)) rfl <| X_nil) ?_
          refine Rn.ri rfl (X_nil) rfl
      · refine ⟨D q (28 + 16 + 2 * i) 7, by omega, ?_, ?_⟩
        · refine Rn.ine rfl (X_ild rfl <| X_nil) (by first | omega | (simp (disch := omega) only [um_eq, um_na, um_ni, Int.toNat_natCast]; omega)) (fun hc => ?_) (fun hc => absurd hc (by first | omega | decide | (simp (disch := omega) only [um_eq, um_na, um_ni, Int.toNat_natCast]; omega)))
          refine Rn.fal rfl (X_i <| X_nil) ?_
          refine Rn.cne rfl (X_ist rfl (L' := [_, _, _, _, _]) rfl <| X_ild rfl <| X_i <| X_nil) (by first | omega | (simp (disch := omega) only [um_eq, um_na, um_ni, Int.toNat_natCast]; omega)) (by first | omega | (simp (disch := omega) only [um_eq, um_na, um_ni, Int.toNat_natCast]; omega)) (fun hc => ?_) (fun hc => absurd hc (by first | omega | decide | (simp (disch := omega) only [um_eq, um_na, um_ni, Int.toNat_natCast]; omega)))
          refine Rn.ri rfl (X_ald rfl <| X_gr 7 1 hX.ob ⟨rfl, rfl⟩ rfl rfl <| X_gr 6 1 hX.s2.st ⟨rfl, rfl⟩ rfl rfl <| X_gr 0 0 hX.s2.be ⟨rfl, rfl⟩ rfl rfl <| X_ild rfl <| X_aa hX.s2.sl (by decide) (by first | omega | (simp (disch := omega) only [um_eq, um_na, um_ni, Int.toNat_natCast]; omega)) (by first | omega | (simp (disch := omega) only [um_eq, um_na, um_ni, Int.toNat_natCast]; omega)) rfl (rSl_at (by omega)) <| X_gr 5 0 (hX.s2.se (by omega)) ⟨rfl, rfl⟩ rfl rfl <| X_ild rfl <| X_ia (hX.s2.tr (by omega)) (by first | omega | (simp (disch := omega) only [um_eq, um_na, um_ni, Int.toNat_natCast]; omega)) (by first | omega | (simp (disch := omega) only [um_eq, um_na, um_ni, Int.toNat_natCast]; omega)) rfl <| X_nil) rfl
        · rw [← e7]
          refine Rn.cne rfl (X_ild rfl <| X_i <| X_nil) (by first | omega | (simp (disch := omega) only [um_eq, um_na, um_ni, Int.toNat_natCast]; omega)) (by first | omega | (simp (disch := omega) only [um_eq, um_na, um_ni, Int.toNat_natCast]; omega)) (fun hc => ?_) (fun hc => absurd hc (by first | omega | decide | (simp (disch := omega) only [um_eq, um_na, um_ni, Int.toNat_natCast]; omega)))
          refine Rn.ine rfl (X_ild rfl <| X_nil) (by first | omega | (simp (disch := omega) only [um_eq, um_na, um_ni, Int.toNat_natCast]; omega)) (fun hc => ?_) (fun hc => absurd hc (by first | omega | decide | (simp (disch := omega) only [um_eq, um_na, um_ni, Int.toNat_natCast]; omega)))
          refine Rn.fal rfl (X_ald rfl <| X_gr 8 16 hM.ob ⟨rfl, rfl⟩ rfl rfl <| X_ild rfl <| X_ia hM.pa (by first | omega | (simp (disch := omega) only [um_eq, um_na, um_ni, Int.toNat_natCast]; omega)) (by first | omega | (simp (disch := omega) only [um_eq, um_na, um_ni, Int.toNat_natCast]; omega)) rfl <| X_nil) ?_
          refine Rn.ri rfl (X_nil) rfl
  obtain ⟨x, ix, f1, f2⟩ := fin
  refine ⟨x, T, D q, E q, ix, ⟨_, rfl, pc _ ?_⟩, ⟨_, rfl, pm _ _ dq77 ?_⟩, hG⟩
  · refine Rn.cal rfl (X_ild rfl <| X_i <| X_i <| X_nil) (vs := [_, _, _]) (rest := []) rfl rfl rfl rfl (c_wY (by omega) (by decide) (by decide) h3) ?_
    refine Rn.ine rfl (X_nil) (by first | omega | (simp (disch := omega) only [um_eq, um_na, um_ni, Int.toNat_natCast]; omega)) (fun hc => ?_) (fun hc => absurd hc (by first | omega | decide | (simp (disch := omega) only [um_eq, um_na, um_ni, Int.toNat_natCast]; omega)))
    refine Rn.cal rfl (X_ald rfl <| X_gr 7 1 hX.ob ⟨rfl, rfl⟩ rfl rfl <| X_ald rfl <| X_gr 7 0 hX.ob ⟨rfl, rfl⟩ rfl rfl <| X_nil) (vs := [_, _]) (rest := []) rfl rfl rfl (rcv_v hX.s2.st (by decide)) (c1) ?_
    refine Rn.fal rfl (X_i <| X_ist rfl (L' := [_, _, _, _, _]) rfl <| X_nil) ?_
    have l0 := cloop _ f1 q 0 (by omega)
    rw [d0] at l0
    exact l0
  · refine Rn.cal rfl (X_ild rfl <| X_i2l (by first | omega | (simp (disch := omega) only [um_eq, um_na, um_ni, Int.toNat_natCast]; omega)) <| X_l <| X_l <| X_nil) (vs := [_, _, _]) (rest := []) rfl rfl rfl rfl (c_iY (by omega) (by decide) (by decide) h3) ?_
    refine Rn.ine rfl (X_nil) (by first | omega | (simp (disch := omega) only [um_eq, um_na, um_ni, Int.toNat_natCast]; omega)) (fun hc => ?_) (fun hc => absurd hc (by first | omega | decide | (simp (disch := omega) only [um_eq, um_na, um_ni, Int.toNat_natCast]; omega)))
    refine Rn.cal rfl (X_ald rfl <| X_nil) (vs := [_]) (rest := []) rfl rfl rfl (rcv_v hM.ob (by decide)) (cl) ?_
    refine Rn.fal rfl (X_i <| X_ist rfl (L' := [_, _, _, _, _]) rfl <| X_nil) ?_
    have l0 := mloop _ f2 q 0 (by omega)
    rw [e0] at l0
    exact l0
end Foretold
