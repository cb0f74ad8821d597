/-! THE MODEL'S COSTS, AND WHO PAYS -/
section Mcost
variable {S : List Int} {T : List Sh} {M : Nat → Int → Int} {h : Hp}
/-- what the night costs one, by the model's numbers -/
def mCost (M : Nat → Int → Int) (s : Nat) : Int := if M 76 20 = (s : Int) ∧ M 76 18 = 0 then lightC (V M) (0 + 16 + 2 * s) (M 76 19) + ((if M 76 21 = 0 then M 77 (71 + (s : Int)) else 0) + 2 * M 76 17) else lightC (V M) (0 + 16 + 2 * s) (M 76 19)
theorem c_costOf {s : Nat} (hM : isM T) (hs : s < 4) (hr : 0 ≤ M 77 (63 + (s : Int)) ∧ M 77 (63 + (s : Int)) ≤ 120) (hm : 0 ≤ M 76 19 ∧ M 76 19 ≤ 300) (hw : -1 ≤ M 76 20 ∧ M 76 20 ≤ 4) (hc0 : 0 ≤ M 76 18 ∧ M 76 18 ≤ 1) (ha : M 76 21 = 0 ∨ M 76 21 = 1) : Cl S 159 [vR 76, vI (s : Int)] (T, M) (some (vI (mCost M s)), (T, M)) := by
  have el : M 77 (67 + (s : Int)) * (if 0 ≤ M 76 19 - M 77 (63 + (s : Int)) then M 76 19 - M 77 (63 + (s : Int)) else 0) + 3 * (if 0 ≤ M 77 (63 + (s : Int)) - M 76 19 then M 77 (63 + (s : Int)) - M 76 19 else 0) = lightC (V M) (0 + 16 + 2 * s) (M 76 19) := by
    unfold lightC
    rw [V_1, V_2]
    generalize M 76 19 = t
    generalize M 77 (63 + (s : Int)) = R
    generalize M 77 (67 + (s : Int)) = H
    by_cases h1 : t - R ≤ 0
    · rw [if_pos (c := t - R ≤ 0) h1, if_pos (c := 0 ≤ R - t) (by omega)]
      by_cases h2 : 0 ≤ t - R
      · rw [if_pos (c := 0 ≤ t - R) h2]
        have : t - R = 0 := by omega
        rw [this]
        omega
      · rw [if_neg (c := 0 ≤ t - R) h2]
        omega
    · rw [if_neg (c := t - R ≤ 0) h1, if_pos (c := 0 ≤ t - R) (by omega), if_neg (c := 0 ≤ R - t) (by omega)]
      omega
  have tail : ∀ (x2 x3 : Option AV) (z : Int), Rn S 159 108 ([vI z, vI (lightC (V M) (0 + 16 + 2 * s) (M 76 19))], [some (vR 76), some (vI (s : Int)), x2, x3], T, M) (some (vI (lightC (V M) (0 + 16 + 2 * s) (M 76 19) + z)), (T, M)) := by
    intro x2 x3 z
    refine Rn.ri rfl (X_add <| X_nil) rfl
  refine ⟨_, rfl, ?_⟩
  unfold mCost
  refine Rn.cal rfl (X_ald rfl <| X_gr 8 0 hM.ob ⟨rfl, rfl⟩ rfl rfl <| X_i <| X_ild rfl <| X_add <| X_ia hM.w (by first | omega | (simp (disch := omega) only [um_eq, um_na, um_ni, Int.toNat_natCast]; omega)) (by first | omega | (simp (disch := omega) only [um_eq, um_na, um_ni, Int.toNat_natCast]; omega)) rfl <| X_i <| X_ald rfl <| X_gi 8 19 19 hM.ob ⟨rfl, rfl, rfl⟩ (Or.inl rfl) <| X_ald rfl <| X_gr 8 0 hM.ob ⟨rfl, rfl⟩ rfl rfl <| X_i <| X_ild rfl <| X_add <| X_ia hM.w (by first | omega | (simp (disch := omega) only [um_eq, um_na, um_ni, Int.toNat_natCast]; omega)) (by first | omega | (simp (disch := omega) only [um_eq, um_na, um_ni, Int.toNat_natCast]; omega)) rfl <| X_sub <| X_nil) (vs := [_, _]) (rest := [_]) rfl rfl rfl rfl (c_more (by omega) (by omega)) ?_
  refine Rn.cal rfl (X_mul <| X_i <| X_i <| X_ald rfl <| X_gr 8 0 hM.ob ⟨rfl, rfl⟩ rfl rfl <| X_i <| X_ild rfl <| X_add <| X_ia hM.w (by first | omega | (simp (disch := omega) only [um_eq, um_na, um_ni, Int.toNat_natCast]; omega)) (by first | omega | (simp (disch := omega) only [um_eq, um_na, um_ni, Int.toNat_natCast]; omega)) rfl <| X_ald rfl <| X_gi 8 19 19 hM.ob ⟨rfl, rfl, rfl⟩ (Or.inl rfl) <| X_sub <| X_nil) (vs := [_, _]) (rest := [_, _]) rfl rfl rfl rfl (c_more (by omega) (by omega)) ?_
  refine Rn.cne rfl (X_mul <| X_add <| X_ist rfl (L' := [_, _, _, _]) rfl <| X_ild rfl <| X_ald rfl <| X_gi 8 20 20 hM.ob ⟨rfl, rfl, rfl⟩ (Or.inl rfl) <| X_nil) (by first | omega | (simp (disch := omega) only [um_eq, um_na, um_ni, Int.toNat_natCast]; omega)) (by first | omega | (simp (disch := omega) only [um_eq, um_na, um_ni, Int.toNat_natCast]; omega)) (fun hc => ?_) (fun hc => ?_)
  · rw [el, if_neg (c := M 76 20 = (s : Int) ∧ M 76 18 = 0) (fun z => hc z.1.symm)]
    refine Rn.fal rfl (X_i <| X_nil) ?_
    refine Rn.ieq rfl (X_ist rfl (L' := [_, _, _, _]) rfl <| X_ild rfl <| X_ild rfl <| X_nil) (by first | omega | (simp (disch := omega) only [um_eq, um_na, um_ni, Int.toNat_natCast]; omega)) (fun hc => ?_) (fun hc => ?_)
    · refine Rn.fal rfl (X_i <| X_nil) ?_
      have t0 := tail (some (vI (lightC (V M) (0 + 16 + 2 * s) (M 76 19)))) (some (vI 0)) 0
      rw [Int.add_zero] at t0
      exact t0
    · exact absurd rfl hc
  · have hc1 := hc
    rw [el]
    refine Rn.ine rfl (X_ald rfl <| X_gi 8 18 18 hM.ob ⟨rfl, rfl, rfl⟩ (Or.inl rfl) <| X_nil) (by first | omega | (simp (disch := omega) only [um_eq, um_na, um_ni, Int.toNat_natCast]; omega)) (fun hc => ?_) (fun hc => ?_)
    · rw [if_neg (c := M 76 20 = (s : Int) ∧ M 76 18 = 0) (fun z => hc z.2)]
      refine Rn.fal rfl (X_i <| X_nil) ?_
      refine Rn.ieq rfl (X_ist rfl (L' := [_, _, _, _]) rfl <| X_ild rfl <| X_ild rfl <| X_nil) (by first | omega | (simp (disch := omega) only [um_eq, um_na, um_ni, Int.toNat_natCast]; omega)) (fun hc => ?_) (fun hc => ?_)
      · refine Rn.fal rfl (X_i <| X_nil) ?_
        have t0 := tail (some (vI (lightC (V M) (0 + 16 + 2 * s) (M 76 19)))) (some (vI 0)) 0
        rw [Int.add_zero] at t0
        exact t0
      · exact absurd rfl hc
    · rw [if_pos (c := M 76 20 = (s : Int) ∧ M 76 18 = 0) ⟨hc1.symm, hc⟩]
      refine Rn.jto rfl (X_i <| X_nil) ?_
      refine Rn.ieq rfl (X_ist rfl (L' := [_, _, _, _]) rfl <| X_ild rfl <| X_ild rfl <| X_nil) (by first | omega | (simp (disch := omega) only [um_eq, um_na, um_ni, Int.toNat_natCast]; omega)) (fun hc => ?_) (fun hc => ?_)
      · exact absurd hc (by omega)
      · refine Rn.cne rfl (X_ald rfl <| X_gi 8 21 21 hM.ob ⟨rfl, rfl, rfl⟩ (Or.inl rfl) <| X_i <| X_nil) (by first | omega | (simp (disch := omega) only [um_eq, um_na, um_ni, Int.toNat_natCast]; omega)) (by first | omega | (simp (disch := omega) only [um_eq, um_na, um_ni, Int.toNat_natCast]; omega)) (fun hc => ?_) (fun hc => ?_)
        · rw [if_pos (by omega)]
          refine Rn.fal rfl (X_ald rfl <| X_gr 8 0 hM.ob ⟨rfl, rfl⟩ rfl rfl <| X_i <| X_ild rfl <| X_add <| X_ia hM.w (by first | omega | (simp (disch := omega) only [um_eq, um_na, um_ni, Int.toNat_natCast]; omega)) (by first | omega | (simp (disch := omega) only [um_eq, um_na, um_ni, Int.toNat_natCast]; omega)) rfl <| X_nil) ?_
          refine Rn.jto rfl (X_i <| X_ald rfl <| X_gi 8 17 17 hM.ob ⟨rfl, rfl, rfl⟩ (Or.inl rfl) <| X_mul <| X_add <| X_nil) ?_
          exact tail _ _ _
        · rw [if_neg (by omega)]
          refine Rn.jto rfl (X_i <| X_nil) ?_
          refine Rn.jto rfl (X_i <| X_ald rfl <| X_gi 8 17 17 hM.ob ⟨rfl, rfl, rfl⟩ (Or.inl rfl) <| X_mul <| X_add <| X_nil) ?_
          exact tail _ _ _
theorem mCost_cg {N : Nat → Int → Int} {s : Nat} (h76 : N 76 = M 76) (h77 : N 77 = M 77) : mCost N s = mCost M s := by
  unfold mCost lightC
  rw [V_1, V_2, V_1, V_2, h76, h77]
/-- what the model's night must be in range -/
def GnOk (M : Nat → Int → Int) : Prop := (0 ≤ M 76 19 ∧ M 76 19 ≤ 300) ∧ (-1 ≤ M 76 20 ∧ M 76 20 < M 77 6) ∧ (0 ≤ M 76 18 ∧ M 76 18 ≤ 1) ∧ (M 76 21 = 0 ∨ M 76 21 = 1)
theorem c_pays (hM : isM T) (h6 : 0 ≤ M 77 6 ∧ M 77 6 ≤ 4) (hr : ∀ s : Nat, (s : Int) < M 77 6 → 0 ≤ M 77 (63 + (s : Int)) ∧ M 77 (63 + (s : Int)) ≤ 120) (hg : GnOk M) : ∃ M', Cl S 160 [vR 76] (T, M) (none, (T, M')) ∧ (∀ s : Nat, (s : Int) < M 77 6 → M' 84 (s : Int) = M 84 (s : Int) + mCost M s ∧ M' 83 (s : Int) = M 83 (s : Int) + (if M 76 20 = (s : Int) then 1 else 0)) ∧ (∀ k, M 77 6 ≤ k → M' 84 k = M 84 k ∧ M' 83 k = M 83 k) ∧ (∀ a, a ≠ 84 → a ≠ 83 → M' a = M a) := by
  obtain ⟨g1, g2, g3, g4⟩ := id hg
  have loop : ∀ (k i : Nat) (N : Nat → Int → Int), i + k = (M 77 6).toNat → (∀ a, a ≠ 84 → N a = M a) → ∃ N', (∀ r, Rn S 160 33 ([], [some (vR 76), some (vI (M 77 6))], T, N') r → Rn S 160 2 ([], [some (vR 76), some (vI (i : Int))], T, N) r) ∧ (∀ a, a ≠ 84 → N' a = M a) ∧ (∀ s : Nat, i ≤ s → (s : Int) < M 77 6 → N' 84 (s : Int) = N 84 (s : Int) + mCost M s) ∧ (∀ k : Int, k < i ∨ M 77 6 ≤ k → N' 84 k = N 84 k) := by
    intro k
    induction k with
    | zero =>
      intro i N hi hN
      have e77 : N 77 = M 77 := hN _ (by decide)
      have ei : M 77 6 = (i : Int) := by omega
      refine ⟨N, fun r hr => ?_, hN, fun s s1 s2 => by omega, fun k _ => rfl⟩
      rw [ei] at hr
      refine Rn.cge rfl (X_ild rfl <| X_ald rfl <| X_gr 8 0 hM.ob ⟨rfl, rfl⟩ rfl rfl <| X_i <| X_ia hM.w (by first | omega | (simp (disch := omega) only [um_eq, um_na, um_ni, Int.toNat_natCast]; omega)) (by first | omega | (simp (disch := omega) only [um_eq, um_na, um_ni, Int.toNat_natCast]; omega)) rfl <| X_nil) (by first | omega | (simp (disch := omega) only [um_eq, um_na, um_ni, Int.toNat_natCast]; omega)) (by rw [e77]; omega) (fun hc => ?_) (fun hc => ?_)
      · exact hr
      · rw [e77] at hc
        exact absurd hc (by omega)
    | succ k ih =>
      intro i N hi hN
      have e77 : N 77 = M 77 := hN _ (by decide)
      have e76 : N 76 = M 76 := hN _ (by decide)
      have cc := c_costOf (S := S) (M := N) (s := i) hM (by omega) (by rw [e77]; exact hr i (by omega)) (by rw [e76]; exact g1) (by rw [e76]; omega) (by rw [e76]; exact g3) (by rw [e76]; exact g4)
      rw [mCost_cg e76 e77] at cc
      obtain ⟨N', r1, r2, r3, r4⟩ := ih (i + 1) (um N 84 (i : Int) (N 84 (i : Int) + mCost M i)) (by omega) (fun a ha => by rw [um_fn ha]; exact hN a ha)
      refine ⟨N', fun r hr => ?_, r2, fun s s1 s2 => ?_, fun k hk => ?_⟩
      · refine Rn.cge rfl (X_ild rfl <| X_ald rfl <| X_gr 8 0 hM.ob ⟨rfl, rfl⟩ rfl rfl <| X_i <| X_ia hM.w (by first | omega | (simp (disch := omega) only [um_eq, um_na, um_ni, Int.toNat_natCast]; omega)) (by first | omega | (simp (disch := omega) only [um_eq, um_na, um_ni, Int.toNat_natCast]; omega)) rfl <| X_nil) (by first | omega | (simp (disch := omega) only [um_eq, um_na, um_ni, Int.toNat_natCast]; omega)) (by rw [e77]; omega) (fun hc => ?_) (fun hc => ?_)
        · rw [e77] at hc
          exact absurd hc (by omega)
        · refine Rn.cal rfl (X_ald rfl <| X_gr 8 16 hM.ob ⟨rfl, rfl⟩ rfl rfl <| X_ild rfl <| X_du2 <| X_ia hM.pa (by first | omega | (simp (disch := omega) only [um_eq, um_na, um_ni, Int.toNat_natCast]; omega)) (by first | omega | (simp (disch := omega) only [um_eq, um_na, um_ni, Int.toNat_natCast]; omega)) rfl <| X_ald rfl <| X_ild rfl <| X_nil) (vs := [_, _]) (rest := [_, _, _]) rfl rfl rfl (rcv_v hM.ob (by decide)) (cc) ?_
          refine Rn.jto rfl (X_add <| X_is hM.pa (by first | omega | (simp (disch := omega) only [um_eq, um_na, um_ni, Int.toNat_natCast]; omega)) (by first | omega | (simp (disch := omega) only [um_eq, um_na, um_ni, Int.toNat_natCast]; omega)) rfl <| X_inc rfl (L' := [_, _]) rfl <| X_nil) ?_
          exact r1 r hr
      · by_cases e : s = i
        · subst e
          rw [r4 _ (by omega), um_eq]
        · rw [r3 s (by omega) s2, um_ni (by omega)]
      · rw [r4 k (by omega), um_ni (by omega)]
  obtain ⟨N, r1, r2, r3, r4⟩ := loop (M 77 6).toNat 0 M (by omega) (fun _ _ => rfl)
  have n76 : N 76 = M 76 := r2 _ (by decide)
  have n83 : N 83 = M 83 := r2 _ (by decide)
  have e20 : N 76 20 = M 76 20 := by rw [n76]
  by_cases hwho : M 76 20 = -1
  · refine ⟨N, ⟨_, rfl, ?_⟩, fun s hs => ⟨r3 s (by omega) hs, ?_⟩, fun k hk => ⟨r4 k (Or.inr hk), by rw [n83]⟩, fun a a1 _ => r2 a a1⟩
    · refine Rn.fal rfl (X_i <| X_ist rfl (L' := [_, _]) rfl <| X_nil) ?_
      refine r1 _ ?_
      refine Rn.ceq rfl (X_ald rfl <| X_gi 8 20 20 hM.ob ⟨rfl, rfl, rfl⟩ (Or.inl rfl) <| X_i <| X_nil) (by rw [e20]; omega) (by first | omega | (simp (disch := omega) only [um_eq, um_na, um_ni, Int.toNat_natCast]; omega)) (fun hc => ?_) (fun hc => ?_)
      · refine Rn.rv rfl (X_nil) rfl
      · rw [e20] at hc
        exact absurd hwho hc
    · rw [n83, if_neg (by omega)]
      omega
  · have hm83 : (M 76 20) < 4 := by omega
    refine ⟨um N 83 (M 76 20) (M 83 (M 76 20) + 1), ⟨_, rfl, ?_⟩, fun s hs => ⟨?_, ?_⟩, fun k hk => ⟨?_, ?_⟩, fun a a1 a2 => by rw [um_fn a2]; exact r2 a a1⟩
    · refine Rn.fal rfl (X_i <| X_ist rfl (L' := [_, _]) rfl <| X_nil) ?_
      refine r1 _ ?_
      refine Rn.ceq rfl (X_ald rfl <| X_gi 8 20 20 hM.ob ⟨rfl, rfl, rfl⟩ (Or.inl rfl) <| X_i <| X_nil) (by rw [e20]; omega) (by first | omega | (simp (disch := omega) only [um_eq, um_na, um_ni, Int.toNat_natCast]; omega)) (fun hc => ?_) (fun hc => ?_)
      · rw [e20] at hc
        exact absurd hc hwho
      · refine Rn.fal rfl (X_ald rfl <| X_gr 8 15 hM.ob ⟨rfl, rfl⟩ rfl rfl <| X_ald rfl <| X_gi 8 20 20 hM.ob ⟨rfl, rfl, rfl⟩ (Or.inl rfl) <| X_du2 <| X_ia hM.co (by rw [e20]; omega) (by rw [e20]; omega) rfl <| X_i <| X_add <| X_is hM.co (by rw [e20]; omega) (by rw [e20]; omega) rfl <| X_nil) ?_
        rw [e20, n83]
        refine Rn.rv rfl (X_nil) rfl
    · rw [um_na (by decide)]
      exact r3 s (by omega) hs
    · by_cases e : M 76 20 = (s : Int)
      · rw [if_pos e, e, um_eq]
      · rw [if_neg e, um_ni (fun z => e z.symm), n83]
        omega
    · rw [um_na (by decide)]
      exact r4 k (Or.inr hk)
    · rw [um_ni (by omega), n83]
end Mcost
