/-! THE MODEL'S SMALL METHODS -/
section Mleaf
variable {S : List Int} {T : List Sh} {M : Nat → Int → Int} {h : Hp}
theorem c_in {v lo hi : Int} (iv : I64 v) (il : I64 lo) (ih : I64 hi) : Cl S 116 [vL v, vL lo, vL hi] h (some (vI (if lo ≤ v ∧ v ≤ hi then 1 else 0)), h) := by
  refine ⟨_, rfl, ?_⟩
  refine Rn.llt rfl (X_lld rfl <| X_lld rfl <| X_lcm (by first | omega | (simp (disch := omega) only [um_eq, um_na, um_ni, Int.toNat_natCast]; omega)) (by first | omega | (simp (disch := omega) only [um_eq, um_na, um_ni, Int.toNat_natCast]; omega)) <| X_nil) (fun hc => ?_) (fun hc => ?_)
  · rw [if_neg (by omega)]
    refine Rn.fal rfl (X_i <| X_nil) ?_
    refine Rn.rz rfl (X_nil) rfl (by first | exact Or.inl rfl | exact Or.inr rfl | omega)
  · refine Rn.lgt rfl (X_lld rfl <| X_lld rfl <| X_lcm (by first | omega | (simp (disch := omega) only [um_eq, um_na, um_ni, Int.toNat_natCast]; omega)) (by first | omega | (simp (disch := omega) only [um_eq, um_na, um_ni, Int.toNat_natCast]; omega)) <| X_nil) (fun hc => ?_) (fun hc => ?_)
    · rw [if_neg (by omega)]
      refine Rn.fal rfl (X_i <| X_nil) ?_
      refine Rn.rz rfl (X_nil) rfl (by first | exact Or.inl rfl | exact Or.inr rfl | omega)
    · rw [if_pos (by omega)]
      refine Rn.jto rfl (X_i <| X_nil) ?_
      refine Rn.rz rfl (X_nil) rfl (by first | exact Or.inl rfl | exact Or.inr rfl | omega)
theorem c_mhas {s k : Int} : Cl S 117 [vI s, vI k] h (some (vI (if o_and (o_shr s k) 1 = 1 then 1 else 0)), h) := by
  have ia := I32_and (o_shr s k) 1
  refine ⟨_, rfl, ?_⟩
  refine Rn.cne rfl (X_ild rfl <| X_ild rfl <| X_shr <| X_i <| X_and <| X_i <| X_nil) (by first | omega | (simp (disch := omega) only [um_eq, um_na, um_ni, Int.toNat_natCast]; omega)) (by first | omega | (simp (disch := omega) only [um_eq, um_na, um_ni, Int.toNat_natCast]; omega)) (fun hc => ?_) (fun hc => ?_)
  · rw [if_neg hc]
    refine Rn.fal rfl (X_i <| X_nil) ?_
    refine Rn.rz rfl (X_nil) rfl (by first | exact Or.inl rfl | exact Or.inr rfl | omega)
  · rw [if_pos hc]
    refine Rn.jto rfl (X_i <| X_nil) ?_
    refine Rn.rz rfl (X_nil) rfl (by first | exact Or.inl rfl | exact Or.inr rfl | omega)
theorem c_more {x y : Int} (ix : I32 x) (iy : I32 y) : Cl S 118 [vI x, vI y] h (some (vI (if x ≤ y then y else x)), h) := by
  refine ⟨_, rfl, ?_⟩
  refine Rn.cle rfl (X_ild rfl <| X_ild rfl <| X_nil) (by first | omega | (simp (disch := omega) only [um_eq, um_na, um_ni, Int.toNat_natCast]; omega)) (by first | omega | (simp (disch := omega) only [um_eq, um_na, um_ni, Int.toNat_natCast]; omega)) (fun hc => ?_) (fun hc => ?_)
  · rw [if_pos hc]
    refine Rn.fal rfl (X_ild rfl <| X_nil) ?_
    refine Rn.ri rfl (X_nil) rfl
  · rw [if_neg (by omega)]
    refine Rn.jto rfl (X_ild rfl <| X_nil) ?_
    refine Rn.ri rfl (X_nil) rfl
/-- met: what was refused is counted -/
theorem c_met {v : Int} (hM : isM T) (hv : v = -2 ∨ v = -3 ∨ v = -4) : Cl S 119 [vR 76, vI v] (T, M) (some (vI v), (T, um M 80 (-2 - v) (M 80 (-2 - v) + 1))) := by
  have k18 : Rn S 119 18 ([], [some (vR 76), some (vI v)], T, M) (some (vI v), (T, um M 80 (-2 - v) (M 80 (-2 - v) + 1))) := by
    refine Rn.fal rfl (X_ald rfl <| X_gr 8 4 hM.ob ⟨rfl, rfl⟩ rfl rfl <| X_i <| X_ild rfl <| X_sub <| X_du2 <| X_ia hM.re (by first | omega | (simp (disch := omega) only [um_eq, um_na, um_ni, Int.toNat_natCast]; omega)) (by first | omega | (simp (disch := omega) only [um_eq, um_na, um_ni, Int.toNat_natCast]; omega)) rfl <| X_i <| X_add <| X_is hM.re (by first | omega | (simp (disch := omega) only [um_eq, um_na, um_ni, Int.toNat_natCast]; omega)) (by first | omega | (simp (disch := omega) only [um_eq, um_na, um_ni, Int.toNat_natCast]; omega)) rfl <| X_nil) ?_
    refine Rn.ri rfl (X_ild rfl <| X_nil) rfl
  refine ⟨_, rfl, ?_⟩
  refine Rn.ceq rfl (X_ild rfl <| X_i <| X_nil) (by first | omega | (simp (disch := omega) only [um_eq, um_na, um_ni, Int.toNat_natCast]; omega)) (by first | omega | (simp (disch := omega) only [um_eq, um_na, um_ni, Int.toNat_natCast]; omega)) (fun hc => ?_) (fun hc => ?_)
  · exact k18
  · refine Rn.ceq rfl (X_ild rfl <| X_i <| X_nil) (by first | omega | (simp (disch := omega) only [um_eq, um_na, um_ni, Int.toNat_natCast]; omega)) (by first | omega | (simp (disch := omega) only [um_eq, um_na, um_ni, Int.toNat_natCast]; omega)) (fun hc => ?_) (fun hc => ?_)
    · exact k18
    · refine Rn.cne rfl (X_ild rfl <| X_i <| X_nil) (by first | omega | (simp (disch := omega) only [um_eq, um_na, um_ni, Int.toNat_natCast]; omega)) (by first | omega | (simp (disch := omega) only [um_eq, um_na, um_ni, Int.toNat_natCast]; omega)) (fun hc => ?_) (fun hc => ?_)
      · exact absurd hc (by omega)
      · exact k18
theorem c_mbad (hM : isM T) : Cl S 120 [vR 76] (T, M) (some (vI (-2)), (T, um M 80 0 (M 80 0 + 1))) := by
  have c := c_met (S := S) (M := M) (v := -2) hM (Or.inl rfl)
  refine ⟨_, rfl, ?_⟩
  refine Rn.cal rfl (X_ald rfl <| X_i <| X_nil) (vs := [_, _]) (rest := []) rfl rfl rfl (rcv_v hM.ob (by decide)) (c) ?_
  refine Rn.ri rfl (X_nil) rfl
theorem c_mbadAs {v : Int} (hM : isM T) : Cl S 121 [vR 76, vI v] (T, M) (some (vI v), (T, um M 80 0 (M 80 0 + 1))) := by
  refine ⟨_, rfl, ?_⟩
  refine Rn.ri rfl (X_ald rfl <| X_gr 8 4 hM.ob ⟨rfl, rfl⟩ rfl rfl <| X_i <| X_du2 <| X_ia hM.re (by first | omega | (simp (disch := omega) only [um_eq, um_na, um_ni, Int.toNat_natCast]; omega)) (by first | omega | (simp (disch := omega) only [um_eq, um_na, um_ni, Int.toNat_natCast]; omega)) rfl <| X_i <| X_add <| X_is hM.re (by first | omega | (simp (disch := omega) only [um_eq, um_na, um_ni, Int.toNat_natCast]; omega)) (by first | omega | (simp (disch := omega) only [um_eq, um_na, um_ni, Int.toNat_natCast]; omega)) rfl <| X_ild rfl <| X_nil) rfl
theorem c_becomes {a v : Int} (hM : isM T) (a0 : 0 ≤ a) (a1 : a < 748) : Cl S 129 [vR 76, vI a, vI v] (T, M) (some (vI (M 77 a)), (T, um M 77 a v)) := by
  refine ⟨_, rfl, ?_⟩
  refine Rn.ri rfl (X_ald rfl <| X_gr 8 0 hM.ob ⟨rfl, rfl⟩ rfl rfl <| X_ild rfl <| X_ia hM.w (by first | omega | (simp (disch := omega) only [um_eq, um_na, um_ni, Int.toNat_natCast]; omega)) (by first | omega | (simp (disch := omega) only [um_eq, um_na, um_ni, Int.toNat_natCast]; omega)) rfl <| X_ist rfl (L' := [_, _, _, _]) rfl <| X_ald rfl <| X_gr 8 0 hM.ob ⟨rfl, rfl⟩ rfl rfl <| X_ild rfl <| X_ild rfl <| X_is hM.w (by first | omega | (simp (disch := omega) only [um_eq, um_na, um_ni, Int.toNat_natCast]; omega)) (by first | omega | (simp (disch := omega) only [um_eq, um_na, um_ni, Int.toNat_natCast]; omega)) rfl <| X_ild rfl <| X_nil) rfl
theorem c_isCell {r c : Int} (hM : isM T) (r0 : 0 ≤ r) (r1 : r < 600) (hw : 1 ≤ M 77 r ∧ M 77 r ≤ 7) (hh : 1 ≤ M 77 (r + 1) ∧ M 77 (r + 1) ≤ 7) (ic : I32 c) : Cl S 124 [vR 76, vI r, vI c] (T, M) (some (vI (if 0 ≤ c ∧ c ≤ M 77 r * M 77 (r + 1) - 1 then 1 else 0)), (T, M)) := by
  have p1 : M 77 r * M 77 (r + 1) ≤ 7 * 7 := Int.mul_le_mul hw.2 hh.2 (by omega) (by omega)
  have p0 : 0 ≤ M 77 r * M 77 (r + 1) := Int.mul_nonneg (by omega) (by omega)
  have e0 : M 77 (r + 0) = M 77 r := by rw [Int.add_zero]
  refine ⟨_, rfl, ?_⟩
  have ci := c_in (S := S) (h := (T, M)) (v := c) (lo := 0) (hi := M 77 r * M 77 (r + 1) - 1) (by omega) (by omega) (by omega)
  rw [← e0] at ci ⊢
  refine Rn.cal rfl (X_ild rfl <| X_i2l (by first | omega | (simp (disch := omega) only [um_eq, um_na, um_ni, Int.toNat_natCast]; omega)) <| X_l <| X_ald rfl <| X_gr 8 0 hM.ob ⟨rfl, rfl⟩ rfl rfl <| X_ild rfl <| X_i <| X_add <| X_ia hM.w (by first | omega | (simp (disch := omega) only [um_eq, um_na, um_ni, Int.toNat_natCast]; omega)) (by first | omega | (simp (disch := omega) only [um_eq, um_na, um_ni, Int.toNat_natCast]; omega)) rfl <| X_ald rfl <| X_gr 8 0 hM.ob ⟨rfl, rfl⟩ rfl rfl <| X_ild rfl <| X_i <| X_add <| X_ia hM.w (by first | omega | (simp (disch := omega) only [um_eq, um_na, um_ni, Int.toNat_natCast]; omega)) (by first | omega | (simp (disch := omega) only [um_eq, um_na, um_ni, Int.toNat_natCast]; omega)) rfl <| X_mul <| X_i <| X_sub <| X_i2l (by rw [e0]; omega) <| X_nil) (vs := [_, _, _]) (rest := []) rfl rfl rfl rfl (ci) ?_
  refine Rn.rz rfl (X_nil) rfl (by split <;> simp)
theorem c_isOne {s : Int} (hM : isM T) (h6 : 0 ≤ M 77 6 ∧ M 77 6 ≤ 4) (is : I32 s) : Cl S 125 [vR 76, vI s] (T, M) (some (vI (if 0 ≤ s ∧ s ≤ M 77 6 - 1 then 1 else 0)), (T, M)) := by
  refine ⟨_, rfl, ?_⟩
  refine Rn.cal rfl (X_ild rfl <| X_i2l (by first | omega | (simp (disch := omega) only [um_eq, um_na, um_ni, Int.toNat_natCast]; omega)) <| X_l <| X_ald rfl <| X_gr 8 0 hM.ob ⟨rfl, rfl⟩ rfl rfl <| X_i <| X_ia hM.w (by first | omega | (simp (disch := omega) only [um_eq, um_na, um_ni, Int.toNat_natCast]; omega)) (by first | omega | (simp (disch := omega) only [um_eq, um_na, um_ni, Int.toNat_natCast]; omega)) rfl <| X_i <| X_sub <| X_i2l (by first | omega | (simp (disch := omega) only [um_eq, um_na, um_ni, Int.toNat_natCast]; omega)) <| X_nil) (vs := [_, _, _]) (rest := []) rfl rfl rfl rfl (c_in (by omega) (by omega) (by omega)) ?_
  refine Rn.rz rfl (X_nil) rfl (by split <;> simp)
def mostV (k : Int) : Int := if k = 0 then 5 else if k = 1 ∨ k = 5 then 120 else if k = 2 then 9 else if k = 3 then 20 else 60
theorem c_most {k : Int} (ik : I32 k) : Cl S 126 [vI k] h (some (vI (mostV k)), h) := by
  refine ⟨_, rfl, ?_⟩
  unfold mostV
  refine Rn.ine rfl (X_ild rfl <| X_nil) (by first | omega | (simp (disch := omega) only [um_eq, um_na, um_ni, Int.toNat_natCast]; omega)) (fun hc => ?_) (fun hc => ?_)
  · rw [if_neg hc]
    refine Rn.ceq rfl (X_ild rfl <| X_i <| X_nil) (by first | omega | (simp (disch := omega) only [um_eq, um_na, um_ni, Int.toNat_natCast]; omega)) (by first | omega | (simp (disch := omega) only [um_eq, um_na, um_ni, Int.toNat_natCast]; omega)) (fun hc => ?_) (fun hc => ?_)
    · rw [if_pos (Or.inl hc)]
      refine Rn.jto rfl (X_i <| X_nil) ?_
      refine Rn.ri rfl (X_nil) rfl
    · have hc1 := hc
      refine Rn.cne rfl (X_ild rfl <| X_i <| X_nil) (by first | omega | (simp (disch := omega) only [um_eq, um_na, um_ni, Int.toNat_natCast]; omega)) (by first | omega | (simp (disch := omega) only [um_eq, um_na, um_ni, Int.toNat_natCast]; omega)) (fun hc => ?_) (fun hc => ?_)
      · rw [if_neg (by omega)]
        refine Rn.cne rfl (X_ild rfl <| X_i <| X_nil) (by first | omega | (simp (disch := omega) only [um_eq, um_na, um_ni, Int.toNat_natCast]; omega)) (by first | omega | (simp (disch := omega) only [um_eq, um_na, um_ni, Int.toNat_natCast]; omega)) (fun hc => ?_) (fun hc => ?_)
        · rw [if_neg hc]
          refine Rn.cne rfl (X_ild rfl <| X_i <| X_nil) (by first | omega | (simp (disch := omega) only [um_eq, um_na, um_ni, Int.toNat_natCast]; omega)) (by first | omega | (simp (disch := omega) only [um_eq, um_na, um_ni, Int.toNat_natCast]; omega)) (fun hc => ?_) (fun hc => ?_)
          · rw [if_neg hc]
            refine Rn.fal rfl (X_i <| X_nil) ?_
            refine Rn.ri rfl (X_nil) rfl
          · rw [if_pos hc]
            refine Rn.jto rfl (X_i <| X_nil) ?_
            refine Rn.ri rfl (X_nil) rfl
        · rw [if_pos hc]
          refine Rn.jto rfl (X_i <| X_nil) ?_
          refine Rn.ri rfl (X_nil) rfl
      · rw [if_pos (Or.inr hc)]
        refine Rn.jto rfl (X_i <| X_nil) ?_
        refine Rn.ri rfl (X_nil) rfl
  · rw [if_pos hc]
    refine Rn.jto rfl (X_i <| X_nil) ?_
    refine Rn.ri rfl (X_nil) rfl
/-- a stretch of w is copied -/
theorem c_mcopy {x y : Int} (hM : isM T) (x0 : 0 ≤ x) (x1 : x + 187 ≤ 748) (y0 : 0 ≤ y) (y1 : y + 187 ≤ 748) (hxy : x + 187 ≤ y ∨ y + 187 ≤ x) : ∃ M', Cl S 122 [vR 76, vI x, vI y] (T, M) (none, (T, M')) ∧ (∀ k, 0 ≤ k → k < 187 → M' 77 (y + k) = M 77 (x + k)) ∧ (∀ k, k < y ∨ y + 187 ≤ k → M' 77 k = M 77 k) ∧ (∀ a, a ≠ 77 → M' a = M a) := by
  have loop : ∀ (j i : Nat) (N : Nat → Int → Int), i + j = 187 → ∃ N', Rn S 122 2 ([], [some (vR 76), some (vI x), some (vI y), some (vI (i : Int))], T, N) (none, (T, N')) ∧ (∀ k, (i : Int) ≤ k → k < 187 → N' 77 (y + k) = N 77 (x + k)) ∧ (∀ k, k < y + i ∨ y + 187 ≤ k → N' 77 k = N 77 k) ∧ (∀ a, a ≠ 77 → N' a = N a) := by
    intro j
    induction j with
    | zero =>
      intro i N hi
      refine ⟨N, ?_, fun k h1 h2 => by omega, fun k _ => rfl, fun a _ => rfl⟩
      refine Rn.cge rfl (X_ild rfl <| X_i <| X_nil) (by first | omega | (simp (disch := omega) only [um_eq, um_na, um_ni, Int.toNat_natCast]; omega)) (by first | omega | (simp (disch := omega) only [um_eq, um_na, um_ni, Int.toNat_natCast]; omega)) (fun hc => ?_) (fun hc => ?_)
      · refine Rn.rv rfl (X_nil) rfl
      · exact absurd hc (by omega)
    | succ j ih =>
      intro i N hi
      obtain ⟨N', r1, r2, r3, r4⟩ := ih (i + 1) (um N 77 (y + i) (N 77 (x + i))) (by omega)
      refine ⟨N', ?_, fun k h1 h2 => ?_, fun k hk => ?_, fun a ha => ?_⟩
      · refine Rn.cge rfl (X_ild rfl <| X_i <| X_nil) (by first | omega | (simp (disch := omega) only [um_eq, um_na, um_ni, Int.toNat_natCast]; omega)) (by first | omega | (simp (disch := omega) only [um_eq, um_na, um_ni, Int.toNat_natCast]; omega)) (fun hc => ?_) (fun hc => ?_)
        · exact absurd hc (by omega)
        · refine Rn.jto rfl (X_ald rfl <| X_gr 8 0 hM.ob ⟨rfl, rfl⟩ rfl rfl <| X_ild rfl <| X_ild rfl <| X_add <| X_ald rfl <| X_gr 8 0 hM.ob ⟨rfl, rfl⟩ rfl rfl <| X_ild rfl <| X_ild rfl <| X_add <| X_ia hM.w (by first | omega | (simp (disch := omega) only [um_eq, um_na, um_ni, Int.toNat_natCast]; omega)) (by first | omega | (simp (disch := omega) only [um_eq, um_na, um_ni, Int.toNat_natCast]; omega)) rfl <| X_is hM.w (by first | omega | (simp (disch := omega) only [um_eq, um_na, um_ni, Int.toNat_natCast]; omega)) (by first | omega | (simp (disch := omega) only [um_eq, um_na, um_ni, Int.toNat_natCast]; omega)) rfl <| X_inc rfl (L' := [_, _, _, _]) rfl <| X_nil) ?_
          exact r1
      · by_cases e : k = (i : Int)
        · rw [e, r3 _ (by omega), um_eq]
        · rw [r2 k (by omega) h2, um_ni (by omega)]
      · rw [r3 k (by omega), um_ni (by omega)]
      · rw [r4 a ha, um_fn ha]
  obtain ⟨N', r1, r2, r3, r4⟩ := loop 187 0 M (by omega)
  refine ⟨N', ⟨_, rfl, ?_⟩, fun k h1 h2 => r2 k (by omega) h2, fun k hk => r3 k (by omega), r4⟩
  refine Rn.fal rfl (X_i <| X_ist rfl (L' := [_, _, _, _]) rfl <| X_nil) ?_
  exact r1
/-- a room anew in w -/
theorem c_begins {r w hh : Int} (hM : isM T) (r0 : 0 ≤ r) (r1 : r + 187 ≤ 748) : ∃ M', Cl S 123 [vR 76, vI r, vI w, vI hh] (T, M) (none, (T, M')) ∧ (M' 77 r = w ∧ M' 77 (r + 1) = hh ∧ M' 77 (r + 3) = w * hh - 1 ∧ ∀ k, 0 ≤ k → k < 187 → k ≠ 0 → k ≠ 1 → k ≠ 3 → M' 77 (r + k) = 0) ∧ (∀ k, k < r ∨ r + 187 ≤ k → M' 77 k = M 77 k) ∧ (∀ a, a ≠ 77 → M' a = M a) := by
  have loop : ∀ (j i : Nat) (N : Nat → Int → Int), i + j = 187 → ∃ N', (∀ q, Rn S 123 27 ([], [some (vR 76), some (vI r), some (vI w), some (vI hh), some (vI 187)], T, N') q → Rn S 123 3 ([], [some (vR 76), some (vI r), some (vI w), some (vI hh), some (vI (i : Int))], T, N) q) ∧ (∀ k, (i : Int) ≤ k → k < 187 → N' 77 (r + k) = 0) ∧ (∀ k, k < r + i ∨ r + 187 ≤ k → N' 77 k = N 77 k) ∧ (∀ a, a ≠ 77 → N' a = N a) := by
    intro j
    induction j with
    | zero =>
      intro i N hi
      have ei : i = 187 := by omega
      subst ei
      refine ⟨N, fun q hq => ?_, fun k h1 h2 => by omega, fun k _ => rfl, fun a _ => rfl⟩
      refine Rn.cge rfl (X_ild rfl <| X_i <| X_nil) (by first | omega | (simp (disch := omega) only [um_eq, um_na, um_ni, Int.toNat_natCast]; omega)) (by first | omega | (simp (disch := omega) only [um_eq, um_na, um_ni, Int.toNat_natCast]; omega)) (fun hc => ?_) (fun hc => ?_)
      · exact hq
      · exact absurd hc (by omega)
    | succ j ih =>
      intro i N hi
      obtain ⟨N', r1', r2, r3, r4⟩ := ih (i + 1) (um N 77 (r + i) 0) (by omega)
      refine ⟨N', fun q hq => ?_, fun k h1 h2 => ?_, fun k hk => ?_, fun a ha => ?_⟩
      · refine Rn.cge rfl (X_ild rfl <| X_i <| X_nil) (by first | omega | (simp (disch := omega) only [um_eq, um_na, um_ni, Int.toNat_natCast]; omega)) (by first | omega | (simp (disch := omega) only [um_eq, um_na, um_ni, Int.toNat_natCast]; omega)) (fun hc => ?_) (fun hc => ?_)
        · exact absurd hc (by omega)
        · refine Rn.jto rfl (X_ald rfl <| X_gr 8 0 hM.ob ⟨rfl, rfl⟩ rfl rfl <| X_ild rfl <| X_ild rfl <| X_add <| X_i <| X_is hM.w (by first | omega | (simp (disch := omega) only [um_eq, um_na, um_ni, Int.toNat_natCast]; omega)) (by first | omega | (simp (disch := omega) only [um_eq, um_na, um_ni, Int.toNat_natCast]; omega)) rfl <| X_inc rfl (L' := [_, _, _, _, _]) rfl <| X_nil) ?_
          exact r1' q hq
      · by_cases e : k = (i : Int)
        · rw [e, r3 _ (by omega), um_eq]
        · rw [r2 k (by omega) h2]
      · rw [r3 k (by omega), um_ni (by omega)]
      · rw [r4 a ha, um_fn ha]
  obtain ⟨N', r1', r2, r3, r4⟩ := loop 187 0 M (by omega)
  have e0 : r + 0 = r := Int.add_zero r
  refine ⟨um (um (um N' 77 (r + 0) w) 77 (r + 1) hh) 77 (r + 3) (w * hh - 1), ⟨_, rfl, ?_⟩, ⟨?_, ?_, um_eq, fun k k0 k1 n0 n1 n3 => ?_⟩, fun k hk => ?_, fun a ha => ?_⟩
  · refine Rn.fal rfl (X_i <| X_ist rfl (L' := [_, _, _, _, _]) rfl <| X_nil) ?_
    refine r1' _ ?_
    refine Rn.rv rfl (X_ald rfl <| X_gr 8 0 hM.ob ⟨rfl, rfl⟩ rfl rfl <| X_ild rfl <| X_i <| X_add <| X_ild rfl <| X_is hM.w (by first | omega | (simp (disch := omega) only [um_eq, um_na, um_ni, Int.toNat_natCast]; omega)) (by first | omega | (simp (disch := omega) only [um_eq, um_na, um_ni, Int.toNat_natCast]; omega)) rfl <| X_ald rfl <| X_gr 8 0 hM.ob ⟨rfl, rfl⟩ rfl rfl <| X_ild rfl <| X_i <| X_add <| X_ild rfl <| X_is hM.w (by first | omega | (simp (disch := omega) only [um_eq, um_na, um_ni, Int.toNat_natCast]; omega)) (by first | omega | (simp (disch := omega) only [um_eq, um_na, um_ni, Int.toNat_natCast]; omega)) rfl <| X_ald rfl <| X_gr 8 0 hM.ob ⟨rfl, rfl⟩ rfl rfl <| X_ild rfl <| X_i <| X_add <| X_ild rfl <| X_ild rfl <| X_mul <| X_i <| X_sub <| X_is hM.w (by first | omega | (simp (disch := omega) only [um_eq, um_na, um_ni, Int.toNat_natCast]; omega)) (by first | omega | (simp (disch := omega) only [um_eq, um_na, um_ni, Int.toNat_natCast]; omega)) rfl <| X_nil) rfl
  · rw [um_ni (by omega), um_ni (by omega), e0, um_eq]
  · rw [um_ni (by omega), um_eq]
  · rw [um_ni (by omega), um_ni (by omega), um_ni (by omega)]
    exact r2 k (by omega) k1
  · rw [um_ni (by omega), um_ni (by omega), um_ni (by omega)]
    exact r3 k (by omega)
  · rw [um_fn ha, um_fn ha, um_fn ha, r4 a ha]
end Mleaf
