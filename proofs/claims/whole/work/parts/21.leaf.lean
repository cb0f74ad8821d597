/-! SMALL METHODS -/
section Leaf
variable {S : List Int} {T : List Sh} {M : Nat → Int → Int} {b : Nat} {h : Hp}
theorem c_within {v lo hi : Int} (iv : I32 v) (il : I32 lo) (ih : I32 hi) : Cl S 103 [vI v, vI lo, vI hi] h (some (vI (if lo ≤ v ∧ v ≤ hi then 1 else 0)), h) := by
  refine ⟨_, rfl, ?_⟩
  refine Rn.clt rfl (X_ild rfl <| X_ild rfl <| X_nil) (by omega) (by omega) (fun hc => ?_) (fun hc => ?_)
  · rw [if_neg (by omega)]
    refine Rn.fal rfl (X_i <| X_nil) ?_
    refine Rn.rz rfl (X_nil) rfl (by first | exact Or.inl rfl | exact Or.inr rfl | omega)
  · refine Rn.cgt rfl (X_ild rfl <| X_ild rfl <| X_nil) (by omega) (by omega) (fun hc => ?_) (fun hc => ?_)
    · rw [if_neg (by omega)]
      refine Rn.fal rfl (X_i <| X_nil) ?_
      refine Rn.rz rfl (X_nil) rfl (by first | exact Or.inl rfl | exact Or.inr rfl | omega)
    · rw [if_pos (by omega)]
      refine Rn.jto rfl (X_i <| X_nil) ?_
      refine Rn.rz rfl (X_nil) rfl (by first | exact Or.inl rfl | exact Or.inr rfl | omega)
def sumT (M : Nat → Int → Int) (b : Nat) (t : Int) : Nat → Int
  | 0 => 0
  | n + 1 => sumT M b t n + M (b + 16 + 2 * n) t
theorem c_sum {t : Int} (hS : isSt T b) (h0 : 0 ≤ M (b + 4) 1) (h4 : M (b + 4) 1 ≤ 4) (t0 : 0 ≤ t) (t8 : t < 8) : Cl S 6 [vR (b + 4), vI t] (T, M) (some (vI (sumT M b t (M (b + 4) 1).toNat)), (T, M)) := by
  refine ⟨_, rfl, ?_⟩
  refine Rn.fal rfl (X_i <| X_ist rfl (L' := [_, _, _, _]) rfl <| X_i <| X_ist rfl (L' := [_, _, _, _]) rfl <| X_nil) ?_
  have loop : ∀ (k i : Nat), i + k = (M (b + 4) 1).toNat → Rn S 6 4 ([], [some (vR (b + 4)), some (vI t), some (vI (sumT M b t i)), some (vI (i : Int))], T, M) (some (vI (sumT M b t (M (b + 4) 1).toNat)), (T, M)) := by
    intro k
    induction k with
    | zero =>
      intro i hi
      refine Rn.cge rfl (X_ild rfl <| X_ald rfl <| X_gi 0 1 1 hS.be ⟨rfl, rfl, rfl⟩ (Or.inl rfl) <| X_nil) (by omega) (by omega) (fun hc => ?_) (fun hc => ?_)
      · have e : i = (M (b + 4) 1).toNat := by omega
        rw [e]
        refine Rn.ri rfl (X_ild rfl <| X_nil) rfl
      · exact absurd hc (by omega)
    | succ k ih =>
      intro i hi
      refine Rn.cge rfl (X_ild rfl <| X_ald rfl <| X_gi 0 1 1 hS.be ⟨rfl, rfl, rfl⟩ (Or.inl rfl) <| X_nil) (by omega) (by omega) (fun hc => ?_) (fun hc => ?_)
      · exact absurd hc (by omega)
      · refine Rn.jto rfl (X_ild rfl <| X_ald rfl <| X_gr 0 0 hS.be ⟨rfl, rfl⟩ rfl rfl <| X_ild rfl <| X_aa hS.sl (by decide) (by omega) (by omega) rfl (rSl_at (by omega)) <| X_gr 5 0 (hS.se (by omega)) ⟨rfl, rfl⟩ rfl rfl <| X_ild rfl <| X_ia (hS.tr (by omega)) (by omega) (by omega) rfl <| X_add <| X_ist rfl (L' := [_, _, _, _]) rfl <| X_inc rfl (L' := [_, _, _, _]) rfl <| X_nil) ?_
        exact ih (i + 1) (by omega)
  exact loop (M (b + 4) 1).toNat 0 (by omega)
end Leaf
