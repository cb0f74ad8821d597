/-! the model undoes -/
section Mundo
variable {S : List Int} {T : List Sh} {M N : Nat → Int → Int} {h : Hp}
theorem c_mundo {f : Int} (hM : isM T) (hu : 1 ≤ M 77 9 ∧ M 77 9 ≤ 8) (hf : f = 107 + 10 * (M 77 9 - 1)) (hz : 0 ≤ M 77 (f + 9) ∧ M 77 (f + 9) ≤ 4) : ∃ M', Cl S 163 [vR 76] (T, M) (some (vI 1), (T, M')) ∧ M' 77 9 = M 77 9 - 1 ∧ M' 77 8 = M 77 (f + 8) ∧ (∀ s : Nat, (s : Int) < M 77 (f + 9) → M' 77 (83 + (s : Int)) = M 77 (f + (s : Int)) ∧ M' 77 (87 + (s : Int)) = M 77 (f + 4 + (s : Int))) ∧ (∀ k, k ≠ 8 → k ≠ 9 → (∀ s : Nat, (s : Int) < M 77 (f + 9) → k ≠ 83 + (s : Int) ∧ k ≠ 87 + (s : Int)) → M' 77 k = M 77 k) ∧ (∀ a, a ≠ 77 → M' a = M a) := by
  have f0 : 107 ≤ f ∧ f ≤ 177 := by omega
  have loop : ∀ (k i : Nat) (N : Nat → Int → Int), i + k = (M 77 (f + 9)).toNat → (∀ j, f ≤ j → N 77 j = M 77 j) → ∃ N', (∀ r, Rn S 163 99 ([], [some (vR 76), some (vI f), some (vI (M 77 (f + 9)))], T, N') r → Rn S 163 44 ([], [some (vR 76), some (vI f), some (vI (i : Int))], T, N) r) ∧ (∀ s : Nat, i ≤ s → (s : Int) < M 77 (f + 9) → N' 77 (83 + (s : Int)) = M 77 (f + (s : Int)) ∧ N' 77 (87 + (s : Int)) = M 77 (f + 4 + (s : Int))) ∧ (∀ k, (∀ s : Nat, i ≤ s → (s : Int) < M 77 (f + 9) → k ≠ 83 + (s : Int) ∧ k ≠ 87 + (s : Int)) → N' 77 k = N 77 k) ∧ (∀ a, a ≠ 77 → N' a = N a) := by
    intro k
    induction k with
    | zero =>
      intro i N hi hN
      have ei : M 77 (f + 9) = (i : Int) := by omega
      have e9 := hN (f + 9) (by omega)
      refine ⟨N, fun r hr => ?_, fun s s1 s2 => by omega, fun _ _ => rfl, fun _ _ => rfl⟩
      rw [ei] at hr
      refine Rn.cge rfl (X_ild rfl <| X_ald rfl <| X_gr 8 0 hM.ob ⟨rfl, rfl⟩ rfl rfl <| X_ild rfl <| X_i <| X_add <| X_ia hM.w (by first | omega | (simp (disch := omega) only [um_eq, um_na, um_ni, Int.toNat_natCast]; omega)) (by first | omega | (simp (disch := omega) only [um_eq, um_na, um_ni, Int.toNat_natCast]; omega)) rfl <| X_nil) (by first | omega | (simp (disch := omega) only [um_eq, um_na, um_ni, Int.toNat_natCast]; omega)) (by first | omega | (simp (disch := omega) only [um_eq, um_na, um_ni, Int.toNat_natCast]; omega)) (fun hc => ?_) (fun hc => absurd hc (by first | omega | decide | (simp (disch := omega) only [um_eq, um_na, um_ni, Int.toNat_natCast]; omega)))
      exact hr
    | succ k ih =>
      intro i N hi hN
      have e9 := hN (f + 9) (by omega)
      have q1 := hN (f + (i : Int)) (by omega)
      have q2 := hN (f + 4 + (i : Int)) (by omega)
      obtain ⟨N', r1, r2, r3, r4⟩ := ih (i + 1) (um (um N 77 (83 + (i : Int)) (M 77 (f + (i : Int)))) 77 (87 + (i : Int)) (M 77 (f + 4 + (i : Int)))) (by omega) (fun j hj => by rw [um_ni (by omega), um_ni (by omega)]; exact hN j hj)
      refine ⟨N', fun r hr => ?_, fun s s1 s2 => ?_, fun k hk => ?_, fun a ha => by rw [r4 a ha, um_fn ha, um_fn ha]⟩
      · refine Rn.cge rfl (X_ild rfl <| X_ald rfl <| X_gr 8 0 hM.ob ⟨rfl, rfl⟩ rfl rfl <| X_ild rfl <| X_i <| X_add <| X_ia hM.w (by first | omega | (simp (disch := omega) only [um_eq, um_na, um_ni, Int.toNat_natCast]; omega)) (by first | omega | (simp (disch := omega) only [um_eq, um_na, um_ni, Int.toNat_natCast]; omega)) rfl <| X_nil) (by first | omega | (simp (disch := omega) only [um_eq, um_na, um_ni, Int.toNat_natCast]; omega)) (by first | omega | (simp (disch := omega) only [um_eq, um_na, um_ni, Int.toNat_natCast]; omega)) (fun hc => absurd hc (by first | omega | decide | (simp (disch := omega) only [um_eq, um_na, um_ni, Int.toNat_natCast]; omega))) (fun hc => ?_)
        refine Rn.jto rfl (X_ald rfl <| X_gr 8 0 hM.ob ⟨rfl, rfl⟩ rfl rfl <| X_i <| X_ild rfl <| X_add <| X_ald rfl <| X_gr 8 0 hM.ob ⟨rfl, rfl⟩ rfl rfl <| X_ild rfl <| X_ild rfl <| X_add <| X_ia hM.w (by first | omega | (simp (disch := omega) only [um_eq, um_na, um_ni, Int.toNat_natCast]; omega)) (by first | omega | (simp (disch := omega) only [um_eq, um_na, um_ni, Int.toNat_natCast]; omega)) rfl <| X_is hM.w (by first | omega | (simp (disch := omega) only [um_eq, um_na, um_ni, Int.toNat_natCast]; omega)) (by first | omega | (simp (disch := omega) only [um_eq, um_na, um_ni, Int.toNat_natCast]; omega)) rfl <| X_ald rfl <| X_gr 8 0 hM.ob ⟨rfl, rfl⟩ rfl rfl <| X_i <| X_ild rfl <| X_add <| X_ald rfl <| X_gr 8 0 hM.ob ⟨rfl, rfl⟩ rfl rfl <| X_ild rfl <| X_i <| X_add <| X_ild rfl <| X_add <| X_ia hM.w (by first | omega | (simp (disch := omega) only [um_eq, um_na, um_ni, Int.toNat_natCast]; omega)) (by first | omega | (simp (disch := omega) only [um_eq, um_na, um_ni, Int.toNat_natCast]; omega)) rfl <| X_is hM.w (by first | omega | (simp (disch := omega) only [um_eq, um_na, um_ni, Int.toNat_natCast]; omega)) (by first | omega | (simp (disch := omega) only [um_eq, um_na, um_ni, Int.toNat_natCast]; omega)) rfl <| X_inc rfl (L' := [_, _, _]) rfl <| X_nil) ?_
        simp (disch := omega) only [um_ni, ne_eq, q1, q2]
        exact r1 r hr
      · by_cases es : s = i
        · subst es
          rw [r3 _ (fun x x1 x2 => by omega), r3 _ (fun x x1 x2 => by omega), um_ni (by omega), um_eq, um_eq]
          exact ⟨rfl, rfl⟩
        · exact r2 s (by omega) s2
      · have hk' := hk i (by omega) (by omega)
        rw [r3 k (fun s s1 s2 => hk s (by omega) s2), um_ni hk'.2, um_ni hk'.1]
  obtain ⟨N', r1, r2, r3, r4⟩ := loop (M 77 (f + 9)).toNat 0 (um M 77 9 (M 77 9 - 1)) (by omega) (fun j hj => um_ni (by omega))
  have n8 : N' 77 (f + 8) = M 77 (f + 8) := by rw [r3 _ (fun s _ _ => by omega), um_ni (by omega)]
  refine ⟨um N' 77 8 (M 77 (f + 8)), ⟨_, rfl, ?_⟩, ?_, um_eq, fun s hs => ?_, fun k k1 k2 k3 => ?_, fun a ha => ?_⟩
  · refine Rn.ine rfl (X_ald rfl <| X_gr 8 0 hM.ob ⟨rfl, rfl⟩ rfl rfl <| X_i <| X_ia hM.w (by first | omega | (simp (disch := omega) only [um_eq, um_na, um_ni, Int.toNat_natCast]; omega)) (by first | omega | (simp (disch := omega) only [um_eq, um_na, um_ni, Int.toNat_natCast]; omega)) rfl <| X_nil) (by first | omega | (simp (disch := omega) only [um_eq, um_na, um_ni, Int.toNat_natCast]; omega)) (fun hc => ?_) (fun hc => absurd hc (by first | omega | decide | (simp (disch := omega) only [um_eq, um_na, um_ni, Int.toNat_natCast]; omega)))
    refine Rn.fal rfl (X_ald rfl <| X_gr 8 0 hM.ob ⟨rfl, rfl⟩ rfl rfl <| X_i <| X_du2 <| X_ia hM.w (by first | omega | (simp (disch := omega) only [um_eq, um_na, um_ni, Int.toNat_natCast]; omega)) (by first | omega | (simp (disch := omega) only [um_eq, um_na, um_ni, Int.toNat_natCast]; omega)) rfl <| X_i <| X_sub <| X_is hM.w (by first | omega | (simp (disch := omega) only [um_eq, um_na, um_ni, Int.toNat_natCast]; omega)) (by first | omega | (simp (disch := omega) only [um_eq, um_na, um_ni, Int.toNat_natCast]; omega)) rfl <| X_i <| X_i <| X_ald rfl <| X_gr 8 0 hM.ob ⟨rfl, rfl⟩ rfl rfl <| X_i <| X_ia hM.w (by first | omega | (simp (disch := omega) only [um_eq, um_na, um_ni, Int.toNat_natCast]; omega)) (by first | omega | (simp (disch := omega) only [um_eq, um_na, um_ni, Int.toNat_natCast]; omega)) rfl <| X_mul <| X_add <| X_ist rfl (L' := [_, _, _]) rfl <| X_i <| X_ist rfl (L' := [_, _, _]) rfl <| X_nil) ?_
    simp (disch := omega) only [um_eq, um_ni, ne_eq]
    rw [← hf]
    refine r1 _ ?_
    rw [← n8]
    refine Rn.ri rfl (X_ald rfl <| X_gr 8 0 hM.ob ⟨rfl, rfl⟩ rfl rfl <| X_i <| X_ald rfl <| X_gr 8 0 hM.ob ⟨rfl, rfl⟩ rfl rfl <| X_ild rfl <| X_i <| X_add <| X_ia hM.w (by first | omega | (simp (disch := omega) only [um_eq, um_na, um_ni, Int.toNat_natCast]; omega)) (by first | omega | (simp (disch := omega) only [um_eq, um_na, um_ni, Int.toNat_natCast]; omega)) rfl <| X_is hM.w (by first | omega | (simp (disch := omega) only [um_eq, um_na, um_ni, Int.toNat_natCast]; omega)) (by first | omega | (simp (disch := omega) only [um_eq, um_na, um_ni, Int.toNat_natCast]; omega)) rfl <| X_i <| X_nil) rfl
  · rw [um_ni (by decide), r3 _ (fun s _ _ => by omega), um_eq]
  · rw [um_ni (by omega), um_ni (by omega)]
    exact r2 s (by omega) hs
  · rw [um_ni k1, r3 k (fun s _ s2 => k3 s s2), um_ni k2]
  · rw [um_fn ha, r4 a ha, um_fn ha]
end Mundo
