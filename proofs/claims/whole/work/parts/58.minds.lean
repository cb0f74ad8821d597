/-! minds: the model keeps a row of the night to come -/
section Minds
variable {S : List Int} {T : List Sh} {M N : Nat → Int → Int} {h : Hp}
theorem c_minds (hM : isM T) (hu : 0 ≤ M 77 9 ∧ M 77 9 ≤ 8) : ∃ M', Cl S 161 [vR 76] (T, M) (none, (T, M')) ∧ M' 77 9 = (if M 77 9 = 8 then 8 else M 77 9 + 1) ∧ (∀ i j : Int, 0 ≤ i → i < (if M 77 9 = 8 then 7 else M 77 9) → 0 ≤ j → j < 10 → M' 77 (107 + 10 * i + j) = M 77 (107 + 10 * (i + (if M 77 9 = 8 then 1 else 0)) + j)) ∧ (∀ s : Int, 0 ≤ s → s < 4 → M' 77 (107 + 10 * (if M 77 9 = 8 then 7 else M 77 9) + s) = M 77 (83 + s) ∧ M' 77 (107 + 10 * (if M 77 9 = 8 then 7 else M 77 9) + 4 + s) = M 77 (87 + s)) ∧ (M' 77 (107 + 10 * (if M 77 9 = 8 then 7 else M 77 9) + 8) = M 77 8 ∧ M' 77 (107 + 10 * (if M 77 9 = 8 then 7 else M 77 9) + 9) = M 77 6) ∧ (∀ k, k ≠ 9 → (k < 107 ∨ 187 ≤ k) → M' 77 k = M 77 k) ∧ (∀ a, a ≠ 77 → M' a = M a) := by
  -- from block 58 on, with u rows
  have tail : ∀ (N : Nat → Int → Int) (u : Int) (x1 : Option AV), 0 ≤ u → u ≤ 7 → N 77 9 = u → ∃ N', Rn S 161 58 ([], [some (vR 76), x1, none], T, N) (none, (T, N')) ∧ N' 77 9 = u + 1 ∧ (∀ s : Int, 0 ≤ s → s < 4 → N' 77 (107 + 10 * u + s) = N 77 (83 + s) ∧ N' 77 (107 + 10 * u + 4 + s) = N 77 (87 + s)) ∧ (N' 77 (107 + 10 * u + 8) = N 77 8 ∧ N' 77 (107 + 10 * u + 9) = N 77 6) ∧ (∀ k, k ≠ 9 → (k < 107 + 10 * u ∨ 107 + 10 * u + 10 ≤ k) → N' 77 k = N 77 k) ∧ (∀ a, a ≠ 77 → N' a = N a) := by
    intro N u x1 u0 u7 e9
    have loop : ∀ (k i : Nat) (P : Nat → Int → Int), i + k = 4 → (∀ j, j < 107 + 10 * u ∨ 107 + 10 * u + 8 ≤ j → P 77 j = N 77 j) → (∀ s : Int, 0 ≤ s → s < (i : Int) → P 77 (107 + 10 * u + s) = N 77 (83 + s) ∧ P 77 (107 + 10 * u + 4 + s) = N 77 (87 + s)) → (∀ a, a ≠ 77 → P a = N a) → ∃ P', (∀ r, Rn S 161 121 ([], [some (vR 76), some (vI (107 + 10 * u)), some (vI 4)], T, P') r → Rn S 161 74 ([], [some (vR 76), some (vI (107 + 10 * u)), some (vI (i : Int))], T, P) r) ∧ (∀ j, j < 107 + 10 * u ∨ 107 + 10 * u + 8 ≤ j → P' 77 j = N 77 j) ∧ (∀ s : Int, 0 ≤ s → s < 4 → P' 77 (107 + 10 * u + s) = N 77 (83 + s) ∧ P' 77 (107 + 10 * u + 4 + s) = N 77 (87 + s)) ∧ (∀ a, a ≠ 77 → P' a = N a) := by
      intro k
      induction k with
      | zero =>
        intro i P hi p1 p2 p3
        have ei : i = 4 := by omega
        subst ei
        refine ⟨P, fun r hr => ?_, p1, p2, p3⟩
        refine Rn.cge rfl (X_ild rfl <| X_i <| X_nil) (by first | omega | (simp (disch := omega) only [um_eq, um_na, um_ni, Int.toNat_natCast]; omega)) (by first | omega | (simp (disch := omega) only [um_eq, um_na, um_ni, Int.toNat_natCast]; omega)) (fun hc => ?_) (fun hc => absurd hc (by first | omega | decide | (simp (disch := omega) only [um_eq, um_na, um_ni, Int.toNat_natCast]; omega)))
        exact hr
      | succ k ih =>
        intro i P hi p1 p2 p3
        have q1 := p1 (83 + (i : Int)) (by omega)
        have q2 := p1 (87 + (i : Int)) (by omega)
        obtain ⟨P', r1, r2, r3, r4⟩ := ih (i + 1) (um (um P 77 (107 + 10 * u + (i : Int)) (N 77 (83 + (i : Int)))) 77 (107 + 10 * u + 4 + (i : Int)) (N 77 (87 + (i : Int)))) (by omega) (fun j hj => by rw [um_ni (by omega), um_ni (by omega)]; exact p1 j hj) (fun s s0 s1 => by
          by_cases es : s = (i : Int)
          · subst es
            rw [um_ni (by omega), um_eq, um_eq]
            exact ⟨rfl, rfl⟩
          · have := p2 s s0 (by omega)
            rw [um_ni (by omega), um_ni (by omega), um_ni (by omega), um_ni (by omega)]
            exact this) (fun a ha => by rw [um_fn ha, um_fn ha]; exact p3 a ha)
        refine ⟨P', fun r hr => ?_, r2, r3, r4⟩
        refine Rn.cge rfl (X_ild rfl <| X_i <| X_nil) (by first | omega | (simp (disch := omega) only [um_eq, um_na, um_ni, Int.toNat_natCast]; omega)) (by first | omega | (simp (disch := omega) only [um_eq, um_na, um_ni, Int.toNat_natCast]; omega)) (fun hc => absurd hc (by first | omega | decide | (simp (disch := omega) only [um_eq, um_na, um_ni, Int.toNat_natCast]; omega))) (fun hc => ?_)
        refine Rn.jto rfl (X_ald rfl <| X_gr 8 0 hM.ob ⟨rfl, rfl⟩ rfl rfl <| X_ild rfl <| X_ild rfl <| X_add <| X_ald rfl <| X_gr 8 0 hM.ob ⟨rfl, rfl⟩ rfl rfl <| X_i <| X_ild rfl <| X_add <| X_ia hM.w (by first | omega | (simp (disch := omega) only [um_eq, um_na, um_ni, Int.toNat_natCast]; omega)) (by first | omega | (simp (disch := omega) only [um_eq, um_na, um_ni, Int.toNat_natCast]; omega)) rfl <| X_is hM.w (by first | omega | (simp (disch := omega) only [um_eq, um_na, um_ni, Int.toNat_natCast]; omega)) (by first | omega | (simp (disch := omega) only [um_eq, um_na, um_ni, Int.toNat_natCast]; omega)) rfl <| X_ald rfl <| X_gr 8 0 hM.ob ⟨rfl, rfl⟩ rfl rfl <| X_ild rfl <| X_i <| X_add <| X_ild rfl <| X_add <| X_ald rfl <| X_gr 8 0 hM.ob ⟨rfl, rfl⟩ rfl rfl <| X_i <| X_ild rfl <| X_add <| X_ia hM.w (by first | omega | (simp (disch := omega) only [um_eq, um_na, um_ni, Int.toNat_natCast]; omega)) (by first | omega | (simp (disch := omega) only [um_eq, um_na, um_ni, Int.toNat_natCast]; omega)) rfl <| X_is hM.w (by first | omega | (simp (disch := omega) only [um_eq, um_na, um_ni, Int.toNat_natCast]; omega)) (by first | omega | (simp (disch := omega) only [um_eq, um_na, um_ni, Int.toNat_natCast]; omega)) rfl <| X_inc rfl (L' := [_, _, _]) rfl <| X_nil) ?_
        simp (disch := omega) only [um_ni, ne_eq, q1, q2]
        exact r1 r hr
    obtain ⟨P, r1, r2, r3, r4⟩ := loop 4 0 N (by omega) (fun _ _ => rfl) (fun s s0 s1 => by omega) (fun _ _ => rfl)
    have p8 := r2 8 (by omega)
    have p6 := r2 6 (by omega)
    have p9 := r2 9 (by omega)
    refine ⟨um (um (um P 77 (107 + 10 * u + 8) (N 77 8)) 77 (107 + 10 * u + 9) (N 77 6)) 77 9 (u + 1), ?_, um_eq, fun s s0 s1 => ?_, ⟨?_, ?_⟩, fun k k1 k2 => ?_, fun a ha => by rw [um_fn ha, um_fn ha, um_fn ha]; exact r4 a ha⟩
    · refine Rn.fal rfl (X_i <| X_i <| X_ald rfl <| X_gr 8 0 hM.ob ⟨rfl, rfl⟩ rfl rfl <| X_i <| X_ia hM.w (by first | omega | (simp (disch := omega) only [um_eq, um_na, um_ni, Int.toNat_natCast]; omega)) (by first | omega | (simp (disch := omega) only [um_eq, um_na, um_ni, Int.toNat_natCast]; omega)) rfl <| X_mul <| X_add <| X_ist rfl (L' := [_, _, _]) rfl <| X_i <| X_ist rfl (L' := [_, _, _]) rfl <| X_nil) ?_
      rw [e9]
      refine r1 _ ?_
      obtain ⟨Q, hQ, eQ⟩ : ∃ Q, Rn S 161 121 ([], [some (vR 76), some (vI (107 + 10 * u)), some (vI 4)], T, P) (none, (T, Q)) ∧ Q = um (um (um P 77 (107 + 10 * u + 8) (N 77 8)) 77 (107 + 10 * u + 9) (N 77 6)) 77 9 (u + 1) := by
        refine ⟨_, (Rn.rv rfl (X_ald rfl <| X_gr 8 0 hM.ob ⟨rfl, rfl⟩ rfl rfl <| X_ild rfl <| X_i <| X_add <| X_ald rfl <| X_gr 8 0 hM.ob ⟨rfl, rfl⟩ rfl rfl <| X_i <| X_ia hM.w (by first | omega | (simp (disch := omega) only [um_eq, um_na, um_ni, Int.toNat_natCast]; omega)) (by first | omega | (simp (disch := omega) only [um_eq, um_na, um_ni, Int.toNat_natCast]; omega)) rfl <| X_is hM.w (by first | omega | (simp (disch := omega) only [um_eq, um_na, um_ni, Int.toNat_natCast]; omega)) (by first | omega | (simp (disch := omega) only [um_eq, um_na, um_ni, Int.toNat_natCast]; omega)) rfl <| X_ald rfl <| X_gr 8 0 hM.ob ⟨rfl, rfl⟩ rfl rfl <| X_ild rfl <| X_i <| X_add <| X_ald rfl <| X_gr 8 0 hM.ob ⟨rfl, rfl⟩ rfl rfl <| X_i <| X_ia hM.w (by first | omega | (simp (disch := omega) only [um_eq, um_na, um_ni, Int.toNat_natCast]; omega)) (by first | omega | (simp (disch := omega) only [um_eq, um_na, um_ni, Int.toNat_natCast]; omega)) rfl <| X_is hM.w (by first | omega | (simp (disch := omega) only [um_eq, um_na, um_ni, Int.toNat_natCast]; omega)) (by first | omega | (simp (disch := omega) only [um_eq, um_na, um_ni, Int.toNat_natCast]; omega)) rfl <| X_ald rfl <| X_gr 8 0 hM.ob ⟨rfl, rfl⟩ rfl rfl <| X_i <| X_du2 <| X_ia hM.w (by first | omega | (simp (disch := omega) only [um_eq, um_na, um_ni, Int.toNat_natCast]; omega)) (by first | omega | (simp (disch := omega) only [um_eq, um_na, um_ni, Int.toNat_natCast]; omega)) rfl <| X_i <| X_add <| X_is hM.w (by first | omega | (simp (disch := omega) only [um_eq, um_na, um_ni, Int.toNat_natCast]; omega)) (by first | omega | (simp (disch := omega) only [um_eq, um_na, um_ni, Int.toNat_natCast]; omega)) rfl <| X_nil) rfl), ?_⟩
        simp (disch := omega) only [um_ni, ne_eq, p8, p6, p9, e9]
      rw [eQ] at hQ
      exact hQ
    · have := r3 s s0 s1
      rw [um_ni (by omega), um_ni (by omega), um_ni (by omega), um_ni (by omega), um_ni (by omega), um_ni (by omega)]
      exact this
    · rw [um_ni (by omega), um_ni (by omega), um_eq]
    · rw [um_ni (by omega), um_eq]
    · rw [um_ni k1, um_ni (by omega), um_ni (by omega)]
      exact r2 k (by omega)
  by_cases h8 : M 77 9 = 8
  · simp only [if_pos h8]
    have loop : ∀ (k i : Nat) (P : Nat → Int → Int), i + k = 70 → (∀ j, j < 107 ∨ 107 + (i : Int) ≤ j → P 77 j = M 77 j) → (∀ s : Int, 0 ≤ s → s < (i : Int) → P 77 (107 + s) = M 77 (107 + s + 10)) → (∀ a, a ≠ 77 → P a = M a) → ∃ P', (∀ r, Rn S 161 47 ([], [some (vR 76), some (vI 70), none], T, P') r → Rn S 161 14 ([], [some (vR 76), some (vI (i : Int)), none], T, P) r) ∧ (∀ j, j < 107 ∨ 177 ≤ j → P' 77 j = M 77 j) ∧ (∀ s : Int, 0 ≤ s → s < 70 → P' 77 (107 + s) = M 77 (107 + s + 10)) ∧ (∀ a, a ≠ 77 → P' a = M a) := by
      intro k
      induction k with
      | zero =>
        intro i P hi p1 p2 p3
        have ei : i = 70 := by omega
        subst ei
        refine ⟨P, fun r hr => ?_, fun j hj => p1 j (by omega), p2, p3⟩
        refine Rn.cge rfl (X_ild rfl <| X_i <| X_nil) (by first | omega | (simp (disch := omega) only [um_eq, um_na, um_ni, Int.toNat_natCast]; omega)) (by first | omega | (simp (disch := omega) only [um_eq, um_na, um_ni, Int.toNat_natCast]; omega)) (fun hc => ?_) (fun hc => absurd hc (by first | omega | decide | (simp (disch := omega) only [um_eq, um_na, um_ni, Int.toNat_natCast]; omega)))
        exact hr
      | succ k ih =>
        intro i P hi p1 p2 p3
        have q1 := p1 (107 + (i : Int) + 10) (by omega)
        obtain ⟨P', r1, r2, r3, r4⟩ := ih (i + 1) (um P 77 (107 + (i : Int)) (M 77 (107 + (i : Int) + 10))) (by omega) (fun j hj => by rw [um_ni (by omega)]; exact p1 j (by omega)) (fun s s0 s1 => by
          by_cases es : s = (i : Int)
          · subst es
            rw [um_eq]
          · rw [um_ni (by omega)]
            exact p2 s s0 (by omega)) (fun a ha => by rw [um_fn ha]; exact p3 a ha)
        refine ⟨P', fun r hr => ?_, r2, r3, r4⟩
        refine Rn.cge rfl (X_ild rfl <| X_i <| X_nil) (by first | omega | (simp (disch := omega) only [um_eq, um_na, um_ni, Int.toNat_natCast]; omega)) (by first | omega | (simp (disch := omega) only [um_eq, um_na, um_ni, Int.toNat_natCast]; omega)) (fun hc => absurd hc (by first | omega | decide | (simp (disch := omega) only [um_eq, um_na, um_ni, Int.toNat_natCast]; omega))) (fun hc => ?_)
        refine Rn.jto rfl (X_ald rfl <| X_gr 8 0 hM.ob ⟨rfl, rfl⟩ rfl rfl <| X_i <| X_ild rfl <| X_add <| X_ald rfl <| X_gr 8 0 hM.ob ⟨rfl, rfl⟩ rfl rfl <| X_i <| X_ild rfl <| X_add <| X_i <| X_add <| X_ia hM.w (by first | omega | (simp (disch := omega) only [um_eq, um_na, um_ni, Int.toNat_natCast]; omega)) (by first | omega | (simp (disch := omega) only [um_eq, um_na, um_ni, Int.toNat_natCast]; omega)) rfl <| X_is hM.w (by first | omega | (simp (disch := omega) only [um_eq, um_na, um_ni, Int.toNat_natCast]; omega)) (by first | omega | (simp (disch := omega) only [um_eq, um_na, um_ni, Int.toNat_natCast]; omega)) rfl <| X_inc rfl (L' := [_, _, _]) rfl <| X_nil) ?_
        rw [q1]
        exact r1 r hr
    obtain ⟨P, r1, r2, r3, r4⟩ := loop 70 0 M (by omega) (fun _ _ => rfl) (fun s s0 s1 => by omega) (fun _ _ => rfl)
    have p9 : P 77 9 = 8 := by rw [r2 9 (by omega)]; exact h8
    obtain ⟨N', t1, t2, t3, ⟨t4, t5⟩, t6, t7⟩ := tail (um P 77 9 7) 7 (some (vI 70)) (by decide) (by decide) um_eq
    refine ⟨N', ⟨_, rfl, ?_⟩, t2, fun i j i0 i1 j0 j1 => ?_, fun s s0 s1 => ?_, ⟨?_, ?_⟩, fun k k1 k2 => ?_, fun a ha => by rw [t7 a ha, um_fn ha]; exact r4 a ha⟩
    · refine Rn.cne rfl (X_ald rfl <| X_gr 8 0 hM.ob ⟨rfl, rfl⟩ rfl rfl <| X_i <| X_ia hM.w (by first | omega | (simp (disch := omega) only [um_eq, um_na, um_ni, Int.toNat_natCast]; omega)) (by first | omega | (simp (disch := omega) only [um_eq, um_na, um_ni, Int.toNat_natCast]; omega)) rfl <| X_i <| X_nil) (by first | omega | (simp (disch := omega) only [um_eq, um_na, um_ni, Int.toNat_natCast]; omega)) (by first | omega | (simp (disch := omega) only [um_eq, um_na, um_ni, Int.toNat_natCast]; omega)) (fun hc => absurd hc (by first | omega | decide | (simp (disch := omega) only [um_eq, um_na, um_ni, Int.toNat_natCast]; omega))) (fun hc => ?_)
      refine Rn.fal rfl (X_i <| X_ist rfl (L' := [_, _, _]) rfl <| X_nil) ?_
      refine r1 _ ?_
      refine Rn.fal rfl (X_ald rfl <| X_gr 8 0 hM.ob ⟨rfl, rfl⟩ rfl rfl <| X_i <| X_du2 <| X_ia hM.w (by first | omega | (simp (disch := omega) only [um_eq, um_na, um_ni, Int.toNat_natCast]; omega)) (by first | omega | (simp (disch := omega) only [um_eq, um_na, um_ni, Int.toNat_natCast]; omega)) rfl <| X_i <| X_sub <| X_is hM.w (by first | omega | (simp (disch := omega) only [um_eq, um_na, um_ni, Int.toNat_natCast]; omega)) (by first | omega | (simp (disch := omega) only [um_eq, um_na, um_ni, Int.toNat_natCast]; omega)) rfl <| X_nil) ?_
      rw [p9]
      exact t1
    · rw [t6 _ (by omega) (by omega), um_ni (by omega)]
      have := r3 (10 * i + j) (by omega) (by omega)
      rw [show 107 + (10 * i + j) = 107 + 10 * i + j by omega] at this
      rw [this]
      congr 1 <;> omega
    · have := t3 s s0 s1
      rw [um_ni (by omega), um_ni (by omega), r2 _ (by omega), r2 _ (by omega)] at this
      exact this
    · rw [t4, um_ni (by decide), r2 _ (by omega)]
    · rw [t5, um_ni (by decide), r2 _ (by omega)]
    · rw [t6 k k1 (by omega), um_ni k1, r2 k (by omega)]
  · simp only [if_neg h8]
    obtain ⟨N', t1, t2, t3, t4, t6, t7⟩ := tail M (M 77 9) none (by omega) (by omega) rfl
    refine ⟨N', ⟨_, rfl, ?_⟩, t2, fun i j i0 i1 j0 j1 => ?_, t3, t4, fun k k1 k2 => t6 k k1 (by omega), t7⟩
    · refine Rn.cne rfl (X_ald rfl <| X_gr 8 0 hM.ob ⟨rfl, rfl⟩ rfl rfl <| X_i <| X_ia hM.w (by first | omega | (simp (disch := omega) only [um_eq, um_na, um_ni, Int.toNat_natCast]; omega)) (by first | omega | (simp (disch := omega) only [um_eq, um_na, um_ni, Int.toNat_natCast]; omega)) rfl <| X_i <| X_nil) (by first | omega | (simp (disch := omega) only [um_eq, um_na, um_ni, Int.toNat_natCast]; omega)) (by first | omega | (simp (disch := omega) only [um_eq, um_na, um_ni, Int.toNat_natCast]; omega)) (fun hc => ?_) (fun hc => absurd hc (by first | omega | decide | (simp (disch := omega) only [um_eq, um_na, um_ni, Int.toNat_natCast]; omega)))
      exact t1
    · rw [t6 _ (by omega) (by omega), Int.add_zero]
end Minds
