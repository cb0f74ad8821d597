/-! forgetNight -/
section Forget
variable {S : List Int} {T : List Sh} {M N : Nat → Int → Int} {b : Nat} {h : Hp}
theorem c_forget {a : Nat} (hS : isSt T b) (hn : 1 ≤ M (b + 4) 2 ∧ M (b + 4) 2 ≤ 100000) (ha : a = b + 7 + ((M (b + 4) 2 - 1) % 8).toNat) (hz : 0 ≤ M a 0 ∧ M a 0 ≤ 4) : ∃ M', Cl S 10 [vR (b + 4)] (T, M) (none, (T, M')) ∧ (M' (b + 4) 1 = M (b + 4) 1 ∧ M' (b + 4) 2 = M (b + 4) 2 - 1 ∧ M' (b + 4) 3 = M (b + 4) 3 - 1) ∧ (∀ i : Nat, (i : Int) < M a 0 → (∀ k, k ≠ 6 → k ≠ 7 → M' (b + 16 + 2 * i) k = M (b + 16 + 2 * i) k) ∧ M' (b + 16 + 2 * i) 6 = M a (1 + 2 * (i : Int)) ∧ M' (b + 16 + 2 * i) 7 = M a (2 + 2 * (i : Int))) ∧ (∀ x, x ≠ b + 4 → (∀ i : Nat, (i : Int) < M a 0 → x ≠ b + 16 + 2 * i) → M' x = M x) := by
  have hk : ((M (b + 4) 2 - 1) % 8).toNat < 8 := by omega
  generalize hr : ((M (b + 4) 2 - 1) % 8).toNat = r at *
  subst ha
  have loop : ∀ (k i : Nat) (N : Nat → Int → Int), i + k = (M (b + 7 + r) 0).toNat → N (b + 7 + r) = M (b + 7 + r) → ∃ N', Rn S 10 35 ([], [some (vR (b + 4)), some (vR (b + 7 + r)), some (vI (i : Int))], T, N) (none, (T, N')) ∧ (∀ j : Nat, i ≤ j → (j : Int) < M (b + 7 + r) 0 → (∀ k, k ≠ 6 → k ≠ 7 → N' (b + 16 + 2 * j) k = N (b + 16 + 2 * j) k) ∧ N' (b + 16 + 2 * j) 6 = M (b + 7 + r) (1 + 2 * (j : Int)) ∧ N' (b + 16 + 2 * j) 7 = M (b + 7 + r) (2 + 2 * (j : Int))) ∧ (∀ x, (∀ j : Nat, i ≤ j → (j : Int) < M (b + 7 + r) 0 → x ≠ b + 16 + 2 * j) → N' x = N x) := by
    intro k
    induction k with
    | zero =>
      intro i N hi hN
      refine ⟨N, ?_, fun j j1 j2 => by omega, fun _ _ => rfl⟩
      have e0 : N (b + 7 + r) 0 = M (b + 7 + r) 0 := by rw [hN]
      refine Rn.cge rfl (X_ild rfl <| X_ald rfl <| X_i <| X_ia (hS.ro (by omega)) (by first | omega | (simp (disch := omega) only [um_eq, um_na, um_ni, Int.toNat_natCast]; omega)) (by first | omega | (simp (disch := omega) only [um_eq, um_na, um_ni, Int.toNat_natCast]; omega)) rfl <| X_nil) (by first | omega | (simp (disch := omega) only [um_eq, um_na, um_ni, Int.toNat_natCast]; omega)) (by first | omega | (simp (disch := omega) only [um_eq, um_na, um_ni, Int.toNat_natCast]; omega)) (fun hc => ?_) (fun hc => absurd hc (by first | omega | decide | (simp (disch := omega) only [um_eq, um_na, um_ni, Int.toNat_natCast]; omega)))
      refine Rn.rv rfl (X_nil) rfl
    | succ k ih =>
      intro i N hi hN
      have e0 : N (b + 7 + r) 0 = M (b + 7 + r) 0 := by rw [hN]
      obtain ⟨N', r1, r2, r3⟩ := ih (i + 1) (um (um N (b + 16 + 2 * i) 6 (M (b + 7 + r) (1 + 2 * (i : Int)))) (b + 16 + 2 * i) 7 (M (b + 7 + r) (2 + 2 * (i : Int)))) (by omega) (by rw [um_fn (by omega), um_fn (by omega)]; exact hN)
      refine ⟨N', ?_, fun j j1 j2 => ?_, fun x hx => ?_⟩
      · refine Rn.cge rfl (X_ild rfl <| X_ald rfl <| X_i <| X_ia (hS.ro (by omega)) (by first | omega | (simp (disch := omega) only [um_eq, um_na, um_ni, Int.toNat_natCast]; omega)) (by first | omega | (simp (disch := omega) only [um_eq, um_na, um_ni, Int.toNat_natCast]; omega)) rfl <| X_nil) (by first | omega | (simp (disch := omega) only [um_eq, um_na, um_ni, Int.toNat_natCast]; omega)) (by first | omega | (simp (disch := omega) only [um_eq, um_na, um_ni, Int.toNat_natCast]; omega)) (fun hc => absurd hc (by first | omega | decide | (simp (disch := omega) only [um_eq, um_na, um_ni, Int.toNat_natCast]; omega))) (fun hc => ?_)
        refine Rn.jto rfl (X_ald rfl <| X_gr 0 0 hS.be ⟨rfl, rfl⟩ rfl rfl <| X_ild rfl <| X_aa hS.sl (by decide) (by first | omega | (simp (disch := omega) only [um_eq, um_na, um_ni, Int.toNat_natCast]; omega)) (by first | omega | (simp (disch := omega) only [um_eq, um_na, um_ni, Int.toNat_natCast]; omega)) rfl (rSl_at (by omega)) <| X_gr 5 0 (hS.se (by omega)) ⟨rfl, rfl⟩ rfl rfl <| X_i <| X_ald rfl <| X_i <| X_i <| X_ild rfl <| X_mul <| X_add <| X_ia (hS.ro (by omega)) (by first | omega | (simp (disch := omega) only [um_eq, um_na, um_ni, Int.toNat_natCast]; omega)) (by first | omega | (simp (disch := omega) only [um_eq, um_na, um_ni, Int.toNat_natCast]; omega)) rfl <| X_is (hS.tr (by omega)) (by first | omega | (simp (disch := omega) only [um_eq, um_na, um_ni, Int.toNat_natCast]; omega)) (by first | omega | (simp (disch := omega) only [um_eq, um_na, um_ni, Int.toNat_natCast]; omega)) rfl <| X_ald rfl <| X_gr 0 0 hS.be ⟨rfl, rfl⟩ rfl rfl <| X_ild rfl <| X_aa hS.sl (by decide) (by first | omega | (simp (disch := omega) only [um_eq, um_na, um_ni, Int.toNat_natCast]; omega)) (by first | omega | (simp (disch := omega) only [um_eq, um_na, um_ni, Int.toNat_natCast]; omega)) rfl (rSl_at (by omega)) <| X_gr 5 0 (hS.se (by omega)) ⟨rfl, rfl⟩ rfl rfl <| X_i <| X_ald rfl <| X_i <| X_i <| X_ild rfl <| X_mul <| X_add <| X_ia (hS.ro (by omega)) (by first | omega | (simp (disch := omega) only [um_eq, um_na, um_ni, Int.toNat_natCast]; omega)) (by first | omega | (simp (disch := omega) only [um_eq, um_na, um_ni, Int.toNat_natCast]; omega)) rfl <| X_is (hS.tr (by omega)) (by first | omega | (simp (disch := omega) only [um_eq, um_na, um_ni, Int.toNat_natCast]; omega)) (by first | omega | (simp (disch := omega) only [um_eq, um_na, um_ni, Int.toNat_natCast]; omega)) rfl <| X_inc rfl (L' := [_, _, _]) rfl <| X_nil) ?_
        simp (disch := omega) only [um_na, ne_eq, hN]
        exact r1
      · by_cases ej : j = i
        · subst ej
          rw [r3 _ (fun x x1 x2 => by omega)]
          refine ⟨fun k k1 k2 => by rw [um_ni k2, um_ni k1], ?_, ?_⟩
          · rw [um_ni (by decide), um_eq]
          · rw [um_eq]
        · obtain ⟨p1, p2, p3⟩ := r2 j (by omega) j2
          refine ⟨fun k k1 k2 => ?_, p2, p3⟩
          rw [p1 k k1 k2, um_na (by omega), um_na (by omega)]
      · rw [r3 x (fun j j1 j2 => hx j (by omega) j2), um_fn (hx i (by omega) (by omega)), um_fn (hx i (by omega) (by omega))]
  obtain ⟨N', r1, r2, r3⟩ := loop (M (b + 7 + r) 0).toNat 0 (um (um M (b + 4) 2 (M (b + 4) 2 - 1)) (b + 4) 3 (M (b + 4) 3 - 1)) (by omega) (by rw [um_fn (by omega), um_fn (by omega)])
  have e4 : N' (b + 4) = um (um M (b + 4) 2 (M (b + 4) 2 - 1)) (b + 4) 3 (M (b + 4) 3 - 1) (b + 4) := r3 _ (fun j _ _ => by omega)
  refine ⟨N', ⟨_, rfl, ?_⟩, ⟨?_, ?_, ?_⟩, fun i hi => ?_, fun x x1 x2 => ?_⟩
  · refine Rn.fal rfl (X_ald rfl <| X_dupr <| X_gi 0 2 2 hS.be ⟨rfl, rfl, rfl⟩ (Or.inl rfl) <| X_i <| X_sub <| X_pi 0 2 2 hS.be ⟨rfl, rfl, rfl⟩ (Or.inl rfl) <| X_ald rfl <| X_dupr <| X_gi 0 3 3 hS.be ⟨rfl, rfl, rfl⟩ (Or.inl rfl) <| X_i <| X_sub <| X_pi 0 3 3 hS.be ⟨rfl, rfl, rfl⟩ (Or.inl rfl) <| X_ald rfl <| X_gr 0 4 hS.be ⟨rfl, rfl⟩ rfl rfl <| X_ald rfl <| X_gi 0 2 2 hS.be ⟨rfl, rfl, rfl⟩ (Or.inl rfl) <| X_i <| X_rem (by first | omega | (simp (disch := omega) only [um_eq, um_na, um_ni, Int.toNat_natCast]; omega)) (by first | omega | (simp (disch := omega) only [um_eq, um_na, um_ni, Int.toNat_natCast]; omega)) <| X_aa hS.pa (by decide) (by first | omega | (simp (disch := omega) only [um_eq, um_na, um_ni, Int.toNat_natCast]; omega)) (by first | omega | (simp (disch := omega) only [um_eq, um_na, um_ni, Int.toNat_natCast]; omega)) rfl (rPa_at (by omega)) <| X_ast rfl (L' := [_, _, _]) rfl <| X_i <| X_ist rfl (L' := [_, _, _]) rfl <| X_nil) ?_
    simp (disch := omega) only [um_eq, um_ni, ne_eq, hr]
    exact r1
  · rw [e4, um_ni (by decide), um_ni (by decide)]
  · rw [e4, um_ni (by decide), um_eq]
  · rw [e4, um_eq]
  · obtain ⟨p1, p2, p3⟩ := r2 i (by omega) hi
    refine ⟨fun k k1 k2 => ?_, p2, p3⟩
    rw [p1 k k1 k2, um_na (by omega), um_na (by omega)]
  · rw [r3 x (fun j _ j2 => x2 j j2), um_fn x1, um_fn x1]
end Forget
