/-! WHO COMES, NIGHTS REMEMBERED AND FORGOTTEN, ERRANDS AND COSTS -/
section Beds
variable {S : List Int} {T : List Sh} {M : Nat → Int → Int} {b : Nat} {h : Hp}
/-- Beds.welcome -/
theorem c_welcome {k r t c p : Int} (hS : isSt T b) (h0 : 0 ≤ M (b + 4) 1) (h4 : M (b + 4) 1 < 4) : ∃ M', Cl S 4 [vR (b + 4), vI k, vI r, vI t, vI c, vI p] (T, M) (some (vI (M (b + 4) 1)), (T, M')) ∧ M' (b + 4) 1 = M (b + 4) 1 + 1 ∧ (∀ j, j ≠ 1 → M' (b + 4) j = M (b + 4) j) ∧ (M' (b + 16 + 2 * (M (b + 4) 1).toNat) 0 = k ∧ M' (b + 16 + 2 * (M (b + 4) 1).toNat) 1 = r ∧ M' (b + 16 + 2 * (M (b + 4) 1).toNat) 2 = t ∧ M' (b + 16 + 2 * (M (b + 4) 1).toNat) 3 = c ∧ M' (b + 16 + 2 * (M (b + 4) 1).toNat) 4 = p ∧ M' (b + 16 + 2 * (M (b + 4) 1).toNat) 5 = -1 ∧ M' (b + 16 + 2 * (M (b + 4) 1).toNat) 6 = 0 ∧ M' (b + 16 + 2 * (M (b + 4) 1).toNat) 7 = 0) ∧ (∀ a, a ≠ b + 4 → a ≠ b + 16 + 2 * (M (b + 4) 1).toNat → M' a = M a) := by
  generalize ha : b + 16 + 2 * (M (b + 4) 1).toNat = a
  have n4 : b + 4 ≠ a := by omega
  refine ⟨um (um (um (um (um (um (um (um (um M a 0 k) a 1 r) a 2 t) a 3 c) a 4 p) a 5 (-1)) a 6 0) a 7 0) (b + 4) 1 (M (b + 4) 1 + 1), ⟨_, rfl, ?_⟩, um_eq, fun j hj => ?_, ?_, fun a' a1 a2 => ?_⟩
  · obtain ⟨z, N, hN, ez, eN⟩ : ∃ z N, Rn S 4 0 ([], [some (vR (b + 4)), some (vI k), some (vI r), some (vI t), some (vI c), some (vI p), none], T, M) (some (vI z), (T, N)) ∧ z = M (b + 4) 1 ∧ N = um (um (um (um (um (um (um (um (um M a 0 k) a 1 r) a 2 t) a 3 c) a 4 p) a 5 (-1)) a 6 0) a 7 0) (b + 4) 1 (M (b + 4) 1 + 1) := by
      subst ha
      refine ⟨_, _, (Rn.ri rfl (X_ald rfl <| X_gr 0 0 hS.be ⟨rfl, rfl⟩ rfl rfl <| X_ald rfl <| X_gi 0 1 1 hS.be ⟨rfl, rfl, rfl⟩ (Or.inl rfl) <| X_aa hS.sl (by decide) (by first | omega | (simp (disch := omega) only [um_eq, um_na, um_ni, Int.toNat_natCast]; omega)) (by first | omega | (simp (disch := omega) only [um_eq, um_na, um_ni, Int.toNat_natCast]; omega)) rfl (rSl_at (by omega)) <| X_gr 5 0 (hS.se (by omega)) ⟨rfl, rfl⟩ rfl rfl <| X_ast rfl (L' := [_, _, _, _, _, _, _]) rfl <| X_ald rfl <| X_i <| X_ild rfl <| X_is (hS.tr (by omega)) (by first | omega | (simp (disch := omega) only [um_eq, um_na, um_ni, Int.toNat_natCast]; omega)) (by first | omega | (simp (disch := omega) only [um_eq, um_na, um_ni, Int.toNat_natCast]; omega)) rfl <| X_ald rfl <| X_i <| X_ild rfl <| X_is (hS.tr (by omega)) (by first | omega | (simp (disch := omega) only [um_eq, um_na, um_ni, Int.toNat_natCast]; omega)) (by first | omega | (simp (disch := omega) only [um_eq, um_na, um_ni, Int.toNat_natCast]; omega)) rfl <| X_ald rfl <| X_i <| X_ild rfl <| X_is (hS.tr (by omega)) (by first | omega | (simp (disch := omega) only [um_eq, um_na, um_ni, Int.toNat_natCast]; omega)) (by first | omega | (simp (disch := omega) only [um_eq, um_na, um_ni, Int.toNat_natCast]; omega)) rfl <| X_ald rfl <| X_i <| X_ild rfl <| X_is (hS.tr (by omega)) (by first | omega | (simp (disch := omega) only [um_eq, um_na, um_ni, Int.toNat_natCast]; omega)) (by first | omega | (simp (disch := omega) only [um_eq, um_na, um_ni, Int.toNat_natCast]; omega)) rfl <| X_ald rfl <| X_i <| X_ild rfl <| X_is (hS.tr (by omega)) (by first | omega | (simp (disch := omega) only [um_eq, um_na, um_ni, Int.toNat_natCast]; omega)) (by first | omega | (simp (disch := omega) only [um_eq, um_na, um_ni, Int.toNat_natCast]; omega)) rfl <| X_ald rfl <| X_i <| X_i <| X_is (hS.tr (by omega)) (by first | omega | (simp (disch := omega) only [um_eq, um_na, um_ni, Int.toNat_natCast]; omega)) (by first | omega | (simp (disch := omega) only [um_eq, um_na, um_ni, Int.toNat_natCast]; omega)) rfl <| X_ald rfl <| X_i <| X_i <| X_is (hS.tr (by omega)) (by first | omega | (simp (disch := omega) only [um_eq, um_na, um_ni, Int.toNat_natCast]; omega)) (by first | omega | (simp (disch := omega) only [um_eq, um_na, um_ni, Int.toNat_natCast]; omega)) rfl <| X_ald rfl <| X_i <| X_i <| X_is (hS.tr (by omega)) (by first | omega | (simp (disch := omega) only [um_eq, um_na, um_ni, Int.toNat_natCast]; omega)) (by first | omega | (simp (disch := omega) only [um_eq, um_na, um_ni, Int.toNat_natCast]; omega)) rfl <| X_ald rfl <| X_dupr <| X_gi 0 1 1 hS.be ⟨rfl, rfl, rfl⟩ (Or.inl rfl) <| X_i <| X_add <| X_pi 0 1 1 hS.be ⟨rfl, rfl, rfl⟩ (Or.inl rfl) <| X_ald rfl <| X_gi 0 1 1 hS.be ⟨rfl, rfl, rfl⟩ (Or.inl rfl) <| X_i <| X_sub <| X_nil) rfl), ?_, ?_⟩
      · simp (disch := omega) only [um_eq, um_na, ne_eq]
        omega
      · simp (disch := omega) only [um_na, ne_eq]
    rw [ez, eN] at hN
    exact hN
  · rw [um_ni hj]
    simp (disch := omega) only [um_na, ne_eq]
  · simp (disch := omega) only [um_eq, um_na, um_ni, ne_eq, and_self]
  · rw [um_fn a1, um_fn a2, um_fn a2, um_fn a2, um_fn a2, um_fn a2, um_fn a2, um_fn a2, um_fn a2]
/-- Beds.rememberNight: the row of this night keeps how many there are, COUNT and PAID of each -/
theorem c_remember (hS : isSt T b) (h0 : 0 ≤ M (b + 4) 1) (h4 : M (b + 4) 1 ≤ 4) (hn : 0 ≤ M (b + 4) 2 ∧ M (b + 4) 2 ≤ 100000) (hu : 0 ≤ M (b + 4) 3 ∧ M (b + 4) 3 ≤ 8) : ∃ M', Cl S 9 [vR (b + 4)] (T, M) (none, (T, M')) ∧ (M' (b + 4) 1 = M (b + 4) 1 ∧ M' (b + 4) 2 = M (b + 4) 2 + 1 ∧ M' (b + 4) 3 = (if 8 < M (b + 4) 3 + 1 then 8 else M (b + 4) 3 + 1)) ∧ (M' (b + 7 + (M (b + 4) 2 % 8).toNat) 0 = M (b + 4) 1 ∧ ∀ i : Nat, (i : Int) < M (b + 4) 1 → M' (b + 7 + (M (b + 4) 2 % 8).toNat) (1 + 2 * i) = M (b + 16 + 2 * i) 6 ∧ M' (b + 7 + (M (b + 4) 2 % 8).toNat) (2 + 2 * i) = M (b + 16 + 2 * i) 7) ∧ (∀ a, a ≠ b + 4 → a ≠ b + 7 + (M (b + 4) 2 % 8).toNat → M' a = M a) := by
  generalize hr : (M (b + 4) 2 % 8).toNat = rw
  have hrw : rw < 8 := by omega
  have fin : ∀ N : Nat → Int → Int, N (b + 4) = M (b + 4) → Rn S 9 74 ([], [some (vR (b + 4)), some (vR (b + 7 + rw)), some (vI (M (b + 4) 1))], T, N) (none, (T, um (um N (b + 4) 2 (M (b + 4) 2 + 1)) (b + 4) 3 (if 8 < M (b + 4) 3 + 1 then 8 else M (b + 4) 3 + 1))) := by
    intro N hN
    have e2 : N (b + 4) 2 = M (b + 4) 2 := by rw [hN]
    have e3 : N (b + 4) 3 = M (b + 4) 3 := by rw [hN]
    obtain ⟨N', g1, g2⟩ : ∃ N', Rn S 9 74 ([], [some (vR (b + 4)), some (vR (b + 7 + rw)), some (vI (M (b + 4) 1))], T, N) (none, (T, N')) ∧ N' = um (um N (b + 4) 2 (M (b + 4) 2 + 1)) (b + 4) 3 (if 8 < M (b + 4) 3 + 1 then 8 else M (b + 4) 3 + 1) := by
      refine ⟨_, (Rn.rv rfl (X_ald rfl <| X_dupr <| X_gi 0 2 2 hS.be ⟨rfl, rfl, rfl⟩ (Or.inl rfl) <| X_i <| X_add <| X_pi 0 2 2 hS.be ⟨rfl, rfl, rfl⟩ (Or.inl rfl) <| X_ald rfl <| X_ald rfl <| X_gi 0 3 3 hS.be ⟨rfl, rfl, rfl⟩ (Or.inl rfl) <| X_i <| X_add <| X_i <| X_min (by first | omega | (simp (disch := omega) only [um_eq, um_na, um_ni, Int.toNat_natCast]; omega)) (by first | omega | (simp (disch := omega) only [um_eq, um_na, um_ni, Int.toNat_natCast]; omega)) rfl <| X_pi 0 3 3 hS.be ⟨rfl, rfl, rfl⟩ (Or.inl rfl) <| X_nil) rfl), ?_⟩
      simp (disch := omega) only [um_ni, e2, e3]
    rw [← g2]
    exact g1
  have loop : ∀ (k i : Nat) (N : Nat → Int → Int), i + k = (M (b + 4) 1).toNat → (∀ a, a ≠ b + 7 + rw → N a = M a) → ∃ N', Rn S 9 22 ([], [some (vR (b + 4)), some (vR (b + 7 + rw)), some (vI (i : Int))], T, N) (none, (T, um (um N' (b + 4) 2 (M (b + 4) 2 + 1)) (b + 4) 3 (if 8 < M (b + 4) 3 + 1 then 8 else M (b + 4) 3 + 1))) ∧ (∀ a, a ≠ b + 7 + rw → N' a = M a) ∧ (∀ j : Int, j < 1 + 2 * i → N' (b + 7 + rw) j = N (b + 7 + rw) j) ∧ (∀ j : Nat, i ≤ j → (j : Int) < M (b + 4) 1 → N' (b + 7 + rw) (1 + 2 * j) = M (b + 16 + 2 * j) 6 ∧ N' (b + 7 + rw) (2 + 2 * j) = M (b + 16 + 2 * j) 7) := by
    intro k
    induction k with
    | zero =>
      intro i N hi hN
      have e1 : N (b + 4) = M (b + 4) := hN _ (by omega)
      have e9 : M (b + 4) 1 = (i : Int) := by omega
      refine ⟨N, ?_, hN, fun _ _ => rfl, fun j h1 h2 => by omega⟩
      have f := fin N e1
      rw [e9] at f
      refine Rn.cge rfl (X_ild rfl <| X_ald rfl <| X_gi 0 1 1 hS.be ⟨rfl, rfl, rfl⟩ (Or.inl rfl) <| X_nil) (by first | omega | (simp (disch := omega) only [um_eq, um_na, um_ni, Int.toNat_natCast]; omega)) (by rw [e1]; omega) (fun hc => ?_) (fun hc => ?_)
      · exact f
      · rw [e1] at hc
        exact absurd hc (by omega)
    | succ k ih =>
      intro i N hi hN
      have e1 : N (b + 4) = M (b + 4) := hN _ (by omega)
      have e6 : N (b + 16 + 2 * i) = M (b + 16 + 2 * i) := hN _ (by omega)
      obtain ⟨N', r1, r2, r3, r4⟩ := ih (i + 1) (um (um N (b + 7 + rw) (1 + 2 * i) (M (b + 16 + 2 * i) 6)) (b + 7 + rw) (2 + 2 * i) (M (b + 16 + 2 * i) 7)) (by omega) (fun a ha => by rw [um_fn ha, um_fn ha, hN a ha])
      refine ⟨N', ?_, r2, fun j hj => ?_, fun j h1 h2 => ?_⟩
      · refine Rn.cge rfl (X_ild rfl <| X_ald rfl <| X_gi 0 1 1 hS.be ⟨rfl, rfl, rfl⟩ (Or.inl rfl) <| X_nil) (by first | omega | (simp (disch := omega) only [um_eq, um_na, um_ni, Int.toNat_natCast]; omega)) (by rw [e1]; omega) (fun hc => ?_) (fun hc => ?_)
        · rw [e1] at hc
          exact absurd hc (by omega)
        · clear hc
          refine Rn.jto rfl (X_ald rfl <| X_i <| X_i <| X_ild rfl <| X_mul <| X_add <| X_ald rfl <| X_gr 0 0 hS.be ⟨rfl, rfl⟩ rfl rfl <| X_ild rfl <| X_aa hS.sl (by decide) (by first | omega | (simp (disch := omega) only [um_eq, um_na, um_ni, Int.toNat_natCast]; omega)) (by first | omega | (simp (disch := omega) only [um_eq, um_na, um_ni, Int.toNat_natCast]; omega)) rfl (rSl_at (by omega)) <| X_gr 5 0 (hS.se (by omega)) ⟨rfl, rfl⟩ rfl rfl <| X_i <| X_ia (hS.tr (by omega)) (by first | omega | (simp (disch := omega) only [um_eq, um_na, um_ni, Int.toNat_natCast]; omega)) (by first | omega | (simp (disch := omega) only [um_eq, um_na, um_ni, Int.toNat_natCast]; omega)) rfl <| X_is (hS.ro (by omega)) (by first | omega | (simp (disch := omega) only [um_eq, um_na, um_ni, Int.toNat_natCast]; omega)) (by first | omega | (simp (disch := omega) only [um_eq, um_na, um_ni, Int.toNat_natCast]; omega)) rfl <| X_ald rfl <| X_i <| X_i <| X_ild rfl <| X_mul <| X_add <| X_ald rfl <| X_gr 0 0 hS.be ⟨rfl, rfl⟩ rfl rfl <| X_ild rfl <| X_aa hS.sl (by decide) (by first | omega | (simp (disch := omega) only [um_eq, um_na, um_ni, Int.toNat_natCast]; omega)) (by first | omega | (simp (disch := omega) only [um_eq, um_na, um_ni, Int.toNat_natCast]; omega)) rfl (rSl_at (by omega)) <| X_gr 5 0 (hS.se (by omega)) ⟨rfl, rfl⟩ rfl rfl <| X_i <| X_ia (hS.tr (by omega)) (by first | omega | (simp (disch := omega) only [um_eq, um_na, um_ni, Int.toNat_natCast]; omega)) (by first | omega | (simp (disch := omega) only [um_eq, um_na, um_ni, Int.toNat_natCast]; omega)) rfl <| X_is (hS.ro (by omega)) (by first | omega | (simp (disch := omega) only [um_eq, um_na, um_ni, Int.toNat_natCast]; omega)) (by first | omega | (simp (disch := omega) only [um_eq, um_na, um_ni, Int.toNat_natCast]; omega)) rfl <| X_inc rfl (L' := [_, _, _]) rfl <| X_nil) ?_
          have e7 : um N (b + 7 + rw) (1 + 2 * (i : Int)) (N (b + 16 + 2 * i) 6) (b + 16 + 2 * i) 7 = M (b + 16 + 2 * i) 7 := by rw [um_na (by omega), e6]
          show Rn S 9 22 ([], _, T, um (um N (b + 7 + rw) (1 + 2 * (i : Int)) (N (b + 16 + 2 * i) 6)) (b + 7 + rw) (2 + 2 * (i : Int)) (um N (b + 7 + rw) (1 + 2 * (i : Int)) (N (b + 16 + 2 * i) 6) (b + 16 + 2 * i) 7)) _
          rw [e7, e6]
          exact r1
      · rw [r3 j (by omega), um_ni (by omega), um_ni (by omega)]
      · by_cases e : j = i
        · subst e
          rw [r3 _ (by omega), r3 _ (by omega), um_ni (by omega), um_eq, um_eq]
          exact ⟨rfl, rfl⟩
        · exact r4 j (by omega) h2
  obtain ⟨N', r1, r2, r3, r4⟩ := loop (M (b + 4) 1).toNat 0 (um M (b + 7 + rw) 0 (M (b + 4) 1)) (by omega) (fun a ha => um_fn ha)
  refine ⟨um (um N' (b + 4) 2 (M (b + 4) 2 + 1)) (b + 4) 3 (if 8 < M (b + 4) 3 + 1 then 8 else M (b + 4) 3 + 1), ⟨_, rfl, ?_⟩, ?_, ?_, fun a a1 a2 => ?_⟩
  · have hr8 : (M (b + 4) 2 % 8).toNat = rw := hr
    refine Rn.fal rfl (X_ald rfl <| X_gr 0 4 hS.be ⟨rfl, rfl⟩ rfl rfl <| X_ald rfl <| X_gi 0 2 2 hS.be ⟨rfl, rfl, rfl⟩ (Or.inl rfl) <| X_i <| X_rem (by first | omega | (simp (disch := omega) only [um_eq, um_na, um_ni, Int.toNat_natCast]; omega)) (by first | omega | (simp (disch := omega) only [um_eq, um_na, um_ni, Int.toNat_natCast]; omega)) <| X_aa hS.pa (by decide) (by first | omega | (simp (disch := omega) only [um_eq, um_na, um_ni, Int.toNat_natCast]; omega)) (by first | omega | (simp (disch := omega) only [um_eq, um_na, um_ni, Int.toNat_natCast]; omega)) rfl (rPa_at (by omega)) <| X_ast rfl (L' := [_, _, _]) rfl <| X_ald rfl <| X_i <| X_ald rfl <| X_gi 0 1 1 hS.be ⟨rfl, rfl, rfl⟩ (Or.inl rfl) <| X_is (hS.ro (by omega)) (by first | omega | (simp (disch := omega) only [um_eq, um_na, um_ni, Int.toNat_natCast]; omega)) (by first | omega | (simp (disch := omega) only [um_eq, um_na, um_ni, Int.toNat_natCast]; omega)) rfl <| X_i <| X_ist rfl (L' := [_, _, _]) rfl <| X_nil) ?_
    show Rn S 9 22 ([], [some (vR (b + 4)), some (vR (b + 7 + (M (b + 4) 2 % 8).toNat)), some (vI 0)], T, um M (b + 7 + (M (b + 4) 2 % 8).toNat) 0 (M (b + 4) 1)) _
    rw [hr8]
    exact r1
  · refine ⟨?_, ?_, um_eq⟩
    · rw [um_ni (by omega), um_ni (by omega), r2 _ (by omega)]
    · rw [um_ni (by omega), um_eq]
  · refine ⟨?_, fun i hi => ?_⟩
    · rw [um_na (by omega), um_na (by omega), r3 0 (by omega), um_eq]
    · rw [um_na (by omega), um_na (by omega), um_na (by omega), um_na (by omega)]
      exact r4 i (by omega) hi
  · rw [um_fn a1, um_fn a1, r2 a a2]
end Beds
