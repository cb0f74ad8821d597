/-! COPIES OF A STATE -/
section State
variable {S : List Int} {T : List Sh} {M : Nat → Int → Int} {b o : Nat} {h : Hp}
abbrev Apart (b o : Nat) : Prop := o + 27 ≤ b ∨ b + 27 ≤ o
/-- the end of a method without an answer, the heap under another name -/
theorem Rn.eqv {m pc : Nat} {σ : St} {r r' : Option AV × Hp} (h : Rn S m pc σ r) (e : r = r') : Rn S m pc σ r' := e ▸ h
theorem c_fcopy (hS : isSt T b) (hO : isSt T o) (hp : Apart b o) : ∃ M', Cl S 15 [vR (b + 1), vR (o + 1)] (T, M) (none, (T, M')) ∧ (M' (b + 1) 0 = M (o + 1) 0 ∧ M' (b + 1) 1 = M (o + 1) 1 ∧ M' (b + 1) 2 = M (o + 1) 2 ∧ M' (b + 1) 3 = M (o + 1) 3 ∧ M' (b + 1) 4 = M (o + 1) 4 ∧ M' (b + 1) 5 = M (o + 1) 5 ∧ M' (b + 1) 8 = M (o + 1) 8) ∧ (∀ c, 0 ≤ c → c < 49 → M' (b + 2) c = M (o + 2) c) ∧ (∀ a, a ≠ b + 1 → a ≠ b + 2 → M' a = M a) := by
  have n1 : o + 1 ≠ b + 1 := by omega
  have n2 : o + 1 ≠ b + 2 := by omega
  have n3 : o + 2 ≠ b + 1 := by omega
  have n4 : b + 1 ≠ b + 2 := by omega
  refine ⟨um (cpm (um (um (um (um (um (um M (b + 1) 0 (M (o + 1) 0)) (b + 1) 1 (M (o + 1) 1)) (b + 1) 2 (M (o + 1) 2)) (b + 1) 3 (M (o + 1) 3)) (b + 1) 4 (M (o + 1) 4)) (b + 1) 5 (M (o + 1) 5)) (o + 2) (b + 2) 0 0 49) (b + 1) 8 (M (o + 1) 8), ⟨_, rfl, ?_⟩, ?_, ?_, ?_⟩
  · obtain ⟨N, hN, eN⟩ : ∃ N, Rn S 15 0 ([], [some (vR (b + 1)), some (vR (o + 1))], T, M) (none, (T, N)) ∧ N = um (cpm (um (um (um (um (um (um M (b + 1) 0 (M (o + 1) 0)) (b + 1) 1 (M (o + 1) 1)) (b + 1) 2 (M (o + 1) 2)) (b + 1) 3 (M (o + 1) 3)) (b + 1) 4 (M (o + 1) 4)) (b + 1) 5 (M (o + 1) 5)) (o + 2) (b + 2) 0 0 49) (b + 1) 8 (M (o + 1) 8) := ⟨_, (Rn.rv rfl (X_ald rfl <| X_ald rfl <| X_gi 1 0 0 hO.fl ⟨rfl, rfl, rfl⟩ (Or.inl rfl) <| X_pi 1 0 0 hS.fl ⟨rfl, rfl, rfl⟩ (Or.inl rfl) <| X_ald rfl <| X_ald rfl <| X_gi 1 1 1 hO.fl ⟨rfl, rfl, rfl⟩ (Or.inl rfl) <| X_pi 1 1 1 hS.fl ⟨rfl, rfl, rfl⟩ (Or.inl rfl) <| X_ald rfl <| X_ald rfl <| X_gi 1 2 2 hO.fl ⟨rfl, rfl, rfl⟩ (Or.inl rfl) <| X_pi 1 2 2 hS.fl ⟨rfl, rfl, rfl⟩ (Or.inl rfl) <| X_ald rfl <| X_ald rfl <| X_gi 1 3 3 hO.fl ⟨rfl, rfl, rfl⟩ (Or.inl rfl) <| X_pi 1 3 3 hS.fl ⟨rfl, rfl, rfl⟩ (Or.inl rfl) <| X_ald rfl <| X_ald rfl <| X_gi 1 4 4 hO.fl ⟨rfl, rfl, rfl⟩ (Or.inl rfl) <| X_pi 1 4 4 hS.fl ⟨rfl, rfl, rfl⟩ (Or.inl rfl) <| X_ald rfl <| X_ald rfl <| X_gi 1 5 5 hO.fl ⟨rfl, rfl, rfl⟩ (Or.inl rfl) <| X_pi 1 5 5 hS.fl ⟨rfl, rfl, rfl⟩ (Or.inl rfl) <| X_ald rfl <| X_gr 1 6 hO.fl ⟨rfl, rfl⟩ rfl rfl <| X_i <| X_ald rfl <| X_gr 1 6 hS.fl ⟨rfl, rfl⟩ rfl rfl <| X_i <| X_i <| X_cp hO.th hS.th (by first | omega | (simp (disch := omega) only [um_eq, um_na, um_ni, Int.toNat_natCast]; omega)) (by first | omega | (simp (disch := omega) only [um_eq, um_na, um_ni, Int.toNat_natCast]; omega)) (by first | omega | (simp (disch := omega) only [um_eq, um_na, um_ni, Int.toNat_natCast]; omega)) (by first | omega | (simp (disch := omega) only [um_eq, um_na, um_ni, Int.toNat_natCast]; omega)) (by first | omega | (simp (disch := omega) only [um_eq, um_na, um_ni, Int.toNat_natCast]; omega)) <| X_ald rfl <| X_ald rfl <| X_gi 1 8 8 hO.fl ⟨rfl, rfl, rfl⟩ (Or.inl rfl) <| X_pi 1 8 8 hS.fl ⟨rfl, rfl, rfl⟩ (Or.inl rfl) <| X_nil) rfl), by simp (disch := omega) only [um_na, cpm_fn, ne_eq]⟩
    rw [← eN]
    exact hN
  · simp (disch := omega) only [um_eq, um_ni, cpm_fn, ne_eq, and_self]
  · intro c c0 c1
    rw [um_na n4.symm, cpm_in c0 c1]
    simp (disch := omega) only [um_na]
  · intro a a1 a2
    rw [um_fn a1, cpm_fn a2, um_fn a1, um_fn a1, um_fn a1, um_fn a1, um_fn a1, um_fn a1]
theorem c_ncopy (hS : isSt T b) (hO : isSt T o) (hp : Apart b o) : ∃ M', Cl S 31 [vR (b + 23), vR (o + 23)] (T, M) (none, (T, M')) ∧ M' (b + 23) 0 = M (o + 23) 0 ∧ (∀ c, 0 ≤ c → c < 8 → M' (b + 24) c = M (o + 24) c ∧ M' (b + 25) c = M (o + 25) c) ∧ (∀ a, a ≠ b + 23 → a ≠ b + 24 → a ≠ b + 25 → M' a = M a) := by
  refine ⟨cpm (cpm (um M (b + 23) 0 (M (o + 23) 0)) (o + 24) (b + 24) 0 0 8) (o + 25) (b + 25) 0 0 8, ⟨_, rfl, ?_⟩, ?_, ?_, ?_⟩
  · refine Rn.rv rfl (X_ald rfl <| X_ald rfl <| X_gi 3 0 0 hO.no ⟨rfl, rfl, rfl⟩ (Or.inl rfl) <| X_pi 3 0 0 hS.no ⟨rfl, rfl, rfl⟩ (Or.inl rfl) <| X_ald rfl <| X_gr 3 1 hO.no ⟨rfl, rfl⟩ rfl rfl <| X_i <| X_ald rfl <| X_gr 3 1 hS.no ⟨rfl, rfl⟩ rfl rfl <| X_i <| X_i <| X_cp hO.wr hS.wr (by first | omega | (simp (disch := omega) only [um_eq, um_na, um_ni, Int.toNat_natCast]; omega)) (by first | omega | (simp (disch := omega) only [um_eq, um_na, um_ni, Int.toNat_natCast]; omega)) (by first | omega | (simp (disch := omega) only [um_eq, um_na, um_ni, Int.toNat_natCast]; omega)) (by first | omega | (simp (disch := omega) only [um_eq, um_na, um_ni, Int.toNat_natCast]; omega)) (by first | omega | (simp (disch := omega) only [um_eq, um_na, um_ni, Int.toNat_natCast]; omega)) <| X_ald rfl <| X_gr 3 2 hO.no ⟨rfl, rfl⟩ rfl rfl <| X_i <| X_ald rfl <| X_gr 3 2 hS.no ⟨rfl, rfl⟩ rfl rfl <| X_i <| X_i <| X_cp hO.na hS.na (by first | omega | (simp (disch := omega) only [um_eq, um_na, um_ni, Int.toNat_natCast]; omega)) (by first | omega | (simp (disch := omega) only [um_eq, um_na, um_ni, Int.toNat_natCast]; omega)) (by first | omega | (simp (disch := omega) only [um_eq, um_na, um_ni, Int.toNat_natCast]; omega)) (by first | omega | (simp (disch := omega) only [um_eq, um_na, um_ni, Int.toNat_natCast]; omega)) (by first | omega | (simp (disch := omega) only [um_eq, um_na, um_ni, Int.toNat_natCast]; omega)) <| X_nil) rfl
  · simp (disch := omega) only [um_eq, cpm_fn, ne_eq]
  · intro c c0 c1
    constructor
    · rw [cpm_fn (by omega), cpm_in c0 c1, um_na (by omega)]
    · rw [cpm_in c0 c1, cpm_fn (by omega), um_na (by omega)]
  · intro a a1 a2 a3
    rw [cpm_fn a3, cpm_fn a2, um_fn a1]
/-- Beds.copyFrom -/
theorem c_bcopy (hS : isSt T b) (hO : isSt T o) (hp : Apart b o) : ∃ M', Cl S 2 [vR (b + 4), vR (o + 4)] (T, M) (none, (T, M')) ∧ (M' (b + 4) 1 = M (o + 4) 1 ∧ M' (b + 4) 2 = M (o + 4) 2 ∧ M' (b + 4) 3 = M (o + 4) 3) ∧ (∀ i, i < 4 → ∀ k, 0 ≤ k → k < 8 → M' (b + 16 + 2 * i) k = M (o + 16 + 2 * i) k) ∧ (∀ i, i < 8 → ∀ k, 0 ≤ k → k < 9 → M' (b + 7 + i) k = M (o + 7 + i) k) ∧ (∀ a, a ≠ b + 4 → (∀ i, i < 4 → a ≠ b + 16 + 2 * i) → (∀ i, i < 8 → a ≠ b + 7 + i) → M' a = M a) := by
  have l2 : ∀ (k i : Nat) (N : Nat → Int → Int), i + k = 8 → ∃ N', Rn S 2 64 ([], [some (vR (b + 4)), some (vR (o + 4)), some (vI (i : Int))], T, N) (none, (T, N')) ∧ (∀ j, i ≤ j → j < 8 → ∀ c, 0 ≤ c → c < 9 → N' (b + 7 + j) c = N (o + 7 + j) c) ∧ (∀ a, (∀ j, i ≤ j → j < 8 → a ≠ b + 7 + j) → N' a = N a) := by
    intro k
    induction k with
    | zero =>
      intro i N hi
      refine ⟨N, ?_, fun j h1 h2 => by omega, fun a _ => rfl⟩
      refine Rn.cge rfl (X_ild rfl <| X_i <| X_nil) (by first | omega | (simp (disch := omega) only [um_eq, um_na, um_ni, Int.toNat_natCast]; omega)) (by first | omega | (simp (disch := omega) only [um_eq, um_na, um_ni, Int.toNat_natCast]; omega)) (fun hc => ?_) (fun hc => ?_)
      · refine Rn.rv rfl (X_nil) rfl
      · exact absurd hc (by omega)
    | succ k ih =>
      intro i N hi
      obtain ⟨N', r1, r2, r3⟩ := ih (i + 1) (cpm N (o + 7 + i) (b + 7 + i) 0 0 9) (by omega)
      refine ⟨N', ?_, fun j h1 h2 c c0 c1 => ?_, fun a ha => ?_⟩
      · refine Rn.cge rfl (X_ild rfl <| X_i <| X_nil) (by first | omega | (simp (disch := omega) only [um_eq, um_na, um_ni, Int.toNat_natCast]; omega)) (by first | omega | (simp (disch := omega) only [um_eq, um_na, um_ni, Int.toNat_natCast]; omega)) (fun hc => ?_) (fun hc => ?_)
        · exact absurd hc (by omega)
        · refine Rn.jto rfl (X_ald rfl <| X_gr 0 4 hO.be ⟨rfl, rfl⟩ rfl rfl <| X_ild rfl <| X_aa hO.pa (by decide) (by first | omega | (simp (disch := omega) only [um_eq, um_na, um_ni, Int.toNat_natCast]; omega)) (by first | omega | (simp (disch := omega) only [um_eq, um_na, um_ni, Int.toNat_natCast]; omega)) rfl (rPa_at (by omega)) <| X_i <| X_ald rfl <| X_gr 0 4 hS.be ⟨rfl, rfl⟩ rfl rfl <| X_ild rfl <| X_aa hS.pa (by decide) (by first | omega | (simp (disch := omega) only [um_eq, um_na, um_ni, Int.toNat_natCast]; omega)) (by first | omega | (simp (disch := omega) only [um_eq, um_na, um_ni, Int.toNat_natCast]; omega)) rfl (rPa_at (by omega)) <| X_i <| X_i <| X_cp (hO.ro (by omega)) (hS.ro (by omega)) (by first | omega | (simp (disch := omega) only [um_eq, um_na, um_ni, Int.toNat_natCast]; omega)) (by first | omega | (simp (disch := omega) only [um_eq, um_na, um_ni, Int.toNat_natCast]; omega)) (by first | omega | (simp (disch := omega) only [um_eq, um_na, um_ni, Int.toNat_natCast]; omega)) (by first | omega | (simp (disch := omega) only [um_eq, um_na, um_ni, Int.toNat_natCast]; omega)) (by first | omega | (simp (disch := omega) only [um_eq, um_na, um_ni, Int.toNat_natCast]; omega)) <| X_inc rfl (L' := [_, _, _]) rfl <| X_nil) ?_
          exact r1
      · by_cases e : j = i
        · subst e
          rw [r3 _ (fun j2 h3 h4 => by omega), cpm_in c0 c1]
        · rw [r2 j (by omega) h2 c c0 c1, cpm_fn (by omega)]
      · rw [r3 a (fun j h1 h2 => ha j (by omega) h2), cpm_fn (ha i (by omega) (by omega))]
  have l1 : ∀ (k i : Nat) (N : Nat → Int → Int), i + k = 4 → ∃ N', Rn S 2 26 ([], [some (vR (b + 4)), some (vR (o + 4)), some (vI (i : Int))], T, N) (none, (T, N')) ∧ (∀ j, i ≤ j → j < 4 → ∀ c, 0 ≤ c → c < 8 → N' (b + 16 + 2 * j) c = N (o + 16 + 2 * j) c) ∧ (∀ j, j < 8 → ∀ c, 0 ≤ c → c < 9 → N' (b + 7 + j) c = N (o + 7 + j) c) ∧ (∀ a, (∀ j, i ≤ j → j < 4 → a ≠ b + 16 + 2 * j) → (∀ j, j < 8 → a ≠ b + 7 + j) → N' a = N a) := by
    intro k
    induction k with
    | zero =>
      intro i N hi
      obtain ⟨N', r1, r2, r3⟩ := l2 8 0 N (by omega)
      refine ⟨N', ?_, fun j h1 h2 => by omega, fun j h1 c c0 c1 => r2 j (by omega) h1 c c0 c1, fun a _ ha => r3 a (fun j _ h2 => ha j h2)⟩
      refine Rn.cge rfl (X_ild rfl <| X_i <| X_nil) (by first | omega | (simp (disch := omega) only [um_eq, um_na, um_ni, Int.toNat_natCast]; omega)) (by first | omega | (simp (disch := omega) only [um_eq, um_na, um_ni, Int.toNat_natCast]; omega)) (fun hc => ?_) (fun hc => ?_)
      · refine Rn.fal rfl (X_i <| X_ist rfl (L' := [_, _, _]) rfl <| X_nil) ?_
        exact r1
      · exact absurd hc (by omega)
    | succ k ih =>
      intro i N hi
      obtain ⟨N', r1, r2, r4, r3⟩ := ih (i + 1) (cpm N (o + 16 + 2 * i) (b + 16 + 2 * i) 0 0 8) (by omega)
      refine ⟨N', ?_, fun j h1 h2 c c0 c1 => ?_, fun j h1 c c0 c1 => ?_, fun a ha hb => ?_⟩
      · refine Rn.cge rfl (X_ild rfl <| X_i <| X_nil) (by first | omega | (simp (disch := omega) only [um_eq, um_na, um_ni, Int.toNat_natCast]; omega)) (by first | omega | (simp (disch := omega) only [um_eq, um_na, um_ni, Int.toNat_natCast]; omega)) (fun hc => ?_) (fun hc => ?_)
        · exact absurd hc (by omega)
        · refine Rn.jto rfl (X_ald rfl <| X_gr 0 0 hO.be ⟨rfl, rfl⟩ rfl rfl <| X_ild rfl <| X_aa hO.sl (by decide) (by first | omega | (simp (disch := omega) only [um_eq, um_na, um_ni, Int.toNat_natCast]; omega)) (by first | omega | (simp (disch := omega) only [um_eq, um_na, um_ni, Int.toNat_natCast]; omega)) rfl (rSl_at (by omega)) <| X_gr 5 0 (hO.se (by omega)) ⟨rfl, rfl⟩ rfl rfl <| X_i <| X_ald rfl <| X_gr 0 0 hS.be ⟨rfl, rfl⟩ rfl rfl <| X_ild rfl <| X_aa hS.sl (by decide) (by first | omega | (simp (disch := omega) only [um_eq, um_na, um_ni, Int.toNat_natCast]; omega)) (by first | omega | (simp (disch := omega) only [um_eq, um_na, um_ni, Int.toNat_natCast]; omega)) rfl (rSl_at (by omega)) <| X_gr 5 0 (hS.se (by omega)) ⟨rfl, rfl⟩ rfl rfl <| X_i <| X_i <| X_cp (hO.tr (by omega)) (hS.tr (by omega)) (by first | omega | (simp (disch := omega) only [um_eq, um_na, um_ni, Int.toNat_natCast]; omega)) (by first | omega | (simp (disch := omega) only [um_eq, um_na, um_ni, Int.toNat_natCast]; omega)) (by first | omega | (simp (disch := omega) only [um_eq, um_na, um_ni, Int.toNat_natCast]; omega)) (by first | omega | (simp (disch := omega) only [um_eq, um_na, um_ni, Int.toNat_natCast]; omega)) (by first | omega | (simp (disch := omega) only [um_eq, um_na, um_ni, Int.toNat_natCast]; omega)) <| X_inc rfl (L' := [_, _, _]) rfl <| X_nil) ?_
          exact r1
      · by_cases e : j = i
        · subst e
          rw [r3 _ (fun j2 h3 h4 => by omega) (fun j2 h3 => by omega), cpm_in c0 c1]
        · rw [r2 j (by omega) h2 c c0 c1, cpm_fn (by omega)]
      · rw [r4 j h1 c c0 c1, cpm_fn (by omega)]
      · rw [r3 a (fun j h1 h2 => ha j (by omega) h2) hb, cpm_fn (ha i (by omega) (by omega))]
  obtain ⟨N', r1, r2, r4, r3⟩ := l1 4 0 (um (um (um M (b + 4) 1 (M (o + 4) 1)) (b + 4) 2 (M (o + 4) 2)) (b + 4) 3 (M (o + 4) 3)) (by omega)
  have n4 : o + 4 ≠ b + 4 := by omega
  have e1 : um M (b + 4) 1 (M (o + 4) 1) (o + 4) 2 = M (o + 4) 2 := um_na n4
  have e2 : um (um M (b + 4) 1 (M (o + 4) 1)) (b + 4) 2 (M (o + 4) 2) (o + 4) 3 = M (o + 4) 3 := by rw [um_na n4, um_na n4]
  refine ⟨N', ⟨_, rfl, ?_⟩, ?_, fun i hi k k0 k1 => ?_, fun i hi k k0 k1 => ?_, fun a a1 a2 a3 => ?_⟩
  · refine Rn.fal rfl (X_ald rfl <| X_ald rfl <| X_gi 0 1 1 hO.be ⟨rfl, rfl, rfl⟩ (Or.inl rfl) <| X_pi 0 1 1 hS.be ⟨rfl, rfl, rfl⟩ (Or.inl rfl) <| X_ald rfl <| X_ald rfl <| X_gi 0 2 2 hO.be ⟨rfl, rfl, rfl⟩ (Or.inl rfl) <| X_pi 0 2 2 hS.be ⟨rfl, rfl, rfl⟩ (Or.inl rfl) <| X_ald rfl <| X_ald rfl <| X_gi 0 3 3 hO.be ⟨rfl, rfl, rfl⟩ (Or.inl rfl) <| X_pi 0 3 3 hS.be ⟨rfl, rfl, rfl⟩ (Or.inl rfl) <| X_i <| X_ist rfl (L' := [_, _, _]) rfl <| X_nil) ?_
    rw [e1, e2]
    exact r1
  · rw [r3 (b + 4) (fun j _ _ => by omega) (fun j _ => by omega)]
    simp (disch := omega) only [um_eq, um_ni, and_self]
  · rw [r2 i (by omega) hi k k0 k1]
    simp (disch := omega) only [um_na]
  · rw [r4 i hi k k0 k1]
    simp (disch := omega) only [um_na]
  · rw [r3 a (fun j _ h2 => a2 j h2) a3, um_fn a1, um_fn a1, um_fn a1]
/-- a copy of the state at o lies at b; nothing else has changed -/
def CpSt (M M' : Nat → Int → Int) (o b : Nat) : Prop :=
  (M' (b + 1) 0 = M (o + 1) 0 ∧ M' (b + 1) 1 = M (o + 1) 1 ∧ M' (b + 1) 2 = M (o + 1) 2 ∧ M' (b + 1) 3 = M (o + 1) 3 ∧ M' (b + 1) 4 = M (o + 1) 4 ∧ M' (b + 1) 5 = M (o + 1) 5 ∧ M' (b + 1) 8 = M (o + 1) 8) ∧ (∀ c, 0 ≤ c → c < 49 → M' (b + 2) c = M (o + 2) c) ∧
  (M' (b + 4) 1 = M (o + 4) 1 ∧ M' (b + 4) 2 = M (o + 4) 2 ∧ M' (b + 4) 3 = M (o + 4) 3) ∧ (∀ i, i < 4 → ∀ k, 0 ≤ k → k < 8 → M' (b + 16 + 2 * i) k = M (o + 16 + 2 * i) k) ∧ (∀ i, i < 8 → ∀ k, 0 ≤ k → k < 9 → M' (b + 7 + i) k = M (o + 7 + i) k) ∧
  M' (b + 23) 0 = M (o + 23) 0 ∧ (∀ c, 0 ≤ c → c < 8 → M' (b + 24) c = M (o + 24) c ∧ M' (b + 25) c = M (o + 25) c) ∧ (∀ a, a < b ∨ b + 27 ≤ a → M' a = M a)
theorem c_scopy (hS : isSt T b) (hO : isSt T o) (hp : Apart b o) : ∃ M', Cl S 55 [vR b, vR o] (T, M) (none, (T, M')) ∧ CpSt M M' o b := by
  obtain ⟨M1, c1, p1, p2, p3⟩ := c_fcopy (S := S) (M := M) hS hO hp
  obtain ⟨M2, c2, q1, q2, q4, q3⟩ := c_bcopy (S := S) (M := M1) hS hO hp
  obtain ⟨M3, c3, s1, s2, s3⟩ := c_ncopy (S := S) (M := M2) hS hO hp
  have f1 : ∀ k : Nat, 3 ≤ k → k < 27 → M1 (o + k) = M (o + k) := fun k h1 h2 => p3 (o + k) (by omega) (by omega)
  refine ⟨M3, ⟨_, rfl, ?_⟩, ?_⟩
  · refine Rn.cal rfl (X_ald rfl <| X_gr 6 0 hS.st ⟨rfl, rfl⟩ rfl rfl <| X_ald rfl <| X_gr 6 0 hO.st ⟨rfl, rfl⟩ rfl rfl <| X_nil) (vs := [_, _]) (rest := []) rfl rfl rfl (rcv_v hS.fl (by decide)) (c1) ?_
    refine Rn.cal rfl (X_ald rfl <| X_gr 6 1 hS.st ⟨rfl, rfl⟩ rfl rfl <| X_ald rfl <| X_gr 6 1 hO.st ⟨rfl, rfl⟩ rfl rfl <| X_nil) (vs := [_, _]) (rest := []) rfl rfl rfl (rcv_v hS.be (by decide)) (c2) ?_
    refine Rn.cal rfl (X_ald rfl <| X_gr 6 2 hS.st ⟨rfl, rfl⟩ rfl rfl <| X_ald rfl <| X_gr 6 2 hO.st ⟨rfl, rfl⟩ rfl rfl <| X_nil) (vs := [_, _]) (rest := []) rfl rfl rfl (rcv_v hS.no (by decide)) (c3) ?_
    refine Rn.rv rfl (X_nil) rfl
  · have g : ∀ a, (a = b + 1 ∨ a = b + 2) → M3 a = M1 a := fun a ha => by
      rw [s3 a (by omega) (by omega) (by omega), q3 a (by omega) (fun i hi => by omega) (fun i hi => by omega)]
    refine ⟨?_, fun c c0 c1 => ?_, ?_, fun i hi k k0 k1 => ?_, fun i hi k k0 k1 => ?_, ?_, fun c c0 c1 => ?_, fun a ha => ?_⟩
    · rw [g _ (Or.inl rfl)]
      exact p1
    · rw [g _ (Or.inr rfl)]
      exact p2 c c0 c1
    · rw [s3 (b + 4) (by omega) (by omega) (by omega), ← p3 (o + 4) (by omega) (by omega)]
      exact q1
    · rw [s3 (b + 16 + 2 * i) (by omega) (by omega) (by omega), q2 i hi k k0 k1, p3 _ (by omega) (by omega)]
    · rw [s3 (b + 7 + i) (by omega) (by omega) (by omega), q4 i hi k k0 k1, p3 _ (by omega) (by omega)]
    · rw [s1, q3 (o + 23) (by omega) (fun i hi => by omega) (fun i hi => by omega), p3 _ (by omega) (by omega)]
    · have h1 := s2 c c0 c1
      rw [q3 (o + 24) (by omega) (fun i hi => by omega) (fun i hi => by omega), q3 (o + 25) (by omega) (fun i hi => by omega) (fun i hi => by omega), p3 _ (by omega) (by omega), p3 _ (by omega) (by omega)] at h1
      exact h1
    · rw [s3 a (by omega) (by omega) (by omega), q3 a (by omega) (fun i hi => by omega) (fun i hi => by omega), p3 a (by omega) (by omega)]
end State
