/-! THE MODEL'S WAYS -/
section Mway
variable {S : List Int} {T : List Sh} {M : Nat → Int → Int} {h : Hp}
/-- what a step to a cell costs, by the model's numbers -/
def qM (M : Nat → Int → Int) (w a : Nat) : Int := 2 + (if o_and (o_shr (M 77 4) ((a % w : Nat) : Int)) 1 = 1 then 0 else M 77 (10 + (a : Int)))
theorem qM_in {w a : Nat} (ht : ∀ c : Int, 0 ≤ c → c < 49 → 0 ≤ M 77 (10 + c) ∧ M 77 (10 + c) ≤ 9) (ha : a < 49) : 2 ≤ qM M w a ∧ qM M w a ≤ 11 := by
  have := ht a (by omega) (by omega)
  unfold qM
  split <;> omega
theorem c_stepTo {w a : Nat} (hM : isM T) (e0 : M 77 0 = (w : Int)) (hw : 1 ≤ w ∧ w ≤ 7) (ht : ∀ c : Int, 0 ≤ c → c < 49 → 0 ≤ M 77 (10 + c) ∧ M 77 (10 + c) ≤ 9) (ha : a < 49) : Cl S 151 [vR 76, vI (a : Int)] (T, M) (some (vI (qM M w a)), (T, M)) := by
  have em : (a : Int) % M 77 0 = ((a % w : Nat) : Int) := by rw [e0]; exact_mod_cast rfl
  have c := c_mhas (S := S) (h := (T, M)) (s := M 77 4) (k := ((a % w : Nat) : Int))
  rw [← em] at c
  refine ⟨_, rfl, ?_⟩
  unfold qM
  rw [← em]
  refine Rn.cal rfl (X_i <| X_ald rfl <| X_gr 8 0 hM.ob ⟨rfl, rfl⟩ rfl rfl <| X_i <| X_ia hM.w (by first | omega | (simp (disch := omega) only [um_eq, um_na, um_ni, Int.toNat_natCast]; omega)) (by first | omega | (simp (disch := omega) only [um_eq, um_na, um_ni, Int.toNat_natCast]; omega)) rfl <| X_ild rfl <| X_ald rfl <| X_gr 8 0 hM.ob ⟨rfl, rfl⟩ rfl rfl <| X_i <| X_ia hM.w (by first | omega | (simp (disch := omega) only [um_eq, um_na, um_ni, Int.toNat_natCast]; omega)) (by first | omega | (simp (disch := omega) only [um_eq, um_na, um_ni, Int.toNat_natCast]; omega)) rfl <| X_rem (by first | omega | (simp (disch := omega) only [um_eq, um_na, um_ni, Int.toNat_natCast]; omega)) (by first | omega | (simp (disch := omega) only [um_eq, um_na, um_ni, Int.toNat_natCast]; omega)) <| X_nil) (vs := [_, _]) (rest := [_]) rfl rfl rfl rfl (c) ?_
  by_cases hb : o_and (o_shr (M 77 4) ((a : Int) % M 77 0)) 1 = 1
  · rw [if_pos hb, if_pos hb]
    refine Rn.ieq rfl (X_nil) (by first | omega | (simp (disch := omega) only [um_eq, um_na, um_ni, Int.toNat_natCast]; omega)) (fun hc => ?_) (fun hc => ?_)
    · exact absurd hc (by omega)
    · refine Rn.jto rfl (X_i <| X_nil) ?_
      refine Rn.ri rfl (X_add <| X_nil) rfl
  · rw [if_neg hb, if_neg hb]
    refine Rn.ieq rfl (X_nil) (by first | omega | (simp (disch := omega) only [um_eq, um_na, um_ni, Int.toNat_natCast]; omega)) (fun hc => ?_) (fun hc => ?_)
    · refine Rn.fal rfl (X_ald rfl <| X_gr 8 0 hM.ob ⟨rfl, rfl⟩ rfl rfl <| X_i <| X_ild rfl <| X_add <| X_ia hM.w (by first | omega | (simp (disch := omega) only [um_eq, um_na, um_ni, Int.toNat_natCast]; omega)) (by first | omega | (simp (disch := omega) only [um_eq, um_na, um_ni, Int.toNat_natCast]; omega)) rfl <| X_nil) ?_
      refine Rn.ri rfl (X_add <| X_nil) rfl
    · exact absurd rfl hc
theorem sq_cases (z : Int) : z = 0 ∨ z = 1 ∨ z = -1 ∨ (4 ≤ z * z ∧ (2 ≤ z ∨ z ≤ -2)) := by
  by_cases h1 : 2 ≤ z
  · have := Int.mul_le_mul h1 h1 (by omega) (by omega)
    omega
  · by_cases h2 : z ≤ -2
    · have h3 : 2 ≤ -z := by omega
      have := Int.mul_le_mul h3 h3 (by omega) (by omega)
      rw [Int.neg_mul_neg] at this
      omega
    · omega
theorem sq_in {z : Int} (h1 : -6 ≤ z) (h2 : z ≤ 6) : 0 ≤ z * z ∧ z * z ≤ 36 := by
  have h3 : 0 ≤ (6 - z) * (6 + z) := Int.mul_nonneg (by omega) (by omega)
  rw [Int.sub_mul, Int.mul_add, Int.mul_add] at h3
  refine ⟨?_, by omega⟩
  rcases sq_cases z with h | h | h | h <;> first | omega | (rw [h]; decide)
theorem c_beside {w a d : Nat} (hM : isM T) (e0 : M 77 0 = (w : Int)) (hw : 1 ≤ w ∧ w ≤ 7) (ha : a < w * 7) (hd : d < w * 7) : ∃ v, Cl S 152 [vR 76, vI (a : Int), vI (d : Int)] (T, M) (some (vI v), (T, M)) ∧ ((v = 1 ∧ AdjC w a d) ∨ (v = 0 ∧ ¬ AdjC w a d)) := by
  have b1 : w * 7 ≤ 49 := by omega
  have am : (a : Int) % M 77 0 = ((a % w : Nat) : Int) := by rw [e0]; exact_mod_cast rfl
  have dm : (d : Int) % M 77 0 = ((d % w : Nat) : Int) := by rw [e0]; exact_mod_cast rfl
  have ad : (a : Int) / M 77 0 = ((a / w : Nat) : Int) := by rw [e0]; exact_mod_cast rfl
  have dd : (d : Int) / M 77 0 = ((d / w : Nat) : Int) := by rw [e0]; exact_mod_cast rfl
  have a1 : a % w < w := Nat.mod_lt _ (by omega)
  have d1 : d % w < w := Nat.mod_lt _ (by omega)
  have a2 : a / w < 7 := Nat.div_lt_of_lt_mul ha
  have d2 : d / w < 7 := Nat.div_lt_of_lt_mul hd
  have key : ((((a % w : Nat) : Int) - ((d % w : Nat) : Int)) * (((a % w : Nat) : Int) - ((d % w : Nat) : Int)) + (((a / w : Nat) : Int) - ((d / w : Nat) : Int)) * (((a / w : Nat) : Int) - ((d / w : Nat) : Int)) = 1) ↔ AdjC w a d := by
    unfold AdjC
    generalize a % w = x at *
    generalize d % w = u at *
    generalize a / w = y at *
    generalize d / w = v at *
    have q1 := sq_in (z := (x : Int) - u) (by omega) (by omega)
    have q2 := sq_in (z := (y : Int) - v) (by omega) (by omega)
    rcases sq_cases ((x : Int) - u) with h1 | h1 | h1 | h1 <;> rcases sq_cases ((y : Int) - v) with h2 | h2 | h2 | h2 <;> first | (rw [h1, h2]; omega) | (rw [h1]; omega) | (rw [h2]; omega) | omega
  have i1 := sq_in (z := ((a % w : Nat) : Int) - ((d % w : Nat) : Int)) (by omega) (by omega)
  have i2 := sq_in (z := ((a / w : Nat) : Int) - ((d / w : Nat) : Int)) (by generalize a / w = y at *; generalize d / w = v at *; omega) (by generalize a / w = y at *; generalize d / w = v at *; omega)
  have iw : 0 < M 77 0 ∧ M 77 0 < 2147483648 := by omega
  have ia : 0 ≤ (a : Int) ∧ (a : Int) < 2147483648 := by omega
  have id' : 0 ≤ (d : Int) ∧ (d : Int) < 2147483648 := by omega
  rw [← am, ← dm, ← ad, ← dd] at key
  rw [← am, ← dm] at i1
  rw [← ad, ← dd] at i2
  by_cases hA : AdjC w a d
  · refine ⟨1, ⟨_, rfl, ?_⟩, Or.inl ⟨rfl, hA⟩⟩
    have hk := key.2 hA
    refine Rn.cne rfl (X_ild rfl <| X_ald rfl <| X_gr 8 0 hM.ob ⟨rfl, rfl⟩ rfl rfl <| X_i <| X_ia hM.w (by first | omega | (simp (disch := omega) only [um_eq, um_na, um_ni, Int.toNat_natCast]; omega)) (by first | omega | (simp (disch := omega) only [um_eq, um_na, um_ni, Int.toNat_natCast]; omega)) rfl <| X_rem (by first | omega | (simp (disch := omega) only [um_eq, um_na, um_ni, Int.toNat_natCast]; omega)) (by first | omega | (simp (disch := omega) only [um_eq, um_na, um_ni, Int.toNat_natCast]; omega)) <| X_ild rfl <| X_ald rfl <| X_gr 8 0 hM.ob ⟨rfl, rfl⟩ rfl rfl <| X_i <| X_ia hM.w (by first | omega | (simp (disch := omega) only [um_eq, um_na, um_ni, Int.toNat_natCast]; omega)) (by first | omega | (simp (disch := omega) only [um_eq, um_na, um_ni, Int.toNat_natCast]; omega)) rfl <| X_rem (by first | omega | (simp (disch := omega) only [um_eq, um_na, um_ni, Int.toNat_natCast]; omega)) (by first | omega | (simp (disch := omega) only [um_eq, um_na, um_ni, Int.toNat_natCast]; omega)) <| X_sub <| X_ist rfl (L' := [_, _, _, _, _]) rfl <| X_ild rfl <| X_ald rfl <| X_gr 8 0 hM.ob ⟨rfl, rfl⟩ rfl rfl <| X_i <| X_ia hM.w (by first | omega | (simp (disch := omega) only [um_eq, um_na, um_ni, Int.toNat_natCast]; omega)) (by first | omega | (simp (disch := omega) only [um_eq, um_na, um_ni, Int.toNat_natCast]; omega)) rfl <| X_div (by first | omega | (simp (disch := omega) only [um_eq, um_na, um_ni, Int.toNat_natCast]; omega)) (by first | omega | (simp (disch := omega) only [um_eq, um_na, um_ni, Int.toNat_natCast]; omega)) <| X_ild rfl <| X_ald rfl <| X_gr 8 0 hM.ob ⟨rfl, rfl⟩ rfl rfl <| X_i <| X_ia hM.w (by first | omega | (simp (disch := omega) only [um_eq, um_na, um_ni, Int.toNat_natCast]; omega)) (by first | omega | (simp (disch := omega) only [um_eq, um_na, um_ni, Int.toNat_natCast]; omega)) rfl <| X_div (by first | omega | (simp (disch := omega) only [um_eq, um_na, um_ni, Int.toNat_natCast]; omega)) (by first | omega | (simp (disch := omega) only [um_eq, um_na, um_ni, Int.toNat_natCast]; omega)) <| X_sub <| X_ist rfl (L' := [_, _, _, _, _]) rfl <| X_ild rfl <| X_ild rfl <| X_mul <| X_ild rfl <| X_ild rfl <| X_mul <| X_add <| X_i <| X_nil) (by first | omega | (simp (disch := omega) only [um_eq, um_na, um_ni, Int.toNat_natCast]; omega)) (by first | omega | (simp (disch := omega) only [um_eq, um_na, um_ni, Int.toNat_natCast]; omega)) (fun hc => ?_) (fun hc => ?_)
    · exact absurd hk hc
    · refine Rn.jto rfl (X_i <| X_nil) ?_
      refine Rn.rz rfl (X_nil) rfl (by first | exact Or.inl rfl | exact Or.inr rfl | omega)
  · refine ⟨0, ⟨_, rfl, ?_⟩, Or.inr ⟨rfl, hA⟩⟩
    refine Rn.cne rfl (X_ild rfl <| X_ald rfl <| X_gr 8 0 hM.ob ⟨rfl, rfl⟩ rfl rfl <| X_i <| X_ia hM.w (by first | omega | (simp (disch := omega) only [um_eq, um_na, um_ni, Int.toNat_natCast]; omega)) (by first | omega | (simp (disch := omega) only [um_eq, um_na, um_ni, Int.toNat_natCast]; omega)) rfl <| X_rem (by first | omega | (simp (disch := omega) only [um_eq, um_na, um_ni, Int.toNat_natCast]; omega)) (by first | omega | (simp (disch := omega) only [um_eq, um_na, um_ni, Int.toNat_natCast]; omega)) <| X_ild rfl <| X_ald rfl <| X_gr 8 0 hM.ob ⟨rfl, rfl⟩ rfl rfl <| X_i <| X_ia hM.w (by first | omega | (simp (disch := omega) only [um_eq, um_na, um_ni, Int.toNat_natCast]; omega)) (by first | omega | (simp (disch := omega) only [um_eq, um_na, um_ni, Int.toNat_natCast]; omega)) rfl <| X_rem (by first | omega | (simp (disch := omega) only [um_eq, um_na, um_ni, Int.toNat_natCast]; omega)) (by first | omega | (simp (disch := omega) only [um_eq, um_na, um_ni, Int.toNat_natCast]; omega)) <| X_sub <| X_ist rfl (L' := [_, _, _, _, _]) rfl <| X_ild rfl <| X_ald rfl <| X_gr 8 0 hM.ob ⟨rfl, rfl⟩ rfl rfl <| X_i <| X_ia hM.w (by first | omega | (simp (disch := omega) only [um_eq, um_na, um_ni, Int.toNat_natCast]; omega)) (by first | omega | (simp (disch := omega) only [um_eq, um_na, um_ni, Int.toNat_natCast]; omega)) rfl <| X_div (by first | omega | (simp (disch := omega) only [um_eq, um_na, um_ni, Int.toNat_natCast]; omega)) (by first | omega | (simp (disch := omega) only [um_eq, um_na, um_ni, Int.toNat_natCast]; omega)) <| X_ild rfl <| X_ald rfl <| X_gr 8 0 hM.ob ⟨rfl, rfl⟩ rfl rfl <| X_i <| X_ia hM.w (by first | omega | (simp (disch := omega) only [um_eq, um_na, um_ni, Int.toNat_natCast]; omega)) (by first | omega | (simp (disch := omega) only [um_eq, um_na, um_ni, Int.toNat_natCast]; omega)) rfl <| X_div (by first | omega | (simp (disch := omega) only [um_eq, um_na, um_ni, Int.toNat_natCast]; omega)) (by first | omega | (simp (disch := omega) only [um_eq, um_na, um_ni, Int.toNat_natCast]; omega)) <| X_sub <| X_ist rfl (L' := [_, _, _, _, _]) rfl <| X_ild rfl <| X_ild rfl <| X_mul <| X_ild rfl <| X_ild rfl <| X_mul <| X_add <| X_i <| X_nil) (by first | omega | (simp (disch := omega) only [um_eq, um_na, um_ni, Int.toNat_natCast]; omega)) (by first | omega | (simp (disch := omega) only [um_eq, um_na, um_ni, Int.toNat_natCast]; omega)) (fun hc => ?_) (fun hc => ?_)
    · refine Rn.fal rfl (X_i <| X_nil) ?_
      refine Rn.rz rfl (X_nil) rfl (by first | exact Or.inl rfl | exact Or.inr rfl | omega)
    · exact absurd (key.1 hc) hA
theorem Rf_ge {n : Nat} {A : Nat → Nat → Prop} {q : Nat → Int} {s : Nat} {F : Nat → Int} (hq : ∀ d, d < n → 2 ≤ q d) (h : Rf n A q s F) {a : Nat} (ha : a < n) : 0 ≤ F a := by
  rcases (h.2 a ha).2 with h1 | ⟨k, h1⟩
  · rw [h1]; decide
  · have := Wk_ge hq k s _ h1
    omega
theorem Rf_up {n : Nat} {A : Nat → Nat → Prop} {q : Nat → Int} {s : Nat} {F : Nat → Int} (hq : ∀ d, d < n → 2 ≤ q d) (h : Rf n A q s F) {a d : Nat} (ha : a < n) (hd : d < n) (hb : F a < Big) (hA : A a d) (hl : F a + q d < F d) : Rf n A q s (upD F d (F a + q d)) := by
  have h1 := (h.2 d hd).1
  have h2 := Rf_ge hq h ha
  have h3 := hq d hd
  refine ⟨?_, fun x hx => ?_⟩
  · unfold upD
    rw [if_neg (fun z => ?_)]
    · exact h.1
    · subst z
      rw [h.1] at hl
      omega
  · unfold upD
    by_cases hxa : x = d
    · rw [if_pos hxa]
      refine ⟨by omega, Or.inr ?_⟩
      rcases (h.2 a ha).2 with h4 | ⟨k, h4⟩
      · omega
      · subst hxa
        exact ⟨k + 1, Wk_app (s := s) (c := 0) hd hA k s _ h4⟩
    · rw [if_neg hxa]
      exact h.2 x hx
theorem Rf_ini {n : Nat} {A : Nat → Nat → Prop} {q : Nat → Int} {s : Nat} {F : Nat → Int} (hs : s < n) (h : ∀ a, a < n → F a = ini0 s a) : Rf n A q s F := by
  refine ⟨by rw [h s hs]; exact if_pos rfl, fun a ha => ?_⟩
  rw [h a ha]
  unfold ini0
  by_cases e : a = s
  · rw [if_pos e]
    exact ⟨by decide, Or.inr ⟨0, e.symm, rfl⟩⟩
  · rw [if_neg e]
    exact ⟨Int.le_refl _, Or.inl rfl⟩
theorem c_wayOf {w hh s e : Nat} (hM : isM T) (e0 : M 77 0 = (w : Int)) (e1 : M 77 1 = (hh : Int)) (hw : 1 ≤ w ∧ w ≤ 7) (hh7 : 1 ≤ hh ∧ hh ≤ 7) (ht : ∀ c : Int, 0 ≤ c → c < 49 → 0 ≤ M 77 (10 + c) ∧ M 77 (10 + c) ≤ 9) (hs : s < w * hh) (he : e < w * hh) : ∃ M', Cl S 153 [vR 76, vI (s : Int), vI (e : Int)] (T, M) (some (vI (M' 81 (e : Int))), (T, M')) ∧ (∀ a, a ≠ 81 → M' a = M a) ∧ Rf (w * hh) (AdjC w) (qM M w) s (fun a => M' 81 (a : Int)) ∧ Ff (w * hh) (AdjC w) (qM M w) (fun a => M' 81 (a : Int)) := by
  have enn : M 77 0 * M 77 1 = ((w * hh : Nat) : Int) := by rw [e0, e1]; exact_mod_cast rfl
  have hwh : w * hh ≤ w * 7 := Nat.mul_le_mul_left w hh7.2
  generalize hn : w * hh = n at *
  have n49 : n ≤ 49 := by omega
  have hBig : Big = 1000000000 := rfl
  have hq : ∀ d, d < n → 2 ≤ qM M w d ∧ qM M w d ≤ 11 := fun d hd => qM_in ht (by omega)
  have hq2 : ∀ d, d < n → 2 ≤ qM M w d := fun d hd => (hq d hd).1
  have qcg : ∀ N : Nat → Int → Int, (∀ a, a ≠ 81 → N a = M a) → ∀ a, qM N w a = qM M w a := by
    intro N hN a
    unfold qM
    rw [hN 77 (by decide)]
  have st : ∀ N : Nat → Int → Int, (∀ a, a ≠ 81 → N a = M a) → ∀ a, a < n → Cl S 151 [vR 76, vI (a : Int)] (T, N) (some (vI (qM M w a)), (T, N)) := by
    intro N hN a ha
    rw [← qcg N hN]
    have e77 := hN 77 (by decide)
    exact c_stepTo hM (by rw [e77]; exact e0) hw (by rw [e77]; exact ht) (by omega)
  have bs : ∀ N : Nat → Int → Int, (∀ a, a ≠ 81 → N a = M a) → ∀ a d, a < n → d < n → ∃ v, Cl S 152 [vR 76, vI (a : Int), vI (d : Int)] (T, N) (some (vI v), (T, N)) ∧ ((v = 1 ∧ AdjC w a d) ∨ (v = 0 ∧ ¬ AdjC w a d)) := by
    intro N hN a d ha hd
    have e77 := hN 77 (by decide)
    exact c_beside hM (by rw [e77]; exact e0) hw (by omega) (by omega)
  -- what is to come, from a place on
  let G : Nat → List (Option AV) → (Nat → Int → Int) → Prop := fun pc L N => ∃ M', Rn S 153 pc ([], L, T, N) (some (vI (M' 81 (e : Int))), (T, M')) ∧ (∀ a, a ≠ 81 → M' a = M a) ∧ Rf n (AdjC w) (qM M w) s (fun a => M' 81 (a : Int)) ∧ Ff n (AdjC w) (qM M w) (fun a => M' 81 (a : Int))
  let Iv : Int → Nat → Nat → Int → (Nat → Int → Int) → Prop := fun B a d l N => (∀ a, a ≠ 81 → N a = M a) ∧ Rf n (AdjC w) (qM M w) s (fun a => N 81 (a : Int)) ∧ ((l = 0 ∧ sumD (fun a => N 81 (a : Int)) n ≤ B ∧ ∀ x y, x < n → y < n → (x < a ∨ (x = a ∧ y < d)) → N 81 (x : Int) < Big → AdjC w x y → N 81 (y : Int) ≤ N 81 (x : Int) + qM M w y) ∨ (l = 1 ∧ sumD (fun a => N 81 (a : Int)) n < B))
  have rows : ∀ (B : Int) (a : Nat), a < n → (∀ l N, Iv B (a + 1) 0 l N → G 154 [some (vR 76), some (vI (s : Int)), some (vI (e : Int)), some (vI (n : Int)), some (vI l), some (vI (a : Int)), some (vI (n : Int))] N) → ∀ (k d : Nat) (l : Int) (N : Nat → Int → Int), d + k = n → Iv B a d l N → G 71 [some (vR 76), some (vI (s : Int)), some (vI (e : Int)), some (vI (n : Int)), some (vI l), some (vI (a : Int)), some (vI (d : Int))] N := by
    intro B a ha nx k
    induction k with
    | zero =>
      intro d l N hd hI
      have ed : d = n := by omega
      subst ed
      obtain ⟨M', r, q⟩ := nx l N (by
        obtain ⟨i1, i2, i3⟩ := hI
        refine ⟨i1, i2, ?_⟩
        rcases i3 with ⟨j1, j2, j3⟩ | j
        · exact Or.inl ⟨j1, j2, fun x y hx hy hxy => j3 x y hx hy (by omega)⟩
        · exact Or.inr j)
      refine ⟨M', ?_, q⟩
      refine Rn.cge rfl (X_ild rfl <| X_ild rfl <| X_nil) (by first | omega | (simp (disch := omega) only [um_eq, um_na, um_ni, Int.toNat_natCast]; omega)) (by first | omega | (simp (disch := omega) only [um_eq, um_na, um_ni, Int.toNat_natCast]; omega)) (fun hc => ?_) (fun hc => ?_)
      · exact r
      · exact absurd hc (by omega)
    | succ k ih =>
      intro d l N hd hI
      obtain ⟨i1, i2, i3⟩ := id hI
      have fa0 := Rf_ge hq2 i2 ha
      have fd0 := Rf_ge hq2 i2 (show d < n by omega)
      have fa1 := (i2.2 a ha).1
      have fd1 := (i2.2 d (by omega)).1
      simp only at fa0 fd0 fa1 fd1
      have qd := hq d (by omega)
      -- the pair is passed over
      have pass : (N 81 (a : Int) < Big → AdjC w a d → N 81 (d : Int) ≤ N 81 (a : Int) + qM M w d) → G 148 [some (vR 76), some (vI (s : Int)), some (vI (e : Int)), some (vI (n : Int)), some (vI l), some (vI (a : Int)), some (vI (d : Int))] N := by
        intro hp
        obtain ⟨M', r, q⟩ := ih (d + 1) l N (by omega) (by
          refine ⟨i1, i2, ?_⟩
          rcases i3 with ⟨j1, j2, j3⟩ | j
          · refine Or.inl ⟨j1, j2, fun x y hx hy hxy => ?_⟩
            by_cases hxy' : x = a ∧ y = d
            · rw [hxy'.1, hxy'.2]; exact hp
            · exact j3 x y hx hy (by omega)
          · exact Or.inr j)
        refine ⟨M', ?_, q⟩
        refine Rn.jto rfl (X_inc rfl (L' := [_, _, _, _, _, _, _]) rfl <| X_nil) ?_
        exact r
      by_cases hbig : Big ≤ N 81 (a : Int)
      · obtain ⟨M', r, q⟩ := pass (fun z => by omega)
        refine ⟨M', ?_, q⟩
        refine Rn.cge rfl (X_ild rfl <| X_ild rfl <| X_nil) (by first | omega | (simp (disch := omega) only [um_eq, um_na, um_ni, Int.toNat_natCast]; omega)) (by first | omega | (simp (disch := omega) only [um_eq, um_na, um_ni, Int.toNat_natCast]; omega)) (fun hc => ?_) (fun hc => ?_)
        · exact absurd hc (by omega)
        · refine Rn.cge rfl (X_ald rfl <| X_gr 8 13 hM.ob ⟨rfl, rfl⟩ rfl rfl <| X_ild rfl <| X_ia hM.fa (by first | omega | (simp (disch := omega) only [um_eq, um_na, um_ni, Int.toNat_natCast]; omega)) (by first | omega | (simp (disch := omega) only [um_eq, um_na, um_ni, Int.toNat_natCast]; omega)) rfl <| X_i <| X_nil) (by first | omega | (simp (disch := omega) only [um_eq, um_na, um_ni, Int.toNat_natCast]; omega)) (by first | omega | (simp (disch := omega) only [um_eq, um_na, um_ni, Int.toNat_natCast]; omega)) (fun hc => ?_) (fun hc => ?_)
          · exact r
          · exact absurd hc (by omega)
      · obtain ⟨v, cb, hv⟩ := bs N i1 a d ha (by omega)
        have cs := st N i1 d (by omega)
        by_cases hA : AdjC w a d
        · have v1 : v = 1 := by
            rcases hv with hv | hv
            · exact hv.1
            · exact absurd hA hv.2
          subst v1
          by_cases hl : N 81 (d : Int) ≤ N 81 (a : Int) + qM M w d
          · obtain ⟨M', r, q⟩ := pass (fun _ _ => hl)
            refine ⟨M', ?_, q⟩
            refine Rn.cge rfl (X_ild rfl <| X_ild rfl <| X_nil) (by first | omega | (simp (disch := omega) only [um_eq, um_na, um_ni, Int.toNat_natCast]; omega)) (by first | omega | (simp (disch := omega) only [um_eq, um_na, um_ni, Int.toNat_natCast]; omega)) (fun hc => ?_) (fun hc => ?_)
            · exact absurd hc (by omega)
            · refine Rn.cge rfl (X_ald rfl <| X_gr 8 13 hM.ob ⟨rfl, rfl⟩ rfl rfl <| X_ild rfl <| X_ia hM.fa (by first | omega | (simp (disch := omega) only [um_eq, um_na, um_ni, Int.toNat_natCast]; omega)) (by first | omega | (simp (disch := omega) only [um_eq, um_na, um_ni, Int.toNat_natCast]; omega)) rfl <| X_i <| X_nil) (by first | omega | (simp (disch := omega) only [um_eq, um_na, um_ni, Int.toNat_natCast]; omega)) (by first | omega | (simp (disch := omega) only [um_eq, um_na, um_ni, Int.toNat_natCast]; omega)) (fun hc => ?_) (fun hc => ?_)
              · exact absurd hc (by omega)
              · refine Rn.cal rfl (X_ald rfl <| X_ild rfl <| X_ild rfl <| X_nil) (vs := [_, _, _]) (rest := []) rfl rfl rfl (rcv_v hM.ob (by decide)) (cb) ?_
                refine Rn.ieq rfl (X_nil) (by first | omega | (simp (disch := omega) only [um_eq, um_na, um_ni, Int.toNat_natCast]; omega)) (fun hc => ?_) (fun hc => ?_)
                · exact absurd hc (by omega)
                · refine Rn.cal rfl (X_ald rfl <| X_gr 8 13 hM.ob ⟨rfl, rfl⟩ rfl rfl <| X_ild rfl <| X_ia hM.fa (by first | omega | (simp (disch := omega) only [um_eq, um_na, um_ni, Int.toNat_natCast]; omega)) (by first | omega | (simp (disch := omega) only [um_eq, um_na, um_ni, Int.toNat_natCast]; omega)) rfl <| X_ald rfl <| X_ild rfl <| X_nil) (vs := [_, _]) (rest := [_]) rfl rfl rfl (rcv_v hM.ob (by decide)) (cs) ?_
                  refine Rn.cge rfl (X_add <| X_ald rfl <| X_gr 8 13 hM.ob ⟨rfl, rfl⟩ rfl rfl <| X_ild rfl <| X_ia hM.fa (by first | omega | (simp (disch := omega) only [um_eq, um_na, um_ni, Int.toNat_natCast]; omega)) (by first | omega | (simp (disch := omega) only [um_eq, um_na, um_ni, Int.toNat_natCast]; omega)) rfl <| X_nil) (by first | omega | (simp (disch := omega) only [um_eq, um_na, um_ni, Int.toNat_natCast]; omega)) (by first | omega | (simp (disch := omega) only [um_eq, um_na, um_ni, Int.toNat_natCast]; omega)) (fun hc => ?_) (fun hc => ?_)
                  · exact r
                  · exact absurd hc (by omega)
          · have eU : (fun x : Nat => um N 81 (d : Int) (N 81 (a : Int) + qM M w d) 81 (x : Int)) = upD (fun x : Nat => N 81 (x : Int)) d (N 81 (a : Int) + qM M w d) := by
              funext x
              unfold upD
              by_cases ex : x = d
              · rw [if_pos ex, ex, um_eq]
              · rw [if_neg ex, um_ni (by omega)]
            obtain ⟨M', r, q⟩ := ih (d + 1) 1 (um N 81 (d : Int) (N 81 (a : Int) + qM M w d)) (by omega) (by
              refine ⟨fun x hx => by rw [um_fn hx]; exact i1 x hx, ?_, Or.inr ⟨rfl, ?_⟩⟩
              · rw [eU]
                exact Rf_up hq2 i2 ha (by omega) (by omega) hA (by omega)
              · rw [eU, sumD_up, if_pos (by omega)]
                rcases i3 with ⟨j1, j2, j3⟩ | j <;> omega)
            refine ⟨M', ?_, q⟩
            refine Rn.cge rfl (X_ild rfl <| X_ild rfl <| X_nil) (by first | omega | (simp (disch := omega) only [um_eq, um_na, um_ni, Int.toNat_natCast]; omega)) (by first | omega | (simp (disch := omega) only [um_eq, um_na, um_ni, Int.toNat_natCast]; omega)) (fun hc => ?_) (fun hc => ?_)
            · exact absurd hc (by omega)
            · refine Rn.cge rfl (X_ald rfl <| X_gr 8 13 hM.ob ⟨rfl, rfl⟩ rfl rfl <| X_ild rfl <| X_ia hM.fa (by first | omega | (simp (disch := omega) only [um_eq, um_na, um_ni, Int.toNat_natCast]; omega)) (by first | omega | (simp (disch := omega) only [um_eq, um_na, um_ni, Int.toNat_natCast]; omega)) rfl <| X_i <| X_nil) (by first | omega | (simp (disch := omega) only [um_eq, um_na, um_ni, Int.toNat_natCast]; omega)) (by first | omega | (simp (disch := omega) only [um_eq, um_na, um_ni, Int.toNat_natCast]; omega)) (fun hc => ?_) (fun hc => ?_)
              · exact absurd hc (by omega)
              · refine Rn.cal rfl (X_ald rfl <| X_ild rfl <| X_ild rfl <| X_nil) (vs := [_, _, _]) (rest := []) rfl rfl rfl (rcv_v hM.ob (by decide)) (cb) ?_
                refine Rn.ieq rfl (X_nil) (by first | omega | (simp (disch := omega) only [um_eq, um_na, um_ni, Int.toNat_natCast]; omega)) (fun hc => ?_) (fun hc => ?_)
                · exact absurd hc (by omega)
                · refine Rn.cal rfl (X_ald rfl <| X_gr 8 13 hM.ob ⟨rfl, rfl⟩ rfl rfl <| X_ild rfl <| X_ia hM.fa (by first | omega | (simp (disch := omega) only [um_eq, um_na, um_ni, Int.toNat_natCast]; omega)) (by first | omega | (simp (disch := omega) only [um_eq, um_na, um_ni, Int.toNat_natCast]; omega)) rfl <| X_ald rfl <| X_ild rfl <| X_nil) (vs := [_, _]) (rest := [_]) rfl rfl rfl (rcv_v hM.ob (by decide)) (cs) ?_
                  refine Rn.cge rfl (X_add <| X_ald rfl <| X_gr 8 13 hM.ob ⟨rfl, rfl⟩ rfl rfl <| X_ild rfl <| X_ia hM.fa (by first | omega | (simp (disch := omega) only [um_eq, um_na, um_ni, Int.toNat_natCast]; omega)) (by first | omega | (simp (disch := omega) only [um_eq, um_na, um_ni, Int.toNat_natCast]; omega)) rfl <| X_nil) (by first | omega | (simp (disch := omega) only [um_eq, um_na, um_ni, Int.toNat_natCast]; omega)) (by first | omega | (simp (disch := omega) only [um_eq, um_na, um_ni, Int.toNat_natCast]; omega)) (fun hc => ?_) (fun hc => ?_)
                  · exact absurd hc (by omega)
                  · refine Rn.cal rfl (X_ald rfl <| X_gr 8 13 hM.ob ⟨rfl, rfl⟩ rfl rfl <| X_ild rfl <| X_ald rfl <| X_gr 8 13 hM.ob ⟨rfl, rfl⟩ rfl rfl <| X_ild rfl <| X_ia hM.fa (by first | omega | (simp (disch := omega) only [um_eq, um_na, um_ni, Int.toNat_natCast]; omega)) (by first | omega | (simp (disch := omega) only [um_eq, um_na, um_ni, Int.toNat_natCast]; omega)) rfl <| X_ald rfl <| X_ild rfl <| X_nil) (vs := [_, _]) (rest := [_, _, _]) rfl rfl rfl (rcv_v hM.ob (by decide)) (cs) ?_
                    refine Rn.fal rfl (X_add <| X_is hM.fa (by first | omega | (simp (disch := omega) only [um_eq, um_na, um_ni, Int.toNat_natCast]; omega)) (by first | omega | (simp (disch := omega) only [um_eq, um_na, um_ni, Int.toNat_natCast]; omega)) rfl <| X_i <| X_ist rfl (L' := [_, _, _, _, _, _, _]) rfl <| X_nil) ?_
                    refine Rn.jto rfl (X_inc rfl (L' := [_, _, _, _, _, _, _]) rfl <| X_nil) ?_
                    exact r
        · have v1 : v = 0 := by
            rcases hv with hv | hv
            · exact absurd hv.2 hA
            · exact hv.1
          subst v1
          obtain ⟨M', r, q⟩ := pass (fun _ z => absurd z hA)
          refine ⟨M', ?_, q⟩
          refine Rn.cge rfl (X_ild rfl <| X_ild rfl <| X_nil) (by first | omega | (simp (disch := omega) only [um_eq, um_na, um_ni, Int.toNat_natCast]; omega)) (by first | omega | (simp (disch := omega) only [um_eq, um_na, um_ni, Int.toNat_natCast]; omega)) (fun hc => ?_) (fun hc => ?_)
          · exact absurd hc (by omega)
          · refine Rn.cge rfl (X_ald rfl <| X_gr 8 13 hM.ob ⟨rfl, rfl⟩ rfl rfl <| X_ild rfl <| X_ia hM.fa (by first | omega | (simp (disch := omega) only [um_eq, um_na, um_ni, Int.toNat_natCast]; omega)) (by first | omega | (simp (disch := omega) only [um_eq, um_na, um_ni, Int.toNat_natCast]; omega)) rfl <| X_i <| X_nil) (by first | omega | (simp (disch := omega) only [um_eq, um_na, um_ni, Int.toNat_natCast]; omega)) (by first | omega | (simp (disch := omega) only [um_eq, um_na, um_ni, Int.toNat_natCast]; omega)) (fun hc => ?_) (fun hc => ?_)
            · exact absurd hc (by omega)
            · refine Rn.cal rfl (X_ald rfl <| X_ild rfl <| X_ild rfl <| X_nil) (vs := [_, _, _]) (rest := []) rfl rfl rfl (rcv_v hM.ob (by decide)) (cb) ?_
              refine Rn.ieq rfl (X_nil) (by first | omega | (simp (disch := omega) only [um_eq, um_na, um_ni, Int.toNat_natCast]; omega)) (fun hc => ?_) (fun hc => ?_)
              · exact r
              · exact absurd rfl hc
  have cols : ∀ (B : Int), (∀ x6 l N, Iv B n 0 l N → G 51 [some (vR 76), some (vI (s : Int)), some (vI (e : Int)), some (vI (n : Int)), some (vI l), some (vI (n : Int)), x6] N) → ∀ (k a : Nat) (l : Int) (N : Nat → Int → Int) (x6 : Option AV), a + k = n → Iv B a 0 l N → G 62 [some (vR 76), some (vI (s : Int)), some (vI (e : Int)), some (vI (n : Int)), some (vI l), some (vI (a : Int)), x6] N := by
    intro B nx k
    induction k with
    | zero =>
      intro a l N x6 ha hI
      have ed : a = n := by omega
      subst ed
      obtain ⟨M', r, q⟩ := nx x6 l N hI
      refine ⟨M', ?_, q⟩
      refine Rn.cge rfl (X_ild rfl <| X_ild rfl <| X_nil) (by first | omega | (simp (disch := omega) only [um_eq, um_na, um_ni, Int.toNat_natCast]; omega)) (by first | omega | (simp (disch := omega) only [um_eq, um_na, um_ni, Int.toNat_natCast]; omega)) (fun hc => ?_) (fun hc => ?_)
      · refine Rn.jto rfl (X_nil) ?_
        exact r
      · exact absurd hc (by omega)
    | succ k ih =>
      intro a l N x6 ha hI
      obtain ⟨M', r, q⟩ := rows B a (by omega) (fun l' N' hI' => by
        obtain ⟨M', r, q⟩ := ih (a + 1) l' N' (some (vI (n : Int))) (by omega) hI'
        refine ⟨M', ?_, q⟩
        refine Rn.jto rfl (X_inc rfl (L' := [_, _, _, _, _, _, _]) rfl <| X_nil) ?_
        exact r) n 0 l N (by omega) hI
      refine ⟨M', ?_, q⟩
      refine Rn.cge rfl (X_ild rfl <| X_ild rfl <| X_nil) (by first | omega | (simp (disch := omega) only [um_eq, um_na, um_ni, Int.toNat_natCast]; omega)) (by first | omega | (simp (disch := omega) only [um_eq, um_na, um_ni, Int.toNat_natCast]; omega)) (fun hc => ?_) (fun hc => ?_)
      · exact absurd hc (by omega)
      · refine Rn.fal rfl (X_i <| X_ist rfl (L' := [_, _, _, _, _, _, _]) rfl <| X_nil) ?_
        exact r
  have rounds : ∀ (K : Nat) (l : Int) (N : Nat → Int → Int) (x5 x6 : Option AV), (∀ a, a ≠ 81 → N a = M a) → Rf n (AdjC w) (qM M w) s (fun a => N 81 (a : Int)) → ((l = 1 ∧ sumD (fun a => N 81 (a : Int)) n < (K : Int)) ∨ (l = 0 ∧ Ff n (AdjC w) (qM M w) (fun a => N 81 (a : Int)))) → G 51 [some (vR 76), some (vI (s : Int)), some (vI (e : Int)), some (vI (n : Int)), some (vI l), x5, x6] N := by
    intro K
    induction K with
    | zero =>
      intro l N x5 x6 i1 i2 i3
      rcases i3 with ⟨l1, hk⟩ | ⟨l0, hF⟩
      · have := sumD_ge (D := fun a => N 81 (a : Int)) n (fun a ha => Rf_ge hq2 i2 ha)
        exact absurd hk (by omega)
      · subst l0
        refine ⟨N, ?_, i1, i2, hF⟩
        refine Rn.ieq rfl (X_ild rfl <| X_nil) (by first | omega | (simp (disch := omega) only [um_eq, um_na, um_ni, Int.toNat_natCast]; omega)) (fun hc => ?_) (fun hc => ?_)
        · refine Rn.ri rfl (X_ald rfl <| X_gr 8 13 hM.ob ⟨rfl, rfl⟩ rfl rfl <| X_ild rfl <| X_ia hM.fa (by first | omega | (simp (disch := omega) only [um_eq, um_na, um_ni, Int.toNat_natCast]; omega)) (by first | omega | (simp (disch := omega) only [um_eq, um_na, um_ni, Int.toNat_natCast]; omega)) rfl <| X_nil) rfl
        · exact absurd rfl hc
    | succ K ih =>
      intro l N x5 x6 i1 i2 i3
      rcases i3 with ⟨l1, hk⟩ | ⟨l0, hF⟩
      · subst l1
        obtain ⟨M', r, q⟩ := cols (sumD (fun a => N 81 (a : Int)) n) (fun y6 l' N' hI' => by
          obtain ⟨j1, j2, j3⟩ := hI'
          refine ih l' N' _ _ j1 j2 ?_
          rcases j3 with ⟨k1, k2, k3⟩ | ⟨k1, k2⟩
          · exact Or.inr ⟨k1, fun a d ha hd hb hA => k3 a d ha hd (Or.inl ha) hb hA⟩
          · exact Or.inl ⟨k1, by omega⟩) n 0 0 N x6 (by omega) ⟨i1, i2, Or.inl ⟨rfl, Int.le_refl _, fun x y hx hy hxy => by omega⟩⟩
        refine ⟨M', ?_, q⟩
        refine Rn.ieq rfl (X_ild rfl <| X_nil) (by first | omega | (simp (disch := omega) only [um_eq, um_na, um_ni, Int.toNat_natCast]; omega)) (fun hc => ?_) (fun hc => ?_)
        · exact absurd hc (by omega)
        · refine Rn.fal rfl (X_i <| X_ist rfl (L' := [_, _, _, _, _, _, _]) rfl <| X_i <| X_ist rfl (L' := [_, _, _, _, _, _, _]) rfl <| X_nil) ?_
          exact r
      · subst l0
        refine ⟨N, ?_, i1, i2, hF⟩
        refine Rn.ieq rfl (X_ild rfl <| X_nil) (by first | omega | (simp (disch := omega) only [um_eq, um_na, um_ni, Int.toNat_natCast]; omega)) (fun hc => ?_) (fun hc => ?_)
        · refine Rn.ri rfl (X_ald rfl <| X_gr 8 13 hM.ob ⟨rfl, rfl⟩ rfl rfl <| X_ild rfl <| X_ia hM.fa (by first | omega | (simp (disch := omega) only [um_eq, um_na, um_ni, Int.toNat_natCast]; omega)) (by first | omega | (simp (disch := omega) only [um_eq, um_na, um_ni, Int.toNat_natCast]; omega)) rfl <| X_nil) rfl
        · exact absurd rfl hc
  have fill : ∀ (k i : Nat) (N : Nat → Int → Int), i + k = n → (∀ a, a ≠ 81 → N a = M a) → (∀ a : Nat, a < i → N 81 (a : Int) = ini0 s a) → G 17 [some (vR 76), some (vI (s : Int)), some (vI (e : Int)), some (vI (n : Int)), some (vI (i : Int)), none, none] N := by
    intro k
    induction k with
    | zero =>
      intro i N hi i1 i2
      have ei : i = n := by omega
      subst ei
      have hR : Rf i (AdjC w) (qM M w) s (fun a => N 81 (a : Int)) := Rf_ini hs (fun a ha => i2 a ha)
      have hp := sumD_ge (D := fun a => N 81 (a : Int)) i (fun a ha => Rf_ge hq2 hR ha)
      obtain ⟨M', r, q⟩ := rounds ((sumD (fun a => N 81 (a : Int)) i).toNat + 1) 1 N none none i1 hR (Or.inl ⟨rfl, by omega⟩)
      refine ⟨M', ?_, q⟩
      refine Rn.cge rfl (X_ild rfl <| X_ild rfl <| X_nil) (by first | omega | (simp (disch := omega) only [um_eq, um_na, um_ni, Int.toNat_natCast]; omega)) (by first | omega | (simp (disch := omega) only [um_eq, um_na, um_ni, Int.toNat_natCast]; omega)) (fun hc => ?_) (fun hc => ?_)
      · refine Rn.fal rfl (X_i <| X_ist rfl (L' := [_, _, _, _, _, _, _]) rfl <| X_nil) ?_
        exact r
      · exact absurd hc (by omega)
    | succ k ih =>
      intro i N hi i1 i2
      obtain ⟨M', r, q⟩ := ih (i + 1) (um N 81 (i : Int) (if i = s then 0 else Big)) (by omega) (fun a ha => by rw [um_fn ha]; exact i1 a ha) (fun a ha => by
        by_cases ea : a = i
        · subst ea
          rw [um_eq]
          rfl
        · rw [um_ni (by omega)]
          exact i2 a (by omega))
      refine ⟨M', ?_, q⟩
      refine Rn.cge rfl (X_ild rfl <| X_ild rfl <| X_nil) (by first | omega | (simp (disch := omega) only [um_eq, um_na, um_ni, Int.toNat_natCast]; omega)) (by first | omega | (simp (disch := omega) only [um_eq, um_na, um_ni, Int.toNat_natCast]; omega)) (fun hc => ?_) (fun hc => ?_)
      · exact absurd hc (by omega)
      · refine Rn.cne rfl (X_ald rfl <| X_gr 8 13 hM.ob ⟨rfl, rfl⟩ rfl rfl <| X_ild rfl <| X_ild rfl <| X_ild rfl <| X_nil) (by first | omega | (simp (disch := omega) only [um_eq, um_na, um_ni, Int.toNat_natCast]; omega)) (by first | omega | (simp (disch := omega) only [um_eq, um_na, um_ni, Int.toNat_natCast]; omega)) (fun hc => ?_) (fun hc => ?_)
        · rw [if_neg (by omega)] at r
          refine Rn.fal rfl (X_i <| X_nil) ?_
          refine Rn.jto rfl (X_is hM.fa (by first | omega | (simp (disch := omega) only [um_eq, um_na, um_ni, Int.toNat_natCast]; omega)) (by first | omega | (simp (disch := omega) only [um_eq, um_na, um_ni, Int.toNat_natCast]; omega)) rfl <| X_inc rfl (L' := [_, _, _, _, _, _, _]) rfl <| X_nil) ?_
          exact r
        · rw [if_pos (by omega)] at r
          refine Rn.jto rfl (X_i <| X_nil) ?_
          refine Rn.jto rfl (X_is hM.fa (by first | omega | (simp (disch := omega) only [um_eq, um_na, um_ni, Int.toNat_natCast]; omega)) (by first | omega | (simp (disch := omega) only [um_eq, um_na, um_ni, Int.toNat_natCast]; omega)) rfl <| X_inc rfl (L' := [_, _, _, _, _, _, _]) rfl <| X_nil) ?_
          exact r
  obtain ⟨M', r, q⟩ := fill n 0 M (by omega) (fun _ _ => rfl) (fun a ha => by omega)
  refine ⟨M', ⟨_, rfl, ?_⟩, q⟩
  refine Rn.fal rfl (X_ald rfl <| X_gr 8 0 hM.ob ⟨rfl, rfl⟩ rfl rfl <| X_i <| X_ia hM.w (by first | omega | (simp (disch := omega) only [um_eq, um_na, um_ni, Int.toNat_natCast]; omega)) (by first | omega | (simp (disch := omega) only [um_eq, um_na, um_ni, Int.toNat_natCast]; omega)) rfl <| X_ald rfl <| X_gr 8 0 hM.ob ⟨rfl, rfl⟩ rfl rfl <| X_i <| X_ia hM.w (by first | omega | (simp (disch := omega) only [um_eq, um_na, um_ni, Int.toNat_natCast]; omega)) (by first | omega | (simp (disch := omega) only [um_eq, um_na, um_ni, Int.toNat_natCast]; omega)) rfl <| X_mul <| X_ist rfl (L' := [_, _, _, _, _, _, _]) rfl <| X_i <| X_ist rfl (L' := [_, _, _, _, _, _, _]) rfl <| X_nil) ?_
  rw [enn]
  exact r
end Mway
