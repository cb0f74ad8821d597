/-! THE FLOOR MEASURES WAYS -/
theorem cell_in {x y w h : Int} (x0 : 0 ≤ x) (x1 : x < w) (y0 : 0 ≤ y) (y1 : y < h) : 0 ≤ x + w * y ∧ x + w * y < w * h := by
  have h1 : 0 ≤ w * y := Int.mul_nonneg (by omega) y0
  have h2 : w * (y + 1) ≤ w * h := Int.mul_le_mul_of_nonneg_left (by omega) (by omega)
  rw [Int.mul_add, Int.mul_one] at h2
  omega
theorem I32_and (x y : Int) : I32 (o_and x y) := by
  unfold o_and
  have h := i32_toInt (Int32.ofInt x &&& Int32.ofInt y).toInt
  rw [Int32.ofInt_toInt] at h
  rw [h]
  exact ⟨n32_lo _, n32_hi _⟩
/-- what a step to a cell costs, by moon, things and the cell's column -/
def qI (M : Nat → Int → Int) (b : Nat) (x y : Int) : Int := 2 + (if o_and (o_shr (M (b + 1) 4) x) 1 = 1 then 0 else M (b + 2) (x + M (b + 1) 0 * y))
/-- a floor whose numbers fit -/
def FlOk (M : Nat → Int → Int) (b : Nat) : Prop := (1 ≤ M (b + 1) 0 ∧ M (b + 1) 0 ≤ 7) ∧ (1 ≤ M (b + 1) 1 ∧ M (b + 1) 1 ≤ 7) ∧ (0 ≤ M (b + 1) 2 ∧ M (b + 1) 2 < M (b + 1) 0 * M (b + 1) 1) ∧ (0 ≤ M (b + 1) 3 ∧ M (b + 1) 3 < M (b + 1) 0 * M (b + 1) 1) ∧ (0 ≤ M (b + 1) 4 ∧ M (b + 1) 4 ≤ 127) ∧ (0 ≤ M (b + 1) 5 ∧ M (b + 1) 5 ≤ 1) ∧ (∀ c, 0 ≤ c → c < 49 → 0 ≤ M (b + 2) c ∧ M (b + 2) c ≤ 9)
theorem FlOk.n {M : Nat → Int → Int} {b : Nat} (h : FlOk M b) : 1 ≤ M (b + 1) 0 * M (b + 1) 1 ∧ M (b + 1) 0 * M (b + 1) 1 ≤ 49 := by
  obtain ⟨h1, h2, -⟩ := h
  have p1 : M (b + 1) 0 * M (b + 1) 1 ≤ 7 * 7 := Int.mul_le_mul h1.2 h2.2 (by omega) (by omega)
  have p0 : 1 * 1 ≤ M (b + 1) 0 * M (b + 1) 1 := Int.mul_le_mul h1.1 h2.1 (by omega) (by omega)
  omega
section Way
variable {S : List Int} {T : List Sh} {M : Nat → Int → Int} {b : Nat} {h : Hp}
theorem qI_in {x y : Int} (hf : FlOk M b) (x0 : 0 ≤ x) (x1 : x < M (b + 1) 0) (y0 : 0 ≤ y) (y1 : y < M (b + 1) 1) : 2 ≤ qI M b x y ∧ qI M b x y ≤ 11 := by
  have h1 := cell_in x0 x1 y0 y1
  have h2 := hf.n
  have h3 := hf.2.2.2.2.2.2 _ h1.1 (by omega)
  unfold qI
  split <;> omega
theorem c_wayOver {x y : Int} (hS : isSt T b) (hf : FlOk M b) (x0 : 0 ≤ x) (x1 : x < M (b + 1) 0) (y0 : 0 ≤ y) (y1 : y < M (b + 1) 1) : Cl S 26 [vR (b + 1), vI x, vI y] (T, M) (some (vI (qI M b x y + M (b + 3) (x + M (b + 1) 0 * y))), (T, M)) := by
  have h1 := cell_in x0 x1 y0 y1
  have h2 := hf.n
  have h3 := hf.2.2.2.2.2.2 _ h1.1 (by omega)
  have ia := I32_and (o_shr (M (b + 1) 4) x) 1
  refine ⟨_, rfl, ?_⟩
  unfold qI
  refine Rn.cne rfl (X_ild rfl <| X_ald rfl <| X_gi 1 0 0 hS.fl ⟨rfl, rfl, rfl⟩ (Or.inl rfl) <| X_ild rfl <| X_mul <| X_add <| X_ist rfl (L' := [_, _, _, _, _]) rfl <| X_ald rfl <| X_gi 1 4 4 hS.fl ⟨rfl, rfl, rfl⟩ (Or.inl rfl) <| X_ild rfl <| X_shr <| X_i <| X_and <| X_i <| X_nil) (by first | omega | (simp (disch := omega) only [um_eq, um_na, um_ni, Int.toNat_natCast]; omega)) (by first | omega | (simp (disch := omega) only [um_eq, um_na, um_ni, Int.toNat_natCast]; omega)) (fun hc => ?_) (fun hc => ?_)
  · rw [if_neg hc]
    refine Rn.fal rfl (X_i <| X_nil) ?_
    refine Rn.ieq rfl (X_ist rfl (L' := [_, _, _, _, _]) rfl <| X_i <| X_ild rfl <| X_nil) (by first | omega | (simp (disch := omega) only [um_eq, um_na, um_ni, Int.toNat_natCast]; omega)) (fun hc => ?_) (fun hc => ?_)
    · refine Rn.fal rfl (X_ald rfl <| X_gr 1 6 hS.fl ⟨rfl, rfl⟩ rfl rfl <| X_ild rfl <| X_ia hS.th (by first | omega | (simp (disch := omega) only [um_eq, um_na, um_ni, Int.toNat_natCast]; omega)) (by first | omega | (simp (disch := omega) only [um_eq, um_na, um_ni, Int.toNat_natCast]; omega)) rfl <| X_nil) ?_
      refine Rn.ri rfl (X_add <| X_ald rfl <| X_gr 1 7 hS.fl ⟨rfl, rfl⟩ rfl rfl <| X_ild rfl <| X_ia hS.wy (by first | omega | (simp (disch := omega) only [um_eq, um_na, um_ni, Int.toNat_natCast]; omega)) (by first | omega | (simp (disch := omega) only [um_eq, um_na, um_ni, Int.toNat_natCast]; omega)) rfl <| X_add <| X_nil) rfl
    · exact absurd rfl hc
  · rw [if_pos hc]
    refine Rn.jto rfl (X_i <| X_nil) ?_
    refine Rn.ieq rfl (X_ist rfl (L' := [_, _, _, _, _]) rfl <| X_i <| X_ild rfl <| X_nil) (by first | omega | (simp (disch := omega) only [um_eq, um_na, um_ni, Int.toNat_natCast]; omega)) (fun hc => ?_) (fun hc => ?_)
    · exact absurd hc (by omega)
    · refine Rn.jto rfl (X_i <| X_nil) ?_
      refine Rn.ri rfl (X_add <| X_ald rfl <| X_gr 1 7 hS.fl ⟨rfl, rfl⟩ rfl rfl <| X_ild rfl <| X_ia hS.wy (by first | omega | (simp (disch := omega) only [um_eq, um_na, um_ni, Int.toNat_natCast]; omega)) (by first | omega | (simp (disch := omega) only [um_eq, um_na, um_ni, Int.toNat_natCast]; omega)) rfl <| X_add <| X_nil) rfl
/-- the way of a cell, made less over one neighbour, where there is one -/
def minIf (p : Prop) [Decidable p] (v o : Int) : Int := if p then (if o < v then o else v) else v
theorem minIf_le {p : Prop} [Decidable p] {v o : Int} : minIf p v o ≤ v ∧ (p → minIf p v o ≤ o) ∧ (minIf p v o = v ∨ (p ∧ minIf p v o = o)) := by
  unfold minIf
  by_cases h : p
  · rw [if_pos h]
    split
    · exact ⟨by omega, fun _ => Int.le_refl _, Or.inr ⟨h, rfl⟩⟩
    · exact ⟨Int.le_refl _, fun _ => by omega, Or.inl rfl⟩
  · rw [if_neg h]
    exact ⟨Int.le_refl _, fun q => absurd q h, Or.inl rfl⟩
def shV (M : Nat → Int → Int) (b : Nat) (x y : Int) : Int :=
  minIf (y < M (b + 1) 1 - 1) (minIf (0 < y) (minIf (x < M (b + 1) 0 - 1) (minIf (0 < x) (M (b + 3) (x + M (b + 1) 0 * y))
    (qI M b (x - 1) y + M (b + 3) (x - 1 + M (b + 1) 0 * y))) (qI M b (x + 1) y + M (b + 3) (x + 1 + M (b + 1) 0 * y)))
    (qI M b x (y - 1) + M (b + 3) (x + M (b + 1) 0 * (y - 1)))) (qI M b x (y + 1) + M (b + 3) (x + M (b + 1) 0 * (y + 1)))
/-- the ways that stand are numbers -/
def WyOk (M : Nat → Int → Int) (b : Nat) : Prop := ∀ c, 0 ≤ c → c < 49 → 0 ≤ M (b + 3) c ∧ M (b + 3) c ≤ Big
theorem c_shorten {x y : Int} (hS : isSt T b) (hf : FlOk M b) (hw : WyOk M b) (x0 : 0 ≤ x) (x1 : x < M (b + 1) 0) (y0 : 0 ≤ y) (y1 : y < M (b + 1) 1) : Cl S 25 [vR (b + 1), vI x, vI y] (T, M) (some (vI (if shV M b x y < M (b + 3) (x + M (b + 1) 0 * y) then 1 else 0)), (T, um M (b + 3) (x + M (b + 1) 0 * y) (shV M b x y))) := by
  have h1 := cell_in x0 x1 y0 y1
  have h2 := hf.n
  obtain ⟨hW, hH, -⟩ := id hf
  have h3 := hw _ h1.1 (by omega)
  -- a neighbour's number fits
  have nb : ∀ u v : Int, 0 ≤ u → u < M (b + 1) 0 → 0 ≤ v → v < M (b + 1) 1 → 0 ≤ qI M b u v + M (b + 3) (u + M (b + 1) 0 * v) ∧ qI M b u v + M (b + 3) (u + M (b + 1) 0 * v) ≤ 1000000011 := by
    intro u v u0 u1 v0 v1
    have g1 := cell_in u0 u1 v0 v1
    have g2 := hw _ g1.1 (by omega)
    have g3 := qI_in hf u0 u1 v0 v1
    have g4 : (Big : Int) = 1000000000 := rfl
    omega
  have mi : ∀ (p : Prop) [Decidable p] (v o : Int), 0 ≤ v → v ≤ 1000000000 → (p → 0 ≤ o) → 0 ≤ minIf p v o ∧ minIf p v o ≤ 1000000000 := by
    intro p _ v o v0 v1 o0
    have g := minIf_le (p := p) (v := v) (o := o)
    rcases g.2.2 with e | ⟨hp, e⟩
    · omega
    · have := o0 hp
      omega
  have h3' : 0 ≤ M (b + 3) (x + M (b + 1) 0 * y) ∧ M (b + 3) (x + M (b + 1) 0 * y) ≤ 1000000000 := h3
  refine ⟨_, rfl, ?_⟩
  -- the end, with the least number known
  have k105 : ∀ v : Int, 0 ≤ v → v ≤ 1000000000 → ∀ x5 : Option AV, Rn S 25 105 ([], [some (vR (b + 1)), some (vI x), some (vI y), some (vI (x + M (b + 1) 0 * y)), some (vI v), x5], T, M) (some (vI (if v < M (b + 3) (x + M (b + 1) 0 * y) then 1 else 0)), (T, um M (b + 3) (x + M (b + 1) 0 * y) v)) := by
    intro v v0 v1 x5
    refine Rn.cge rfl (X_ild rfl <| X_ald rfl <| X_gr 1 7 hS.fl ⟨rfl, rfl⟩ rfl rfl <| X_ild rfl <| X_ia hS.wy (by first | omega | (simp (disch := omega) only [um_eq, um_na, um_ni, Int.toNat_natCast]; omega)) (by first | omega | (simp (disch := omega) only [um_eq, um_na, um_ni, Int.toNat_natCast]; omega)) rfl <| X_nil) (by first | omega | (simp (disch := omega) only [um_eq, um_na, um_ni, Int.toNat_natCast]; omega)) (by first | omega | (simp (disch := omega) only [um_eq, um_na, um_ni, Int.toNat_natCast]; omega)) (fun hc => ?_) (fun hc => ?_)
    · rw [if_neg (by omega)]
      refine Rn.fal rfl (X_i <| X_nil) ?_
      refine Rn.rz rfl (X_ist rfl (L' := [_, _, _, _, _, _]) rfl <| X_ald rfl <| X_gr 1 7 hS.fl ⟨rfl, rfl⟩ rfl rfl <| X_ild rfl <| X_ild rfl <| X_is hS.wy (by first | omega | (simp (disch := omega) only [um_eq, um_na, um_ni, Int.toNat_natCast]; omega)) (by first | omega | (simp (disch := omega) only [um_eq, um_na, um_ni, Int.toNat_natCast]; omega)) rfl <| X_ild rfl <| X_nil) rfl (by first | exact Or.inl rfl | exact Or.inr rfl | omega)
    · rw [if_pos (by omega)]
      refine Rn.jto rfl (X_i <| X_nil) ?_
      refine Rn.rz rfl (X_ist rfl (L' := [_, _, _, _, _, _]) rfl <| X_ald rfl <| X_gr 1 7 hS.fl ⟨rfl, rfl⟩ rfl rfl <| X_ild rfl <| X_ild rfl <| X_is hS.wy (by first | omega | (simp (disch := omega) only [um_eq, um_na, um_ni, Int.toNat_natCast]; omega)) (by first | omega | (simp (disch := omega) only [um_eq, um_na, um_ni, Int.toNat_natCast]; omega)) rfl <| X_ild rfl <| X_nil) rfl (by first | exact Or.inl rfl | exact Or.inr rfl | omega)
  have k80 : ∀ v : Int, 0 ≤ v → v ≤ 1000000000 → ∀ x5 : Option AV, Rn S 25 80 ([], [some (vR (b + 1)), some (vI x), some (vI y), some (vI (x + M (b + 1) 0 * y)), some (vI v), x5], T, M) (some (vI (if minIf (y < M (b + 1) 1 - 1) v (qI M b x (y + 1) + M (b + 3) (x + M (b + 1) 0 * (y + 1))) < M (b + 3) (x + M (b + 1) 0 * y) then 1 else 0)), (T, um M (b + 3) (x + M (b + 1) 0 * y) (minIf (y < M (b + 1) 1 - 1) v (qI M b x (y + 1) + M (b + 3) (x + M (b + 1) 0 * (y + 1)))))) := by
    intro v v0 v1 x5
    by_cases hp : y < M (b + 1) 1 - 1
    · have g := nb x (y + 1) x0 x1 (by omega) (by omega)
      have e : minIf (y < M (b + 1) 1 - 1) v (qI M b x (y + 1) + M (b + 3) (x + M (b + 1) 0 * (y + 1))) = if qI M b x (y + 1) + M (b + 3) (x + M (b + 1) 0 * (y + 1)) < v then qI M b x (y + 1) + M (b + 3) (x + M (b + 1) 0 * (y + 1)) else v := if_pos hp
      rw [e]
      refine Rn.cge rfl (X_ild rfl <| X_ald rfl <| X_gi 1 1 1 hS.fl ⟨rfl, rfl, rfl⟩ (Or.inl rfl) <| X_i <| X_sub <| X_nil) (by first | omega | (simp (disch := omega) only [um_eq, um_na, um_ni, Int.toNat_natCast]; omega)) (by first | omega | (simp (disch := omega) only [um_eq, um_na, um_ni, Int.toNat_natCast]; omega)) (fun hc => ?_) (fun hc => ?_)
      · exact absurd hc (by omega)
      · refine Rn.cal rfl (X_ild rfl <| X_ald rfl <| X_ild rfl <| X_ild rfl <| X_i <| X_add <| X_nil) (vs := [_, _, _]) (rest := [_]) rfl rfl rfl (rcv_v hS.fl (by decide)) (c_wayOver hS hf x0 x1 (by omega) (by omega)) ?_
        refine Rn.fal rfl (X_min (by first | omega | (simp (disch := omega) only [um_eq, um_na, um_ni, Int.toNat_natCast]; omega)) (by first | omega | (simp (disch := omega) only [um_eq, um_na, um_ni, Int.toNat_natCast]; omega)) rfl <| X_ist rfl (L' := [_, _, _, _, _, _]) rfl <| X_nil) ?_
        exact k105 _ (by split <;> omega) (by split <;> omega) _
    · have e : minIf (y < M (b + 1) 1 - 1) v (qI M b x (y + 1) + M (b + 3) (x + M (b + 1) 0 * (y + 1))) = v := if_neg hp
      rw [e]
      refine Rn.cge rfl (X_ild rfl <| X_ald rfl <| X_gi 1 1 1 hS.fl ⟨rfl, rfl, rfl⟩ (Or.inl rfl) <| X_i <| X_sub <| X_nil) (by first | omega | (simp (disch := omega) only [um_eq, um_na, um_ni, Int.toNat_natCast]; omega)) (by first | omega | (simp (disch := omega) only [um_eq, um_na, um_ni, Int.toNat_natCast]; omega)) (fun hc => ?_) (fun hc => ?_)
      · exact k105 v v0 v1 _
      · exact absurd hc (by omega)
  have k61 : ∀ v : Int, 0 ≤ v → v ≤ 1000000000 → ∀ x5 : Option AV, Rn S 25 61 ([], [some (vR (b + 1)), some (vI x), some (vI y), some (vI (x + M (b + 1) 0 * y)), some (vI v), x5], T, M) (some (vI (if minIf (y < M (b + 1) 1 - 1) (minIf (0 < y) v (qI M b x (y - 1) + M (b + 3) (x + M (b + 1) 0 * (y - 1)))) (qI M b x (y + 1) + M (b + 3) (x + M (b + 1) 0 * (y + 1))) < M (b + 3) (x + M (b + 1) 0 * y) then 1 else 0)), (T, um M (b + 3) (x + M (b + 1) 0 * y) (minIf (y < M (b + 1) 1 - 1) (minIf (0 < y) v (qI M b x (y - 1) + M (b + 3) (x + M (b + 1) 0 * (y - 1)))) (qI M b x (y + 1) + M (b + 3) (x + M (b + 1) 0 * (y + 1)))))) := by
    intro v v0 v1 x5
    have gm := mi (0 < y) v (qI M b x (y - 1) + M (b + 3) (x + M (b + 1) 0 * (y - 1))) v0 v1 (fun hp => (nb x (y - 1) x0 x1 (by omega) (by omega)).1)
    by_cases hp : 0 < y
    · have g := nb x (y - 1) x0 x1 (by omega) (by omega)
      have e : minIf (0 < y) v (qI M b x (y - 1) + M (b + 3) (x + M (b + 1) 0 * (y - 1))) = if qI M b x (y - 1) + M (b + 3) (x + M (b + 1) 0 * (y - 1)) < v then qI M b x (y - 1) + M (b + 3) (x + M (b + 1) 0 * (y - 1)) else v := if_pos hp
      refine Rn.ile rfl (X_ild rfl <| X_nil) (by first | omega | (simp (disch := omega) only [um_eq, um_na, um_ni, Int.toNat_natCast]; omega)) (fun hc => ?_) (fun hc => ?_)
      · exact absurd hc (by omega)
      · refine Rn.cal rfl (X_ild rfl <| X_ald rfl <| X_ild rfl <| X_ild rfl <| X_i <| X_sub <| X_nil) (vs := [_, _, _]) (rest := [_]) rfl rfl rfl (rcv_v hS.fl (by decide)) (c_wayOver hS hf x0 x1 (by omega) (by omega)) ?_
        refine Rn.fal rfl (X_min (by first | omega | (simp (disch := omega) only [um_eq, um_na, um_ni, Int.toNat_natCast]; omega)) (by first | omega | (simp (disch := omega) only [um_eq, um_na, um_ni, Int.toNat_natCast]; omega)) rfl <| X_ist rfl (L' := [_, _, _, _, _, _]) rfl <| X_nil) ?_
        rw [← e]
        exact k80 _ gm.1 gm.2 _
    · have e : minIf (0 < y) v (qI M b x (y - 1) + M (b + 3) (x + M (b + 1) 0 * (y - 1))) = v := if_neg hp
      rw [e]
      refine Rn.ile rfl (X_ild rfl <| X_nil) (by first | omega | (simp (disch := omega) only [um_eq, um_na, um_ni, Int.toNat_natCast]; omega)) (fun hc => ?_) (fun hc => ?_)
      · exact k80 v v0 v1 _
      · exact absurd hc (by omega)
  have k36 : ∀ v : Int, 0 ≤ v → v ≤ 1000000000 → ∀ x5 : Option AV, Rn S 25 36 ([], [some (vR (b + 1)), some (vI x), some (vI y), some (vI (x + M (b + 1) 0 * y)), some (vI v), x5], T, M) (some (vI (if minIf (y < M (b + 1) 1 - 1) (minIf (0 < y) (minIf (x < M (b + 1) 0 - 1) v (qI M b (x + 1) y + M (b + 3) (x + 1 + M (b + 1) 0 * y))) (qI M b x (y - 1) + M (b + 3) (x + M (b + 1) 0 * (y - 1)))) (qI M b x (y + 1) + M (b + 3) (x + M (b + 1) 0 * (y + 1))) < M (b + 3) (x + M (b + 1) 0 * y) then 1 else 0)), (T, um M (b + 3) (x + M (b + 1) 0 * y) (minIf (y < M (b + 1) 1 - 1) (minIf (0 < y) (minIf (x < M (b + 1) 0 - 1) v (qI M b (x + 1) y + M (b + 3) (x + 1 + M (b + 1) 0 * y))) (qI M b x (y - 1) + M (b + 3) (x + M (b + 1) 0 * (y - 1)))) (qI M b x (y + 1) + M (b + 3) (x + M (b + 1) 0 * (y + 1)))))) := by
    intro v v0 v1 x5
    have gm := mi (x < M (b + 1) 0 - 1) v (qI M b (x + 1) y + M (b + 3) (x + 1 + M (b + 1) 0 * y)) v0 v1 (fun hp => (nb (x + 1) y (by omega) (by omega) y0 y1).1)
    by_cases hp : x < M (b + 1) 0 - 1
    · have g := nb (x + 1) y (by omega) (by omega) y0 y1
      have e : minIf (x < M (b + 1) 0 - 1) v (qI M b (x + 1) y + M (b + 3) (x + 1 + M (b + 1) 0 * y)) = if qI M b (x + 1) y + M (b + 3) (x + 1 + M (b + 1) 0 * y) < v then qI M b (x + 1) y + M (b + 3) (x + 1 + M (b + 1) 0 * y) else v := if_pos hp
      refine Rn.cge rfl (X_ild rfl <| X_ald rfl <| X_gi 1 0 0 hS.fl ⟨rfl, rfl, rfl⟩ (Or.inl rfl) <| X_i <| X_sub <| X_nil) (by first | omega | (simp (disch := omega) only [um_eq, um_na, um_ni, Int.toNat_natCast]; omega)) (by first | omega | (simp (disch := omega) only [um_eq, um_na, um_ni, Int.toNat_natCast]; omega)) (fun hc => ?_) (fun hc => ?_)
      · exact absurd hc (by omega)
      · refine Rn.cal rfl (X_ild rfl <| X_ald rfl <| X_ild rfl <| X_i <| X_add <| X_ild rfl <| X_nil) (vs := [_, _, _]) (rest := [_]) rfl rfl rfl (rcv_v hS.fl (by decide)) (c_wayOver hS hf (by omega) (by omega) y0 y1) ?_
        refine Rn.fal rfl (X_min (by first | omega | (simp (disch := omega) only [um_eq, um_na, um_ni, Int.toNat_natCast]; omega)) (by first | omega | (simp (disch := omega) only [um_eq, um_na, um_ni, Int.toNat_natCast]; omega)) rfl <| X_ist rfl (L' := [_, _, _, _, _, _]) rfl <| X_nil) ?_
        rw [← e]
        exact k61 _ gm.1 gm.2 _
    · have e : minIf (x < M (b + 1) 0 - 1) v (qI M b (x + 1) y + M (b + 3) (x + 1 + M (b + 1) 0 * y)) = v := if_neg hp
      rw [e]
      refine Rn.cge rfl (X_ild rfl <| X_ald rfl <| X_gi 1 0 0 hS.fl ⟨rfl, rfl, rfl⟩ (Or.inl rfl) <| X_i <| X_sub <| X_nil) (by first | omega | (simp (disch := omega) only [um_eq, um_na, um_ni, Int.toNat_natCast]; omega)) (by first | omega | (simp (disch := omega) only [um_eq, um_na, um_ni, Int.toNat_natCast]; omega)) (fun hc => ?_) (fun hc => ?_)
      · exact k61 v v0 v1 _
      · exact absurd hc (by omega)
  unfold shV
  have gm := mi (0 < x) (M (b + 3) (x + M (b + 1) 0 * y)) (qI M b (x - 1) y + M (b + 3) (x - 1 + M (b + 1) 0 * y)) h3'.1 h3'.2 (fun hp => (nb (x - 1) y (by omega) (by omega) y0 y1).1)
  by_cases hp : 0 < x
  · have g := nb (x - 1) y (by omega) (by omega) y0 y1
    have e : minIf (0 < x) (M (b + 3) (x + M (b + 1) 0 * y)) (qI M b (x - 1) y + M (b + 3) (x - 1 + M (b + 1) 0 * y)) = if qI M b (x - 1) y + M (b + 3) (x - 1 + M (b + 1) 0 * y) < M (b + 3) (x + M (b + 1) 0 * y) then qI M b (x - 1) y + M (b + 3) (x - 1 + M (b + 1) 0 * y) else M (b + 3) (x + M (b + 1) 0 * y) := if_pos hp
    refine Rn.ile rfl (X_ild rfl <| X_ald rfl <| X_gi 1 0 0 hS.fl ⟨rfl, rfl, rfl⟩ (Or.inl rfl) <| X_ild rfl <| X_mul <| X_add <| X_ist rfl (L' := [_, _, _, _, _, _]) rfl <| X_ald rfl <| X_gr 1 7 hS.fl ⟨rfl, rfl⟩ rfl rfl <| X_ild rfl <| X_ia hS.wy (by first | omega | (simp (disch := omega) only [um_eq, um_na, um_ni, Int.toNat_natCast]; omega)) (by first | omega | (simp (disch := omega) only [um_eq, um_na, um_ni, Int.toNat_natCast]; omega)) rfl <| X_ist rfl (L' := [_, _, _, _, _, _]) rfl <| X_ild rfl <| X_nil) (by first | omega | (simp (disch := omega) only [um_eq, um_na, um_ni, Int.toNat_natCast]; omega)) (fun hc => ?_) (fun hc => ?_)
    · exact absurd hc (by omega)
    · refine Rn.cal rfl (X_ild rfl <| X_ald rfl <| X_ild rfl <| X_i <| X_sub <| X_ild rfl <| X_nil) (vs := [_, _, _]) (rest := [_]) rfl rfl rfl (rcv_v hS.fl (by decide)) (c_wayOver hS hf (by omega) (by omega) y0 y1) ?_
      refine Rn.fal rfl (X_min (by first | omega | (simp (disch := omega) only [um_eq, um_na, um_ni, Int.toNat_natCast]; omega)) (by first | omega | (simp (disch := omega) only [um_eq, um_na, um_ni, Int.toNat_natCast]; omega)) rfl <| X_ist rfl (L' := [_, _, _, _, _, _]) rfl <| X_nil) ?_
      rw [← e]
      exact k36 _ gm.1 gm.2 _
  · have e : minIf (0 < x) (M (b + 3) (x + M (b + 1) 0 * y)) (qI M b (x - 1) y + M (b + 3) (x - 1 + M (b + 1) 0 * y)) = M (b + 3) (x + M (b + 1) 0 * y) := if_neg hp
    rw [e]
    refine Rn.ile rfl (X_ild rfl <| X_ald rfl <| X_gi 1 0 0 hS.fl ⟨rfl, rfl, rfl⟩ (Or.inl rfl) <| X_ild rfl <| X_mul <| X_add <| X_ist rfl (L' := [_, _, _, _, _, _]) rfl <| X_ald rfl <| X_gr 1 7 hS.fl ⟨rfl, rfl⟩ rfl rfl <| X_ild rfl <| X_ia hS.wy (by first | omega | (simp (disch := omega) only [um_eq, um_na, um_ni, Int.toNat_natCast]; omega)) (by first | omega | (simp (disch := omega) only [um_eq, um_na, um_ni, Int.toNat_natCast]; omega)) rfl <| X_ist rfl (L' := [_, _, _, _, _, _]) rfl <| X_ild rfl <| X_nil) (by first | omega | (simp (disch := omega) only [um_eq, um_na, um_ni, Int.toNat_natCast]; omega)) (fun hc => ?_) (fun hc => ?_)
    · exact k36 _ h3'.1 h3'.2 _
    · exact absurd hc (by omega)
end Way
