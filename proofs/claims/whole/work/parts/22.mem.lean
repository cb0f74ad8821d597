/-! WRITES, AND THE SMALL METHODS OF FLOOR, NIGHT, SLEEPER, BEDS -/
theorem um_eq {M : Nat → Int → Int} {a : Nat} {i v : Int} : um M a i v a i = v := if_pos ⟨rfl, rfl⟩
theorem um_na {M : Nat → Int → Int} {a a' : Nat} {i j v : Int} (h : a' ≠ a) : um M a i v a' j = M a' j := if_neg (fun q => h q.1)
theorem um_ni {M : Nat → Int → Int} {a a' : Nat} {i j v : Int} (h : j ≠ i) : um M a i v a' j = M a' j := if_neg (fun q => h q.2)
section Mem
variable {S : List Int} {T : List Sh} {M : Nat → Int → Int} {b : Nat} {h : Hp}
theorem c_bhas {s : Int} (hS : isSt T b) (h0 : 0 ≤ M (b + 4) 1) (h4 : M (b + 4) 1 ≤ 4) (is : I32 s) : Cl S 3 [vR (b + 4), vI s] (T, M) (some (vI (if 0 ≤ s ∧ s ≤ M (b + 4) 1 - 1 then 1 else 0)), (T, M)) := by
  refine ⟨_, rfl, ?_⟩
  refine Rn.cal rfl (X_ild rfl <| X_i <| X_ald rfl <| X_gi 0 1 1 hS.be ⟨rfl, rfl, rfl⟩ (Or.inl rfl) <| X_i <| X_sub <| X_nil) (vs := [_, _, _]) (rest := []) rfl rfl rfl rfl (c_within is (by omega) (by omega)) ?_
  refine Rn.rz rfl (X_nil) rfl (by split <;> simp)
theorem c_fhas {c : Int} (hS : isSt T b) (hw : 1 ≤ M (b + 1) 0 ∧ M (b + 1) 0 ≤ 7) (hh : 1 ≤ M (b + 1) 1 ∧ M (b + 1) 1 ≤ 7) (ic : I32 c) : Cl S 16 [vR (b + 1), vI c] (T, M) (some (vI (if 0 ≤ c ∧ c ≤ M (b + 1) 0 * M (b + 1) 1 - 1 then 1 else 0)), (T, M)) := by
  have p1 : M (b + 1) 0 * M (b + 1) 1 ≤ 7 * 7 := Int.mul_le_mul hw.2 hh.2 (by omega) (by omega)
  have p0 : 0 ≤ M (b + 1) 0 * M (b + 1) 1 := Int.mul_nonneg (by omega) (by omega)
  refine ⟨_, rfl, ?_⟩
  refine Rn.cal rfl (X_ild rfl <| X_i <| X_ald rfl <| X_gi 1 0 0 hS.fl ⟨rfl, rfl, rfl⟩ (Or.inl rfl) <| X_ald rfl <| X_gi 1 1 1 hS.fl ⟨rfl, rfl, rfl⟩ (Or.inl rfl) <| X_mul <| X_i <| X_sub <| X_nil) (vs := [_, _, _]) (rest := []) rfl rfl rfl rfl (c_within ic (by omega) (by omega)) ?_
  refine Rn.rz rfl (X_nil) rfl (by split <;> simp)
theorem c_putSwitch {c : Int} (hS : isSt T b) : Cl S 17 [vR (b + 1), vI c] (T, M) (none, (T, um (um M (b + 1) 2 c) (b + 1) 8 (-1))) := by
  refine ⟨_, rfl, ?_⟩
  refine Rn.rv rfl (X_ald rfl <| X_ild rfl <| X_pi 1 2 2 hS.fl ⟨rfl, rfl, rfl⟩ (Or.inl rfl) <| X_ald rfl <| X_i <| X_pi 1 8 8 hS.fl ⟨rfl, rfl, rfl⟩ (Or.inl rfl) <| X_nil) rfl
theorem c_putBed {c : Int} (hS : isSt T b) : Cl S 18 [vR (b + 1), vI c] (T, M) (none, (T, um (um M (b + 1) 3 c) (b + 1) 8 (-1))) := by
  refine ⟨_, rfl, ?_⟩
  refine Rn.rv rfl (X_ald rfl <| X_ild rfl <| X_pi 1 3 3 hS.fl ⟨rfl, rfl, rfl⟩ (Or.inl rfl) <| X_ald rfl <| X_i <| X_pi 1 8 8 hS.fl ⟨rfl, rfl, rfl⟩ (Or.inl rfl) <| X_nil) rfl
theorem c_putThings {c n : Int} (hS : isSt T b) (c0 : 0 ≤ c) (c9 : c < 49) : Cl S 19 [vR (b + 1), vI c, vI n] (T, M) (none, (T, um (um M (b + 2) c n) (b + 1) 8 (-1))) := by
  refine ⟨_, rfl, ?_⟩
  refine Rn.rv rfl (X_ald rfl <| X_gr 1 6 hS.fl ⟨rfl, rfl⟩ rfl rfl <| X_ild rfl <| X_ild rfl <| X_is hS.th (by first | omega | (simp (disch := omega) only [um_eq, um_na, um_ni, Int.toNat_natCast]; omega)) (by first | omega | (simp (disch := omega) only [um_eq, um_na, um_ni, Int.toNat_natCast]; omega)) rfl <| X_ald rfl <| X_i <| X_pi 1 8 8 hS.fl ⟨rfl, rfl, rfl⟩ (Or.inl rfl) <| X_nil) rfl
theorem c_shineOn {c : Int} (hS : isSt T b) : Cl S 20 [vR (b + 1), vI c] (T, M) (none, (T, um (um M (b + 1) 4 c) (b + 1) 8 (-1))) := by
  refine ⟨_, rfl, ?_⟩
  refine Rn.rv rfl (X_ald rfl <| X_ild rfl <| X_pi 1 4 4 hS.fl ⟨rfl, rfl, rfl⟩ (Or.inl rfl) <| X_ald rfl <| X_i <| X_pi 1 8 8 hS.fl ⟨rfl, rfl, rfl⟩ (Or.inl rfl) <| X_nil) rfl
theorem c_endAt {t s u : Int} (hS : isSt T b) (hu : u = 0 ∨ u = 1) : Cl S 29 [vR (b + 26), vI t, vI s, vI u] (T, M) (none, (T, um (um (um M (b + 26) 0 t) (b + 26) 1 s) (b + 26) 2 u)) := by
  refine ⟨_, rfl, ?_⟩
  refine Rn.rv rfl (X_ald rfl <| X_ild rfl <| X_pi 2 0 0 hS.ni ⟨rfl, rfl, rfl⟩ (Or.inl rfl) <| X_ald rfl <| X_ild rfl <| X_pi 2 1 1 hS.ni ⟨rfl, rfl, rfl⟩ (Or.inl rfl) <| X_ald rfl <| X_ild rfl <| X_pi 2 2 2 hS.ni ⟨rfl, rfl, rfl⟩ (Or.inr ⟨rfl, (by first | omega | (simp (disch := omega) only [um_eq, um_na, um_ni, Int.toNat_natCast]; omega))⟩) <| X_nil) rfl
/-- the traits of one, as numbers that fit -/
abbrev TrOk (M : Nat → Int → Int) (a : Nat) : Prop := (0 ≤ M a 0 ∧ M a 0 ≤ 5) ∧ (0 ≤ M a 1 ∧ M a 1 ≤ 120) ∧ (0 ≤ M a 2 ∧ M a 2 ≤ 9) ∧ (0 ≤ M a 3 ∧ M a 3 ≤ 20) ∧ (0 ≤ M a 4 ∧ M a 4 ≤ 60) ∧ (-1 ≤ M a 5 ∧ M a 5 ≤ 120) ∧ (0 ≤ M a 6 ∧ M a 6 ≤ 100000) ∧ (0 ≤ M a 7 ∧ M a 7 ≤ 1000000000)
/-- is up anyhow: at his minute he reads no longer -/
abbrev upA (M : Nat → Int → Int) (a : Nat) : Prop := ¬ M a 5 = -1 ∧ M a 1 ≤ M a 5
theorem c_isUp {i : Nat} (hS : isSt T b) (hi : i < 4) (ht : TrOk M (b + 16 + 2 * i)) : Cl S 51 [vR (b + 15 + 2 * i)] (T, M) (some (vI (if upA M (b + 16 + 2 * i) then 1 else 0)), (T, M)) := by
  refine ⟨_, rfl, ?_⟩
  refine Rn.ceq rfl (X_ald rfl <| X_gr 5 0 (hS.se (by omega)) ⟨rfl, rfl⟩ rfl rfl <| X_i <| X_ia (hS.tr (by omega)) (by first | omega | (simp (disch := omega) only [um_eq, um_na, um_ni, Int.toNat_natCast]; omega)) (by first | omega | (simp (disch := omega) only [um_eq, um_na, um_ni, Int.toNat_natCast]; omega)) rfl <| X_i <| X_nil) (by first | omega | (simp (disch := omega) only [um_eq, um_na, um_ni, Int.toNat_natCast]; omega)) (by first | omega | (simp (disch := omega) only [um_eq, um_na, um_ni, Int.toNat_natCast]; omega)) (fun hc => ?_) (fun hc => ?_)
  · rw [if_neg (by omega)]
    refine Rn.fal rfl (X_i <| X_nil) ?_
    refine Rn.rz rfl (X_nil) rfl (by first | exact Or.inl rfl | exact Or.inr rfl | omega)
  · refine Rn.cgt rfl (X_ald rfl <| X_gr 5 0 (hS.se (by omega)) ⟨rfl, rfl⟩ rfl rfl <| X_i <| X_ia (hS.tr (by omega)) (by first | omega | (simp (disch := omega) only [um_eq, um_na, um_ni, Int.toNat_natCast]; omega)) (by first | omega | (simp (disch := omega) only [um_eq, um_na, um_ni, Int.toNat_natCast]; omega)) rfl <| X_ald rfl <| X_gr 5 0 (hS.se (by omega)) ⟨rfl, rfl⟩ rfl rfl <| X_i <| X_ia (hS.tr (by omega)) (by first | omega | (simp (disch := omega) only [um_eq, um_na, um_ni, Int.toNat_natCast]; omega)) (by first | omega | (simp (disch := omega) only [um_eq, um_na, um_ni, Int.toNat_natCast]; omega)) rfl <| X_nil) (by first | omega | (simp (disch := omega) only [um_eq, um_na, um_ni, Int.toNat_natCast]; omega)) (by first | omega | (simp (disch := omega) only [um_eq, um_na, um_ni, Int.toNat_natCast]; omega)) (fun hc => ?_) (fun hc => ?_)
    · rw [if_neg (by omega)]
      refine Rn.fal rfl (X_i <| X_nil) ?_
      refine Rn.rz rfl (X_nil) rfl (by first | exact Or.inl rfl | exact Or.inr rfl | omega)
    · rw [if_pos ⟨by omega, by omega⟩]
      refine Rn.jto rfl (X_i <| X_nil) ?_
      refine Rn.rz rfl (X_nil) rfl (by first | exact Or.inl rfl | exact Or.inr rfl | omega)
/-- what it costs one that the light went out in a minute -/
def lightC (M : Nat → Int → Int) (a : Nat) (t : Int) : Int := if t - M a 1 ≤ 0 then 3 * -(t - M a 1) else M a 2 * (t - M a 1)
theorem c_light {i : Nat} {t : Int} (hS : isSt T b) (hi : i < 4) (ht : TrOk M (b + 16 + 2 * i)) (t0 : 0 ≤ t) (t3 : t ≤ 300) : Cl S 52 [vR (b + 15 + 2 * i), vI t] (T, M) (some (vI (lightC M (b + 16 + 2 * i) t)), (T, M)) := by
  refine ⟨_, rfl, ?_⟩
  unfold lightC
  refine Rn.ile rfl (X_ild rfl <| X_ald rfl <| X_gr 5 0 (hS.se (by omega)) ⟨rfl, rfl⟩ rfl rfl <| X_i <| X_ia (hS.tr (by omega)) (by first | omega | (simp (disch := omega) only [um_eq, um_na, um_ni, Int.toNat_natCast]; omega)) (by first | omega | (simp (disch := omega) only [um_eq, um_na, um_ni, Int.toNat_natCast]; omega)) rfl <| X_sub <| X_ist rfl (L' := [_, _, _]) rfl <| X_ild rfl <| X_nil) (by first | omega | (simp (disch := omega) only [um_eq, um_na, um_ni, Int.toNat_natCast]; omega)) (fun hc => ?_) (fun hc => ?_)
  · rw [if_pos (by omega)]
    refine Rn.fal rfl (X_i <| X_ild rfl <| X_neg <| X_mul <| X_nil) ?_
    refine Rn.ri rfl (X_nil) rfl
  · rw [if_neg (by omega)]
    refine Rn.jto rfl (X_ald rfl <| X_gr 5 0 (hS.se (by omega)) ⟨rfl, rfl⟩ rfl rfl <| X_i <| X_ia (hS.tr (by omega)) (by first | omega | (simp (disch := omega) only [um_eq, um_na, um_ni, Int.toNat_natCast]; omega)) (by first | omega | (simp (disch := omega) only [um_eq, um_na, um_ni, Int.toNat_natCast]; omega)) rfl <| X_ild rfl <| X_mul <| X_nil) ?_
    refine Rn.ri rfl (X_nil) rfl
/-- how long one waits, by the least count -/
def waitC (M : Nat → Int → Int) (a : Nat) (l : Int) : Int :=
  if M a 0 = 1 then M a 4 + 5 * (M a 6 - l) else if M a 0 = 2 then 2 * (M a 4 + 5 * (M a 6 - l)) else if M a 0 = 3 then M a 4 / 2 else if M a 0 = 4 then 2 * (M a 4 + 5 * (M a 6 - l)) + 20 else if M a 0 = 5 then M a 4 / 2 + M a 1 / 4 else M a 4
theorem c_waits {i : Nat} {l : Int} (hS : isSt T b) (hi : i < 4) (ht : TrOk M (b + 16 + 2 * i)) : Cl S 50 [vR (b + 15 + 2 * i), vI l] (T, M) (some (vI (waitC M (b + 16 + 2 * i) l)), (T, M)) := by
  refine ⟨_, rfl, ?_⟩
  unfold waitC
  have h5 : M (b + 16 + 2 * i) 0 = 0 ∨ M (b + 16 + 2 * i) 0 = 1 ∨ M (b + 16 + 2 * i) 0 = 2 ∨ M (b + 16 + 2 * i) 0 = 3 ∨ M (b + 16 + 2 * i) 0 = 4 ∨ M (b + 16 + 2 * i) 0 = 5 := by omega
  rcases h5 with e | e | e | e | e | e
  · rw [if_neg (by omega), if_neg (by omega), if_neg (by omega), if_neg (by omega), if_neg (by omega)]
    refine Rn.swi (q' := 98) rfl (X_ald rfl <| X_gr 5 0 (hS.se (by omega)) ⟨rfl, rfl⟩ rfl rfl <| X_i <| X_ia (hS.tr (by omega)) (by first | omega | (simp (disch := omega) only [um_eq, um_na, um_ni, Int.toNat_natCast]; omega)) (by first | omega | (simp (disch := omega) only [um_eq, um_na, um_ni, Int.toNat_natCast]; omega)) rfl <| X_ist rfl (L' := [_, _, _, _, _, _]) rfl <| X_ild rfl <| X_i <| X_ald rfl <| X_gr 5 0 (hS.se (by omega)) ⟨rfl, rfl⟩ rfl rfl <| X_i <| X_ia (hS.tr (by omega)) (by first | omega | (simp (disch := omega) only [um_eq, um_na, um_ni, Int.toNat_natCast]; omega)) (by first | omega | (simp (disch := omega) only [um_eq, um_na, um_ni, Int.toNat_natCast]; omega)) rfl <| X_ild rfl <| X_sub <| X_mul <| X_add <| X_ist rfl (L' := [_, _, _, _, _, _]) rfl <| X_i <| X_ild rfl <| X_mul <| X_ist rfl (L' := [_, _, _, _, _, _]) rfl <| X_ild rfl <| X_i <| X_div (by first | omega | (simp (disch := omega) only [um_eq, um_na, um_ni, Int.toNat_natCast]; omega)) (by first | omega | (simp (disch := omega) only [um_eq, um_na, um_ni, Int.toNat_natCast]; omega)) <| X_ist rfl (L' := [_, _, _, _, _, _]) rfl <| X_ald rfl <| X_gr 5 0 (hS.se (by omega)) ⟨rfl, rfl⟩ rfl rfl <| X_i <| X_ia (hS.tr (by omega)) (by first | omega | (simp (disch := omega) only [um_eq, um_na, um_ni, Int.toNat_natCast]; omega)) (by first | omega | (simp (disch := omega) only [um_eq, um_na, um_ni, Int.toNat_natCast]; omega)) rfl <| X_nil) (by first | omega | (simp (disch := omega) only [um_eq, um_na, um_ni, Int.toNat_natCast]; omega)) (by first | rfl | (rw [e]; rfl)) ?_
    refine Rn.ri rfl (X_ild rfl <| X_nil) rfl
  · rw [if_pos e]
    refine Rn.swi (q' := 72) rfl (X_ald rfl <| X_gr 5 0 (hS.se (by omega)) ⟨rfl, rfl⟩ rfl rfl <| X_i <| X_ia (hS.tr (by omega)) (by first | omega | (simp (disch := omega) only [um_eq, um_na, um_ni, Int.toNat_natCast]; omega)) (by first | omega | (simp (disch := omega) only [um_eq, um_na, um_ni, Int.toNat_natCast]; omega)) rfl <| X_ist rfl (L' := [_, _, _, _, _, _]) rfl <| X_ild rfl <| X_i <| X_ald rfl <| X_gr 5 0 (hS.se (by omega)) ⟨rfl, rfl⟩ rfl rfl <| X_i <| X_ia (hS.tr (by omega)) (by first | omega | (simp (disch := omega) only [um_eq, um_na, um_ni, Int.toNat_natCast]; omega)) (by first | omega | (simp (disch := omega) only [um_eq, um_na, um_ni, Int.toNat_natCast]; omega)) rfl <| X_ild rfl <| X_sub <| X_mul <| X_add <| X_ist rfl (L' := [_, _, _, _, _, _]) rfl <| X_i <| X_ild rfl <| X_mul <| X_ist rfl (L' := [_, _, _, _, _, _]) rfl <| X_ild rfl <| X_i <| X_div (by first | omega | (simp (disch := omega) only [um_eq, um_na, um_ni, Int.toNat_natCast]; omega)) (by first | omega | (simp (disch := omega) only [um_eq, um_na, um_ni, Int.toNat_natCast]; omega)) <| X_ist rfl (L' := [_, _, _, _, _, _]) rfl <| X_ald rfl <| X_gr 5 0 (hS.se (by omega)) ⟨rfl, rfl⟩ rfl rfl <| X_i <| X_ia (hS.tr (by omega)) (by first | omega | (simp (disch := omega) only [um_eq, um_na, um_ni, Int.toNat_natCast]; omega)) (by first | omega | (simp (disch := omega) only [um_eq, um_na, um_ni, Int.toNat_natCast]; omega)) rfl <| X_nil) (by first | omega | (simp (disch := omega) only [um_eq, um_na, um_ni, Int.toNat_natCast]; omega)) (by first | rfl | (rw [e]; rfl)) ?_
    refine Rn.ri rfl (X_ild rfl <| X_nil) rfl
  · rw [if_neg (by omega), if_pos e]
    refine Rn.swi (q' := 74) rfl (X_ald rfl <| X_gr 5 0 (hS.se (by omega)) ⟨rfl, rfl⟩ rfl rfl <| X_i <| X_ia (hS.tr (by omega)) (by first | omega | (simp (disch := omega) only [um_eq, um_na, um_ni, Int.toNat_natCast]; omega)) (by first | omega | (simp (disch := omega) only [um_eq, um_na, um_ni, Int.toNat_natCast]; omega)) rfl <| X_ist rfl (L' := [_, _, _, _, _, _]) rfl <| X_ild rfl <| X_i <| X_ald rfl <| X_gr 5 0 (hS.se (by omega)) ⟨rfl, rfl⟩ rfl rfl <| X_i <| X_ia (hS.tr (by omega)) (by first | omega | (simp (disch := omega) only [um_eq, um_na, um_ni, Int.toNat_natCast]; omega)) (by first | omega | (simp (disch := omega) only [um_eq, um_na, um_ni, Int.toNat_natCast]; omega)) rfl <| X_ild rfl <| X_sub <| X_mul <| X_add <| X_ist rfl (L' := [_, _, _, _, _, _]) rfl <| X_i <| X_ild rfl <| X_mul <| X_ist rfl (L' := [_, _, _, _, _, _]) rfl <| X_ild rfl <| X_i <| X_div (by first | omega | (simp (disch := omega) only [um_eq, um_na, um_ni, Int.toNat_natCast]; omega)) (by first | omega | (simp (disch := omega) only [um_eq, um_na, um_ni, Int.toNat_natCast]; omega)) <| X_ist rfl (L' := [_, _, _, _, _, _]) rfl <| X_ald rfl <| X_gr 5 0 (hS.se (by omega)) ⟨rfl, rfl⟩ rfl rfl <| X_i <| X_ia (hS.tr (by omega)) (by first | omega | (simp (disch := omega) only [um_eq, um_na, um_ni, Int.toNat_natCast]; omega)) (by first | omega | (simp (disch := omega) only [um_eq, um_na, um_ni, Int.toNat_natCast]; omega)) rfl <| X_nil) (by first | omega | (simp (disch := omega) only [um_eq, um_na, um_ni, Int.toNat_natCast]; omega)) (by first | rfl | (rw [e]; rfl)) ?_
    refine Rn.ri rfl (X_ild rfl <| X_nil) rfl
  · rw [if_neg (by omega), if_neg (by omega), if_pos e]
    refine Rn.swi (q' := 77) rfl (X_ald rfl <| X_gr 5 0 (hS.se (by omega)) ⟨rfl, rfl⟩ rfl rfl <| X_i <| X_ia (hS.tr (by omega)) (by first | omega | (simp (disch := omega) only [um_eq, um_na, um_ni, Int.toNat_natCast]; omega)) (by first | omega | (simp (disch := omega) only [um_eq, um_na, um_ni, Int.toNat_natCast]; omega)) rfl <| X_ist rfl (L' := [_, _, _, _, _, _]) rfl <| X_ild rfl <| X_i <| X_ald rfl <| X_gr 5 0 (hS.se (by omega)) ⟨rfl, rfl⟩ rfl rfl <| X_i <| X_ia (hS.tr (by omega)) (by first | omega | (simp (disch := omega) only [um_eq, um_na, um_ni, Int.toNat_natCast]; omega)) (by first | omega | (simp (disch := omega) only [um_eq, um_na, um_ni, Int.toNat_natCast]; omega)) rfl <| X_ild rfl <| X_sub <| X_mul <| X_add <| X_ist rfl (L' := [_, _, _, _, _, _]) rfl <| X_i <| X_ild rfl <| X_mul <| X_ist rfl (L' := [_, _, _, _, _, _]) rfl <| X_ild rfl <| X_i <| X_div (by first | omega | (simp (disch := omega) only [um_eq, um_na, um_ni, Int.toNat_natCast]; omega)) (by first | omega | (simp (disch := omega) only [um_eq, um_na, um_ni, Int.toNat_natCast]; omega)) <| X_ist rfl (L' := [_, _, _, _, _, _]) rfl <| X_ald rfl <| X_gr 5 0 (hS.se (by omega)) ⟨rfl, rfl⟩ rfl rfl <| X_i <| X_ia (hS.tr (by omega)) (by first | omega | (simp (disch := omega) only [um_eq, um_na, um_ni, Int.toNat_natCast]; omega)) (by first | omega | (simp (disch := omega) only [um_eq, um_na, um_ni, Int.toNat_natCast]; omega)) rfl <| X_nil) (by first | omega | (simp (disch := omega) only [um_eq, um_na, um_ni, Int.toNat_natCast]; omega)) (by first | rfl | (rw [e]; rfl)) ?_
    refine Rn.ri rfl (X_ild rfl <| X_nil) rfl
  · rw [if_neg (by omega), if_neg (by omega), if_neg (by omega), if_pos e]
    refine Rn.swi (q' := 80) rfl (X_ald rfl <| X_gr 5 0 (hS.se (by omega)) ⟨rfl, rfl⟩ rfl rfl <| X_i <| X_ia (hS.tr (by omega)) (by first | omega | (simp (disch := omega) only [um_eq, um_na, um_ni, Int.toNat_natCast]; omega)) (by first | omega | (simp (disch := omega) only [um_eq, um_na, um_ni, Int.toNat_natCast]; omega)) rfl <| X_ist rfl (L' := [_, _, _, _, _, _]) rfl <| X_ild rfl <| X_i <| X_ald rfl <| X_gr 5 0 (hS.se (by omega)) ⟨rfl, rfl⟩ rfl rfl <| X_i <| X_ia (hS.tr (by omega)) (by first | omega | (simp (disch := omega) only [um_eq, um_na, um_ni, Int.toNat_natCast]; omega)) (by first | omega | (simp (disch := omega) only [um_eq, um_na, um_ni, Int.toNat_natCast]; omega)) rfl <| X_ild rfl <| X_sub <| X_mul <| X_add <| X_ist rfl (L' := [_, _, _, _, _, _]) rfl <| X_i <| X_ild rfl <| X_mul <| X_ist rfl (L' := [_, _, _, _, _, _]) rfl <| X_ild rfl <| X_i <| X_div (by first | omega | (simp (disch := omega) only [um_eq, um_na, um_ni, Int.toNat_natCast]; omega)) (by first | omega | (simp (disch := omega) only [um_eq, um_na, um_ni, Int.toNat_natCast]; omega)) <| X_ist rfl (L' := [_, _, _, _, _, _]) rfl <| X_ald rfl <| X_gr 5 0 (hS.se (by omega)) ⟨rfl, rfl⟩ rfl rfl <| X_i <| X_ia (hS.tr (by omega)) (by first | omega | (simp (disch := omega) only [um_eq, um_na, um_ni, Int.toNat_natCast]; omega)) (by first | omega | (simp (disch := omega) only [um_eq, um_na, um_ni, Int.toNat_natCast]; omega)) rfl <| X_nil) (by first | omega | (simp (disch := omega) only [um_eq, um_na, um_ni, Int.toNat_natCast]; omega)) (by first | rfl | (rw [e]; rfl)) ?_
    refine Rn.ri rfl (X_ild rfl <| X_i <| X_add <| X_nil) rfl
  · rw [if_neg (by omega), if_neg (by omega), if_neg (by omega), if_neg (by omega), if_pos e]
    refine Rn.swi (q' := 86) rfl (X_ald rfl <| X_gr 5 0 (hS.se (by omega)) ⟨rfl, rfl⟩ rfl rfl <| X_i <| X_ia (hS.tr (by omega)) (by first | omega | (simp (disch := omega) only [um_eq, um_na, um_ni, Int.toNat_natCast]; omega)) (by first | omega | (simp (disch := omega) only [um_eq, um_na, um_ni, Int.toNat_natCast]; omega)) rfl <| X_ist rfl (L' := [_, _, _, _, _, _]) rfl <| X_ild rfl <| X_i <| X_ald rfl <| X_gr 5 0 (hS.se (by omega)) ⟨rfl, rfl⟩ rfl rfl <| X_i <| X_ia (hS.tr (by omega)) (by first | omega | (simp (disch := omega) only [um_eq, um_na, um_ni, Int.toNat_natCast]; omega)) (by first | omega | (simp (disch := omega) only [um_eq, um_na, um_ni, Int.toNat_natCast]; omega)) rfl <| X_ild rfl <| X_sub <| X_mul <| X_add <| X_ist rfl (L' := [_, _, _, _, _, _]) rfl <| X_i <| X_ild rfl <| X_mul <| X_ist rfl (L' := [_, _, _, _, _, _]) rfl <| X_ild rfl <| X_i <| X_div (by first | omega | (simp (disch := omega) only [um_eq, um_na, um_ni, Int.toNat_natCast]; omega)) (by first | omega | (simp (disch := omega) only [um_eq, um_na, um_ni, Int.toNat_natCast]; omega)) <| X_ist rfl (L' := [_, _, _, _, _, _]) rfl <| X_ald rfl <| X_gr 5 0 (hS.se (by omega)) ⟨rfl, rfl⟩ rfl rfl <| X_i <| X_ia (hS.tr (by omega)) (by first | omega | (simp (disch := omega) only [um_eq, um_na, um_ni, Int.toNat_natCast]; omega)) (by first | omega | (simp (disch := omega) only [um_eq, um_na, um_ni, Int.toNat_natCast]; omega)) rfl <| X_nil) (by first | omega | (simp (disch := omega) only [um_eq, um_na, um_ni, Int.toNat_natCast]; omega)) (by first | rfl | (rw [e]; rfl)) ?_
    refine Rn.ri rfl (X_ild rfl <| X_ald rfl <| X_gr 5 0 (hS.se (by omega)) ⟨rfl, rfl⟩ rfl rfl <| X_i <| X_ia (hS.tr (by omega)) (by first | omega | (simp (disch := omega) only [um_eq, um_na, um_ni, Int.toNat_natCast]; omega)) (by first | omega | (simp (disch := omega) only [um_eq, um_na, um_ni, Int.toNat_natCast]; omega)) rfl <| X_i <| X_div (by first | omega | (simp (disch := omega) only [um_eq, um_na, um_ni, Int.toNat_natCast]; omega)) (by first | omega | (simp (disch := omega) only [um_eq, um_na, um_ni, Int.toNat_natCast]; omega)) <| X_add <| X_nil) rfl
/-- the least count -/
def lstC (M : Nat → Int → Int) (b : Nat) : Nat → Int
  | 0 => 1000000000
  | n + 1 => if M (b + 16 + 2 * n) 6 < lstC M b n then M (b + 16 + 2 * n) 6 else lstC M b n
theorem lstC_in {n : Nat} (hn : n ≤ 4) (ht : ∀ i, i < n → TrOk M (b + 16 + 2 * i)) : 0 ≤ lstC M b n ∧ lstC M b n ≤ 1000000000 := by
  induction n with
  | zero => unfold lstC; omega
  | succ n ih =>
    have h1 := ih (by omega) (fun i hi => ht i (by omega))
    have h2 := ht n (by omega)
    unfold lstC
    split <;> omega
theorem c_least (hS : isSt T b) (h0 : 0 ≤ M (b + 4) 1) (h4 : M (b + 4) 1 ≤ 4) (ht : ∀ i : Nat, (i : Int) < M (b + 4) 1 → TrOk M (b + 16 + 2 * i)) : Cl S 5 [vR (b + 4)] (T, M) (some (vI (lstC M b (M (b + 4) 1).toNat)), (T, M)) := by
  refine ⟨_, rfl, ?_⟩
  refine Rn.fal rfl (X_i <| X_ist rfl (L' := [_, _, _]) rfl <| X_i <| X_ist rfl (L' := [_, _, _]) rfl <| X_nil) ?_
  have loop : ∀ (k i : Nat), i + k = (M (b + 4) 1).toNat → Rn S 5 5 ([], [some (vR (b + 4)), some (vI (lstC M b i)), some (vI (i : Int))], T, M) (some (vI (lstC M b (M (b + 4) 1).toNat)), (T, M)) := by
    intro k
    induction k with
    | zero =>
      intro i hi
      refine Rn.cge rfl (X_ild rfl <| X_ald rfl <| X_gi 0 1 1 hS.be ⟨rfl, rfl, rfl⟩ (Or.inl rfl) <| X_nil) (by first | omega | (simp (disch := omega) only [um_eq, um_na, um_ni, Int.toNat_natCast]; omega)) (by first | omega | (simp (disch := omega) only [um_eq, um_na, um_ni, Int.toNat_natCast]; omega)) (fun hc => ?_) (fun hc => ?_)
      · have e : i = (M (b + 4) 1).toNat := by omega
        rw [e]
        refine Rn.ri rfl (X_ild rfl <| X_nil) rfl
      · exact absurd hc (by omega)
    | succ k ih =>
      intro i hi
      have l1 := lstC_in (M := M) (b := b) (n := i) (by omega) (fun j hj => ht j (by omega))
      have l2 := ht i (by omega)
      refine Rn.cge rfl (X_ild rfl <| X_ald rfl <| X_gi 0 1 1 hS.be ⟨rfl, rfl, rfl⟩ (Or.inl rfl) <| X_nil) (by first | omega | (simp (disch := omega) only [um_eq, um_na, um_ni, Int.toNat_natCast]; omega)) (by first | omega | (simp (disch := omega) only [um_eq, um_na, um_ni, Int.toNat_natCast]; omega)) (fun hc => ?_) (fun hc => ?_)
      · exact absurd hc (by omega)
      · refine Rn.jto rfl (X_ild rfl <| X_ald rfl <| X_gr 0 0 hS.be ⟨rfl, rfl⟩ rfl rfl <| X_ild rfl <| X_aa hS.sl (by decide) (by first | omega | (simp (disch := omega) only [um_eq, um_na, um_ni, Int.toNat_natCast]; omega)) (by first | omega | (simp (disch := omega) only [um_eq, um_na, um_ni, Int.toNat_natCast]; omega)) rfl (rSl_at (by omega)) <| X_gr 5 0 (hS.se (by omega)) ⟨rfl, rfl⟩ rfl rfl <| X_i <| X_ia (hS.tr (by omega)) (by first | omega | (simp (disch := omega) only [um_eq, um_na, um_ni, Int.toNat_natCast]; omega)) (by first | omega | (simp (disch := omega) only [um_eq, um_na, um_ni, Int.toNat_natCast]; omega)) rfl <| X_min (by first | omega | (simp (disch := omega) only [um_eq, um_na, um_ni, Int.toNat_natCast]; omega)) (by first | omega | (simp (disch := omega) only [um_eq, um_na, um_ni, Int.toNat_natCast]; omega)) rfl <| X_ist rfl (L' := [_, _, _]) rfl <| X_inc rfl (L' := [_, _, _]) rfl <| X_nil) ?_
        exact ih (i + 1) (by omega)
  exact loop (M (b + 4) 1).toNat 0 (by omega)
theorem c_felt {i : Nat} (hS : isSt T b) (h0 : 0 ≤ M (b + 4) 1) (h4 : M (b + 4) 1 ≤ 4) (hi : i < 4) : Cl S 7 [vR (b + 4), vI (i : Int)] (T, M) (some (vI (3 * M (b + 16 + 2 * i) 6 - sumT M b 6 (M (b + 4) 1).toNat)), (T, M)) := by
  refine ⟨_, rfl, ?_⟩
  refine Rn.cal rfl (X_i <| X_ald rfl <| X_gr 0 0 hS.be ⟨rfl, rfl⟩ rfl rfl <| X_ild rfl <| X_aa hS.sl (by decide) (by first | omega | (simp (disch := omega) only [um_eq, um_na, um_ni, Int.toNat_natCast]; omega)) (by first | omega | (simp (disch := omega) only [um_eq, um_na, um_ni, Int.toNat_natCast]; omega)) rfl (rSl_at (by omega)) <| X_gr 5 0 (hS.se (by omega)) ⟨rfl, rfl⟩ rfl rfl <| X_i <| X_ia (hS.tr (by omega)) (by first | omega | (simp (disch := omega) only [um_eq, um_na, um_ni, Int.toNat_natCast]; omega)) (by first | omega | (simp (disch := omega) only [um_eq, um_na, um_ni, Int.toNat_natCast]; omega)) rfl <| X_mul <| X_ald rfl <| X_i <| X_nil) (vs := [_, _]) (rest := [_]) rfl rfl rfl (rcv_v hS.be (by decide)) (c_sum hS h0 h4 (by omega) (by omega)) ?_
  refine Rn.ri rfl (X_sub <| X_nil) rfl
theorem c_bnew (hS : isSt T b) : Cl S 1 [vR (b + 4)] (T, M) (none, (T, um (um (um M (b + 4) 1 0) (b + 4) 2 0) (b + 4) 3 0)) := by
  refine ⟨_, rfl, ?_⟩
  refine Rn.rv rfl (X_ald rfl <| X_i <| X_pi 0 1 1 hS.be ⟨rfl, rfl, rfl⟩ (Or.inl rfl) <| X_ald rfl <| X_i <| X_pi 0 2 2 hS.be ⟨rfl, rfl, rfl⟩ (Or.inl rfl) <| X_ald rfl <| X_i <| X_pi 0 3 3 hS.be ⟨rfl, rfl, rfl⟩ (Or.inl rfl) <| X_nil) rfl
end Mem
