/-! THE MODEL'S SLEEPERS, SEEN AS THE CLASS HAS THEM -/
/-- the model's working numbers as traits of sleepers at 16 + 2 i -/
def V (M : Nat → Int → Int) : Nat → Int → Int := fun a k => if k = 5 then M 82 (((a - 16) / 2 : Nat) : Int) else if k = 6 then M 83 (((a - 16) / 2 : Nat) : Int) else if k = 7 then M 84 (((a - 16) / 2 : Nat) : Int) else M 77 (59 + 4 * k + (((a - 16) / 2 : Nat) : Int))
section Mwaits
variable {S : List Int} {T : List Sh} {M : Nat → Int → Int} {h : Hp}
theorem V_ix (i : Nat) : (0 + 16 + 2 * i - 16) / 2 = i := by omega
theorem V_5 (i : Nat) : V M (0 + 16 + 2 * i) 5 = M 82 (i : Int) := by
  unfold V
  rw [if_pos rfl, V_ix]
theorem V_6 (i : Nat) : V M (0 + 16 + 2 * i) 6 = M 83 (i : Int) := by
  unfold V
  rw [if_neg (by omega), if_pos rfl, V_ix]
theorem V_7 (i : Nat) : V M (0 + 16 + 2 * i) 7 = M 84 (i : Int) := by
  unfold V
  rw [if_neg (by omega), if_neg (by omega), if_pos rfl, V_ix]
theorem V_k (i : Nat) (k : Int) (h : k < 5) : V M (0 + 16 + 2 * i) k = M 77 (59 + 4 * k + (i : Int)) := by
  unfold V
  rw [if_neg (by omega), if_neg (by omega), if_neg (by omega), V_ix]
theorem V_0 (i : Nat) : V M (0 + 16 + 2 * i) 0 = M 77 (59 + (i : Int)) := V_k i 0 (by omega)
theorem V_1 (i : Nat) : V M (0 + 16 + 2 * i) 1 = M 77 (63 + (i : Int)) := V_k i 1 (by omega)
theorem V_2 (i : Nat) : V M (0 + 16 + 2 * i) 2 = M 77 (67 + (i : Int)) := V_k i 2 (by omega)
theorem V_3 (i : Nat) : V M (0 + 16 + 2 * i) 3 = M 77 (71 + (i : Int)) := V_k i 3 (by omega)
theorem V_4 (i : Nat) : V M (0 + 16 + 2 * i) 4 = M 77 (75 + (i : Int)) := V_k i 4 (by omega)
/-- what the model reckons with is in range -/
def MoOk (M : Nat → Int → Int) : Prop := (0 ≤ M 77 6 ∧ M 77 6 ≤ 4) ∧ ∀ i : Nat, (i : Int) < M 77 6 → TrOk (V M) (0 + 16 + 2 * i)
theorem c_mwaits {s : Nat} (hM : isM T) (hm : MoOk M) (hs : (s : Int) < M 77 6) : Cl S 157 [vR 76, vI (s : Int)] (T, M) (some (vI (waitC (V M) (0 + 16 + 2 * s) (lstC (V M) 0 (M 77 6).toNat))), (T, M)) := by
  obtain ⟨m1, m2⟩ := hm
  have l0 := lstC_in (M := V M) (b := 0) (n := (M 77 6).toNat) (by omega) (fun i hi => m2 i (by omega))
  have hts := m2 s hs
  unfold TrOk at hts
  rw [V_0, V_1, V_2, V_3, V_4, V_5, V_6, V_7] at hts
  -- behind the loop, with the least known
  have tail : ∀ (l : Int) (x3 x4 : Option AV), Rn S 157 43 ([], [some (vR 76), some (vI (s : Int)), some (vI l), x3, x4], T, M) (some (vI (waitC (V M) (0 + 16 + 2 * s) l)), (T, M)) := by
    intro l x3 x4
    unfold waitC
    rw [V_0, V_1, V_4, V_6]
    have h5 : M 77 (59 + s) = 0 ∨ M 77 (59 + s) = 1 ∨ M 77 (59 + s) = 2 ∨ M 77 (59 + s) = 3 ∨ M 77 (59 + s) = 4 ∨ M 77 (59 + s) = 5 := by omega
    rcases h5 with e | e | e | e | e | e
    · rw [if_neg (by omega), if_neg (by omega), if_neg (by omega), if_neg (by omega), if_neg (by omega)]
      refine Rn.swi (q' := 148) rfl (X_ald rfl <| X_gr 8 0 hM.ob ⟨rfl, rfl⟩ rfl rfl <| X_i <| X_ild rfl <| X_add <| X_ia hM.w (by first | omega | (simp (disch := omega) only [um_eq, um_na, um_ni, Int.toNat_natCast]; omega)) (by first | omega | (simp (disch := omega) only [um_eq, um_na, um_ni, Int.toNat_natCast]; omega)) rfl <| X_ist rfl (L' := [_, _, _, _, _]) rfl <| X_ild rfl <| X_i <| X_ald rfl <| X_gr 8 15 hM.ob ⟨rfl, rfl⟩ rfl rfl <| X_ild rfl <| X_ia hM.co (by first | omega | (simp (disch := omega) only [um_eq, um_na, um_ni, Int.toNat_natCast]; omega)) (by first | omega | (simp (disch := omega) only [um_eq, um_na, um_ni, Int.toNat_natCast]; omega)) rfl <| X_ild rfl <| X_sub <| X_mul <| X_add <| X_ist rfl (L' := [_, _, _, _, _]) rfl <| X_ald rfl <| X_gr 8 0 hM.ob ⟨rfl, rfl⟩ rfl rfl <| X_i <| X_ild rfl <| X_add <| X_ia hM.w (by first | omega | (simp (disch := omega) only [um_eq, um_na, um_ni, Int.toNat_natCast]; omega)) (by first | omega | (simp (disch := omega) only [um_eq, um_na, um_ni, Int.toNat_natCast]; omega)) rfl <| X_nil) (by first | omega | (simp (disch := omega) only [um_eq, um_na, um_ni, Int.toNat_natCast]; omega)) (by first | rfl | (rw [e]; rfl)) ?_
      refine Rn.ri rfl (X_ild rfl <| X_nil) rfl
    · rw [if_pos e]
      refine Rn.swi (q' := 112) rfl (X_ald rfl <| X_gr 8 0 hM.ob ⟨rfl, rfl⟩ rfl rfl <| X_i <| X_ild rfl <| X_add <| X_ia hM.w (by first | omega | (simp (disch := omega) only [um_eq, um_na, um_ni, Int.toNat_natCast]; omega)) (by first | omega | (simp (disch := omega) only [um_eq, um_na, um_ni, Int.toNat_natCast]; omega)) rfl <| X_ist rfl (L' := [_, _, _, _, _]) rfl <| X_ild rfl <| X_i <| X_ald rfl <| X_gr 8 15 hM.ob ⟨rfl, rfl⟩ rfl rfl <| X_ild rfl <| X_ia hM.co (by first | omega | (simp (disch := omega) only [um_eq, um_na, um_ni, Int.toNat_natCast]; omega)) (by first | omega | (simp (disch := omega) only [um_eq, um_na, um_ni, Int.toNat_natCast]; omega)) rfl <| X_ild rfl <| X_sub <| X_mul <| X_add <| X_ist rfl (L' := [_, _, _, _, _]) rfl <| X_ald rfl <| X_gr 8 0 hM.ob ⟨rfl, rfl⟩ rfl rfl <| X_i <| X_ild rfl <| X_add <| X_ia hM.w (by first | omega | (simp (disch := omega) only [um_eq, um_na, um_ni, Int.toNat_natCast]; omega)) (by first | omega | (simp (disch := omega) only [um_eq, um_na, um_ni, Int.toNat_natCast]; omega)) rfl <| X_nil) (by first | omega | (simp (disch := omega) only [um_eq, um_na, um_ni, Int.toNat_natCast]; omega)) (by first | rfl | (rw [e]; rfl)) ?_
      refine Rn.ri rfl (X_ild rfl <| X_nil) rfl
    · rw [if_neg (by omega), if_pos e]
      refine Rn.swi (q' := 115) rfl (X_ald rfl <| X_gr 8 0 hM.ob ⟨rfl, rfl⟩ rfl rfl <| X_i <| X_ild rfl <| X_add <| X_ia hM.w (by first | omega | (simp (disch := omega) only [um_eq, um_na, um_ni, Int.toNat_natCast]; omega)) (by first | omega | (simp (disch := omega) only [um_eq, um_na, um_ni, Int.toNat_natCast]; omega)) rfl <| X_ist rfl (L' := [_, _, _, _, _]) rfl <| X_ild rfl <| X_i <| X_ald rfl <| X_gr 8 15 hM.ob ⟨rfl, rfl⟩ rfl rfl <| X_ild rfl <| X_ia hM.co (by first | omega | (simp (disch := omega) only [um_eq, um_na, um_ni, Int.toNat_natCast]; omega)) (by first | omega | (simp (disch := omega) only [um_eq, um_na, um_ni, Int.toNat_natCast]; omega)) rfl <| X_ild rfl <| X_sub <| X_mul <| X_add <| X_ist rfl (L' := [_, _, _, _, _]) rfl <| X_ald rfl <| X_gr 8 0 hM.ob ⟨rfl, rfl⟩ rfl rfl <| X_i <| X_ild rfl <| X_add <| X_ia hM.w (by first | omega | (simp (disch := omega) only [um_eq, um_na, um_ni, Int.toNat_natCast]; omega)) (by first | omega | (simp (disch := omega) only [um_eq, um_na, um_ni, Int.toNat_natCast]; omega)) rfl <| X_nil) (by first | omega | (simp (disch := omega) only [um_eq, um_na, um_ni, Int.toNat_natCast]; omega)) (by first | rfl | (rw [e]; rfl)) ?_
      refine Rn.ri rfl (X_i <| X_ild rfl <| X_mul <| X_nil) rfl
    · rw [if_neg (by omega), if_neg (by omega), if_pos e]
      refine Rn.swi (q' := 120) rfl (X_ald rfl <| X_gr 8 0 hM.ob ⟨rfl, rfl⟩ rfl rfl <| X_i <| X_ild rfl <| X_add <| X_ia hM.w (by first | omega | (simp (disch := omega) only [um_eq, um_na, um_ni, Int.toNat_natCast]; omega)) (by first | omega | (simp (disch := omega) only [um_eq, um_na, um_ni, Int.toNat_natCast]; omega)) rfl <| X_ist rfl (L' := [_, _, _, _, _]) rfl <| X_ild rfl <| X_i <| X_ald rfl <| X_gr 8 15 hM.ob ⟨rfl, rfl⟩ rfl rfl <| X_ild rfl <| X_ia hM.co (by first | omega | (simp (disch := omega) only [um_eq, um_na, um_ni, Int.toNat_natCast]; omega)) (by first | omega | (simp (disch := omega) only [um_eq, um_na, um_ni, Int.toNat_natCast]; omega)) rfl <| X_ild rfl <| X_sub <| X_mul <| X_add <| X_ist rfl (L' := [_, _, _, _, _]) rfl <| X_ald rfl <| X_gr 8 0 hM.ob ⟨rfl, rfl⟩ rfl rfl <| X_i <| X_ild rfl <| X_add <| X_ia hM.w (by first | omega | (simp (disch := omega) only [um_eq, um_na, um_ni, Int.toNat_natCast]; omega)) (by first | omega | (simp (disch := omega) only [um_eq, um_na, um_ni, Int.toNat_natCast]; omega)) rfl <| X_nil) (by first | omega | (simp (disch := omega) only [um_eq, um_na, um_ni, Int.toNat_natCast]; omega)) (by first | rfl | (rw [e]; rfl)) ?_
      refine Rn.ri rfl (X_ild rfl <| X_i <| X_div (by first | omega | (simp (disch := omega) only [um_eq, um_na, um_ni, Int.toNat_natCast]; omega)) (by first | omega | (simp (disch := omega) only [um_eq, um_na, um_ni, Int.toNat_natCast]; omega)) <| X_nil) rfl
    · rw [if_neg (by omega), if_neg (by omega), if_neg (by omega), if_pos e, Int.add_comm]
      refine Rn.swi (q' := 124) rfl (X_ald rfl <| X_gr 8 0 hM.ob ⟨rfl, rfl⟩ rfl rfl <| X_i <| X_ild rfl <| X_add <| X_ia hM.w (by first | omega | (simp (disch := omega) only [um_eq, um_na, um_ni, Int.toNat_natCast]; omega)) (by first | omega | (simp (disch := omega) only [um_eq, um_na, um_ni, Int.toNat_natCast]; omega)) rfl <| X_ist rfl (L' := [_, _, _, _, _]) rfl <| X_ild rfl <| X_i <| X_ald rfl <| X_gr 8 15 hM.ob ⟨rfl, rfl⟩ rfl rfl <| X_ild rfl <| X_ia hM.co (by first | omega | (simp (disch := omega) only [um_eq, um_na, um_ni, Int.toNat_natCast]; omega)) (by first | omega | (simp (disch := omega) only [um_eq, um_na, um_ni, Int.toNat_natCast]; omega)) rfl <| X_ild rfl <| X_sub <| X_mul <| X_add <| X_ist rfl (L' := [_, _, _, _, _]) rfl <| X_ald rfl <| X_gr 8 0 hM.ob ⟨rfl, rfl⟩ rfl rfl <| X_i <| X_ild rfl <| X_add <| X_ia hM.w (by first | omega | (simp (disch := omega) only [um_eq, um_na, um_ni, Int.toNat_natCast]; omega)) (by first | omega | (simp (disch := omega) only [um_eq, um_na, um_ni, Int.toNat_natCast]; omega)) rfl <| X_nil) (by first | omega | (simp (disch := omega) only [um_eq, um_na, um_ni, Int.toNat_natCast]; omega)) (by first | rfl | (rw [e]; rfl)) ?_
      refine Rn.ri rfl (X_i <| X_i <| X_ild rfl <| X_mul <| X_add <| X_nil) rfl
    · rw [if_neg (by omega), if_neg (by omega), if_neg (by omega), if_neg (by omega), if_pos e]
      refine Rn.swi (q' := 132) rfl (X_ald rfl <| X_gr 8 0 hM.ob ⟨rfl, rfl⟩ rfl rfl <| X_i <| X_ild rfl <| X_add <| X_ia hM.w (by first | omega | (simp (disch := omega) only [um_eq, um_na, um_ni, Int.toNat_natCast]; omega)) (by first | omega | (simp (disch := omega) only [um_eq, um_na, um_ni, Int.toNat_natCast]; omega)) rfl <| X_ist rfl (L' := [_, _, _, _, _]) rfl <| X_ild rfl <| X_i <| X_ald rfl <| X_gr 8 15 hM.ob ⟨rfl, rfl⟩ rfl rfl <| X_ild rfl <| X_ia hM.co (by first | omega | (simp (disch := omega) only [um_eq, um_na, um_ni, Int.toNat_natCast]; omega)) (by first | omega | (simp (disch := omega) only [um_eq, um_na, um_ni, Int.toNat_natCast]; omega)) rfl <| X_ild rfl <| X_sub <| X_mul <| X_add <| X_ist rfl (L' := [_, _, _, _, _]) rfl <| X_ald rfl <| X_gr 8 0 hM.ob ⟨rfl, rfl⟩ rfl rfl <| X_i <| X_ild rfl <| X_add <| X_ia hM.w (by first | omega | (simp (disch := omega) only [um_eq, um_na, um_ni, Int.toNat_natCast]; omega)) (by first | omega | (simp (disch := omega) only [um_eq, um_na, um_ni, Int.toNat_natCast]; omega)) rfl <| X_nil) (by first | omega | (simp (disch := omega) only [um_eq, um_na, um_ni, Int.toNat_natCast]; omega)) (by first | rfl | (rw [e]; rfl)) ?_
      refine Rn.ri rfl (X_ild rfl <| X_i <| X_div (by first | omega | (simp (disch := omega) only [um_eq, um_na, um_ni, Int.toNat_natCast]; omega)) (by first | omega | (simp (disch := omega) only [um_eq, um_na, um_ni, Int.toNat_natCast]; omega)) <| X_ald rfl <| X_gr 8 0 hM.ob ⟨rfl, rfl⟩ rfl rfl <| X_i <| X_ild rfl <| X_add <| X_ia hM.w (by first | omega | (simp (disch := omega) only [um_eq, um_na, um_ni, Int.toNat_natCast]; omega)) (by first | omega | (simp (disch := omega) only [um_eq, um_na, um_ni, Int.toNat_natCast]; omega)) rfl <| X_i <| X_div (by first | omega | (simp (disch := omega) only [um_eq, um_na, um_ni, Int.toNat_natCast]; omega)) (by first | omega | (simp (disch := omega) only [um_eq, um_na, um_ni, Int.toNat_natCast]; omega)) <| X_add <| X_nil) rfl
  refine ⟨_, rfl, ?_⟩
  refine Rn.fal rfl (X_i <| X_ist rfl (L' := [_, _, _, _, _]) rfl <| X_i <| X_ist rfl (L' := [_, _, _, _, _]) rfl <| X_nil) ?_
  have loop : ∀ (k i : Nat) (x4 : Option AV), i + k = (M 77 6).toNat → Rn S 157 5 ([], [some (vR 76), some (vI (s : Int)), some (vI (lstC (V M) 0 i)), some (vI (i : Int)), x4], T, M) (some (vI (waitC (V M) (0 + 16 + 2 * s) (lstC (V M) 0 (M 77 6).toNat))), (T, M)) := by
    intro k
    induction k with
    | zero =>
      intro i x4 hi
      have e : i = (M 77 6).toNat := by omega
      refine Rn.cge rfl (X_ild rfl <| X_ald rfl <| X_gr 8 0 hM.ob ⟨rfl, rfl⟩ rfl rfl <| X_i <| X_ia hM.w (by first | omega | (simp (disch := omega) only [um_eq, um_na, um_ni, Int.toNat_natCast]; omega)) (by first | omega | (simp (disch := omega) only [um_eq, um_na, um_ni, Int.toNat_natCast]; omega)) rfl <| X_nil) (by first | omega | (simp (disch := omega) only [um_eq, um_na, um_ni, Int.toNat_natCast]; omega)) (by first | omega | (simp (disch := omega) only [um_eq, um_na, um_ni, Int.toNat_natCast]; omega)) (fun hc => ?_) (fun hc => ?_)
      · rw [e]
        exact tail _ _ _
      · exact absurd hc (by omega)
    | succ k ih =>
      intro i x4 hi
      have l1 := lstC_in (M := V M) (b := 0) (n := i) (by omega) (fun j hj => m2 j (by omega))
      have l2 := m2 i (by omega)
      unfold TrOk at l2
      rw [V_0, V_1, V_2, V_3, V_4, V_5, V_6, V_7] at l2
      have el : lstC (V M) 0 (i + 1) = if M 83 (i : Int) < lstC (V M) 0 i then M 83 (i : Int) else lstC (V M) 0 i := by
        rw [lstC, V_6]
      refine Rn.cge rfl (X_ild rfl <| X_ald rfl <| X_gr 8 0 hM.ob ⟨rfl, rfl⟩ rfl rfl <| X_i <| X_ia hM.w (by first | omega | (simp (disch := omega) only [um_eq, um_na, um_ni, Int.toNat_natCast]; omega)) (by first | omega | (simp (disch := omega) only [um_eq, um_na, um_ni, Int.toNat_natCast]; omega)) rfl <| X_nil) (by first | omega | (simp (disch := omega) only [um_eq, um_na, um_ni, Int.toNat_natCast]; omega)) (by first | omega | (simp (disch := omega) only [um_eq, um_na, um_ni, Int.toNat_natCast]; omega)) (fun hc => ?_) (fun hc => ?_)
      · exact absurd hc (by omega)
      · have hc0 := hc
        refine Rn.cge rfl (X_ald rfl <| X_gr 8 15 hM.ob ⟨rfl, rfl⟩ rfl rfl <| X_ild rfl <| X_ia hM.co (by first | omega | (simp (disch := omega) only [um_eq, um_na, um_ni, Int.toNat_natCast]; omega)) (by first | omega | (simp (disch := omega) only [um_eq, um_na, um_ni, Int.toNat_natCast]; omega)) rfl <| X_ild rfl <| X_nil) (by first | omega | (simp (disch := omega) only [um_eq, um_na, um_ni, Int.toNat_natCast]; omega)) (by first | omega | (simp (disch := omega) only [um_eq, um_na, um_ni, Int.toNat_natCast]; omega)) (fun hc => ?_) (fun hc => ?_)
        · rw [if_neg (by omega)] at el
          refine Rn.fal rfl (X_ild rfl <| X_nil) ?_
          refine Rn.jto rfl (X_ist rfl (L' := [_, _, _, _, _]) rfl <| X_inc rfl (L' := [_, _, _, _, _]) rfl <| X_nil) ?_
          rw [← el]
          exact ih (i + 1) _ (by omega)
        · rw [if_pos (by omega)] at el
          refine Rn.jto rfl (X_ald rfl <| X_gr 8 15 hM.ob ⟨rfl, rfl⟩ rfl rfl <| X_ild rfl <| X_ia hM.co (by first | omega | (simp (disch := omega) only [um_eq, um_na, um_ni, Int.toNat_natCast]; omega)) (by first | omega | (simp (disch := omega) only [um_eq, um_na, um_ni, Int.toNat_natCast]; omega)) rfl <| X_nil) ?_
          refine Rn.jto rfl (X_ist rfl (L' := [_, _, _, _, _]) rfl <| X_inc rfl (L' := [_, _, _, _, _]) rfl <| X_nil) ?_
          rw [← el]
          exact ih (i + 1) _ (by omega)
  exact loop (M 77 6).toNat 0 _ (by omega)
end Mwaits
