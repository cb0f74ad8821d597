/-! WHO -/
section Who
variable {S : List Int} {T : List Sh} {M M1 N C C' D X : Nat → Int → Int} {a b b' K j : Nat} {v x : Int} {h : Hp} {u n : Nat → Int}
theorem or4 {a w : Int} (ha : 0 ≤ a ∧ a ≤ 15) (hw : 0 ≤ w ∧ w ≤ 3) : 0 ≤ o_or a (o_shl 1 w) ∧ o_or a (o_shl 1 w) ≤ 15 := by
  have hd : ∀ a : Fin 16, ∀ w : Fin 4, 0 ≤ o_or ((a.val : Nat) : Int) (o_shl 1 ((w.val : Nat) : Int)) ∧ o_or ((a.val : Nat) : Int) (o_shl 1 ((w.val : Nat) : Int)) ≤ 15 := by decide +kernel
  have := hd ⟨a.toNat, by omega⟩ ⟨w.toNat, by omega⟩
  simp only at this
  rw [show ((a.toNat : Nat) : Int) = a by omega, show ((w.toNat : Nat) : Int) = w by omega] at this
  exact this
theorem or_z {a : Int} (ha : 0 ≤ a ∧ a ≤ 15) : o_or a 0 = a := by
  have hd : ∀ a : Fin 16, o_or ((a.val : Nat) : Int) 0 = ((a.val : Nat) : Int) := by decide +kernel
  have := hd ⟨a.toNat, by omega⟩
  simp only at this
  rw [show ((a.toNat : Nat) : Int) = a by omega] at this
  exact this
theorem and_co {a w : Int} : o_and a w = o_and w a := by
  unfold o_and
  rw [Int32.and_comm]
def bc4 (a : Int) : Int := 0 + o_and (o_shr a 0) 1 + o_and (o_shr a 1) 1 + o_and (o_shr a 2) 1 + o_and (o_shr a 3) 1
theorem bc4_in {a : Int} (ha : 0 ≤ a ∧ a ≤ 15) : 0 ≤ bc4 a ∧ bc4 a ≤ 4 := by
  have hd : ∀ a : Fin 16, 0 ≤ bc4 ((a.val : Nat) : Int) ∧ bc4 ((a.val : Nat) : Int) ≤ 4 := by decide +kernel
  have := hd ⟨a.toNat, by omega⟩
  simp only at this
  rw [show ((a.toNat : Nat) : Int) = a by omega] at this
  exact this
theorem c_bitCount {a : Int} (ha : 0 ≤ a ∧ a ≤ 15) : Cl S 196 [vI a] h (some (vI (bc4 a)), h) := by
  obtain ⟨y, hy, ey⟩ : ∃ y, Cl S 196 [vI a] h (some (vI y), h) ∧ y = (fun a : Int => let a1 := a - o_and (o_ushr a 1) 1431655765; let a2 := o_and a1 858993459 + o_and (o_ushr a1 2) 858993459; let a3 := o_and (a2 + o_ushr a2 4) 252645135; let a4 := a3 + o_ushr a3 8; let a5 := a4 + o_ushr a4 16; o_and a5 63) a := ⟨_, ⟨_, rfl, (Rn.ri rfl (X_ild rfl <| X_ild rfl <| X_i <| X_ush <| X_i <| X_and <| X_sub <| X_ist rfl (L' := [_]) rfl <| X_ild rfl <| X_i <| X_and <| X_ild rfl <| X_i <| X_ush <| X_i <| X_and <| X_add <| X_ist rfl (L' := [_]) rfl <| X_ild rfl <| X_ild rfl <| X_i <| X_ush <| X_add <| X_i <| X_and <| X_ist rfl (L' := [_]) rfl <| X_ild rfl <| X_ild rfl <| X_i <| X_ush <| X_add <| X_ist rfl (L' := [_]) rfl <| X_ild rfl <| X_ild rfl <| X_i <| X_ush <| X_add <| X_ist rfl (L' := [_]) rfl <| X_ild rfl <| X_i <| X_and <| X_nil) rfl)⟩, rfl⟩
  have hd : ∀ a : Fin 16, (fun a : Int => let a1 := a - o_and (o_ushr a 1) 1431655765; let a2 := o_and a1 858993459 + o_and (o_ushr a1 2) 858993459; let a3 := o_and (a2 + o_ushr a2 4) 252645135; let a4 := a3 + o_ushr a3 8; let a5 := a4 + o_ushr a4 16; o_and a5 63) ((a.val : Nat) : Int) = bc4 ((a.val : Nat) : Int) := by decide +kernel
  have e := hd ⟨a.toNat, by omega⟩
  simp only [show ((a.toNat : Nat) : Int) = a by omega] at e
  rw [ey] at hy
  simp only [e] at hy
  exact hy
/-- who is right, and who is wrong, if one moved it -/
def rgW (u n : Nat → Int) (m : Int) : Nat → Int
  | 0 => 0
  | i + 1 => if o_and (o_shr (n i) m) 1 = 1 then o_or (rgW u n m i) (o_shl 1 (u i)) else rgW u n m i
def wrW (u n : Nat → Int) (m : Int) : Nat → Int
  | 0 => 0
  | i + 1 => if o_and (o_shr (n i) m) 1 = 1 then wrW u n m i else o_or (wrW u n m i) (o_shl 1 (u i))
theorem rw_in {m : Int} : ∀ k : Nat, (∀ i, i < k → 0 ≤ u i ∧ u i ≤ 3) → (0 ≤ rgW u n m k ∧ rgW u n m k ≤ 15) ∧ 0 ≤ wrW u n m k ∧ wrW u n m k ≤ 15
  | 0, _ => by
    unfold rgW wrW
    omega
  | k + 1, h => by
    have ih := rw_in (m := m) k (fun i hi => h i (by omega))
    have x := h k (by omega)
    unfold rgW wrW
    by_cases hc : o_and (o_shr (n k) m) 1 = 1
    · rw [if_pos hc, if_pos hc]
      exact ⟨or4 ih.1 x, ih.2⟩
    · rw [if_neg hc, if_neg hc]
      exact ⟨ih.1, or4 ih.2 x⟩
def liW (u n : Nat → Int) (z : Nat) (m : Int) : Int := if o_and (rgW u n m z) (wrW u n m z) = 0 then bc4 (wrW u n m z) else -1
theorem liW_in {z : Nat} {m : Int} (h : ∀ i, i < z → 0 ≤ u i ∧ u i ≤ 3) : -1 ≤ liW u n z m ∧ liW u n z m ≤ 4 := by
  have x := rw_in (u := u) (n := n) (m := m) z h
  have y := bc4_in x.2
  unfold liW
  split <;> omega
theorem c_liars {z : Nat} {m : Int} (hS : isSt T b) (hz : C (b + 23) 0 = (z : Int)) (z8 : z ≤ 8) (hu : ∀ i : Nat, i < z → C (b + 24) (i : Int) = u i ∧ C (b + 25) (i : Int) = n i) (h3 : ∀ i, i < z → 0 ≤ u i ∧ u i ≤ 3) : Cl S 34 [vR (b + 23), vI m] (T, C) (some (vI (liW u n z m)), (T, C)) := by
  have loop : ∀ (k i : Nat) (w : Option AV), i + k = z → Rn S 34 7 ([], [some (vR (b + 23)), some (vI m), some (vI (rgW u n m i)), some (vI (wrW u n m i)), some (vI (i : Int)), w], T, C) (some (vI (liW u n z m)), (T, C)) := by
    intro k
    induction k with
    | zero =>
      intro i w hi
      have ei : i = z := by omega
      subst ei
      have x := rw_in (u := u) (n := n) (m := m) i h3
      have ia := I32_and (rgW u n m i) (wrW u n m i)
      by_cases h0 : o_and (rgW u n m i) (wrW u n m i) = 0
      · rw [show liW u n i m = bc4 (wrW u n m i) from if_pos h0]
        refine Rn.cge rfl (X_ild rfl <| X_ald rfl <| X_gi 3 0 0 hS.no ⟨rfl, rfl, rfl⟩ (Or.inl rfl) <| X_nil) (by first | omega | (simp (disch := omega) only [um_eq, um_na, um_ni, Int.toNat_natCast]; omega)) (by first | omega | (simp (disch := omega) only [um_eq, um_na, um_ni, Int.toNat_natCast]; omega)) (fun hc => ?_) (fun hc => absurd hc (by first | omega | decide | (simp (disch := omega) only [um_eq, um_na, um_ni, Int.toNat_natCast]; omega)))
        refine Rn.ieq rfl (X_ild rfl <| X_ild rfl <| X_and <| X_nil) (by first | omega | (simp (disch := omega) only [um_eq, um_na, um_ni, Int.toNat_natCast]; omega)) (fun hc => ?_) (fun hc => absurd hc (by first | omega | decide | (simp (disch := omega) only [um_eq, um_na, um_ni, Int.toNat_natCast]; omega)))
        refine Rn.cal rfl (X_ild rfl <| X_nil) (vs := [_]) (rest := []) rfl rfl rfl rfl (c_bitCount x.2) ?_
        refine Rn.ri rfl (X_nil) rfl
      · rw [show liW u n i m = -1 from if_neg h0]
        refine Rn.cge rfl (X_ild rfl <| X_ald rfl <| X_gi 3 0 0 hS.no ⟨rfl, rfl, rfl⟩ (Or.inl rfl) <| X_nil) (by first | omega | (simp (disch := omega) only [um_eq, um_na, um_ni, Int.toNat_natCast]; omega)) (by first | omega | (simp (disch := omega) only [um_eq, um_na, um_ni, Int.toNat_natCast]; omega)) (fun hc => ?_) (fun hc => absurd hc (by first | omega | decide | (simp (disch := omega) only [um_eq, um_na, um_ni, Int.toNat_natCast]; omega)))
        refine Rn.ieq rfl (X_ild rfl <| X_ild rfl <| X_and <| X_nil) (by first | omega | (simp (disch := omega) only [um_eq, um_na, um_ni, Int.toNat_natCast]; omega)) (fun hc => absurd hc (by first | omega | decide | (simp (disch := omega) only [um_eq, um_na, um_ni, Int.toNat_natCast]; omega))) (fun hc => ?_)
        refine Rn.jto rfl (X_i <| X_nil) ?_
        refine Rn.ri rfl (X_nil) rfl
    | succ k ih =>
      intro i w hi
      obtain ⟨e1, e2⟩ := hu i (by omega)
      have nx := ih (i + 1) (some (vI (o_shl 1 (u i)))) (by omega)
      have ia := I32_and (o_shr (n i) m) 1
      by_cases hc : o_and (o_shr (n i) m) 1 = 1
      · rw [show rgW u n m (i + 1) = o_or (rgW u n m i) (o_shl 1 (u i)) from if_pos hc, show wrW u n m (i + 1) = wrW u n m i from if_pos hc] at nx
        rw [← e1] at nx
        rw [← e2] at hc ia
        refine Rn.cge rfl (X_ild rfl <| X_ald rfl <| X_gi 3 0 0 hS.no ⟨rfl, rfl, rfl⟩ (Or.inl rfl) <| X_nil) (by first | omega | (simp (disch := omega) only [um_eq, um_na, um_ni, Int.toNat_natCast]; omega)) (by first | omega | (simp (disch := omega) only [um_eq, um_na, um_ni, Int.toNat_natCast]; omega)) (fun hc => absurd hc (by first | omega | decide | (simp (disch := omega) only [um_eq, um_na, um_ni, Int.toNat_natCast]; omega))) (fun hc => ?_)
        refine Rn.cne rfl (X_i <| X_ald rfl <| X_gr 3 1 hS.no ⟨rfl, rfl⟩ rfl rfl <| X_ild rfl <| X_ia hS.wr (by first | omega | (simp (disch := omega) only [um_eq, um_na, um_ni, Int.toNat_natCast]; omega)) (by first | omega | (simp (disch := omega) only [um_eq, um_na, um_ni, Int.toNat_natCast]; omega)) rfl <| X_shl <| X_ist rfl (L' := [_, _, _, _, _, _]) rfl <| X_ald rfl <| X_gr 3 2 hS.no ⟨rfl, rfl⟩ rfl rfl <| X_ild rfl <| X_ia hS.na (by first | omega | (simp (disch := omega) only [um_eq, um_na, um_ni, Int.toNat_natCast]; omega)) (by first | omega | (simp (disch := omega) only [um_eq, um_na, um_ni, Int.toNat_natCast]; omega)) rfl <| X_ild rfl <| X_shr <| X_i <| X_and <| X_i <| X_nil) (by first | omega | (simp (disch := omega) only [um_eq, um_na, um_ni, Int.toNat_natCast]; omega)) (by first | omega | (simp (disch := omega) only [um_eq, um_na, um_ni, Int.toNat_natCast]; omega)) (fun hc => absurd hc (by first | omega | decide | (simp (disch := omega) only [um_eq, um_na, um_ni, Int.toNat_natCast]; omega))) (fun hc => ?_)
        refine Rn.jto rfl (X_ild rfl <| X_ild rfl <| X_or <| X_ist rfl (L' := [_, _, _, _, _, _]) rfl <| X_nil) ?_
        refine Rn.jto rfl (X_inc rfl (L' := [_, _, _, _, _, _]) rfl <| X_nil) ?_
        exact nx
      · rw [show rgW u n m (i + 1) = rgW u n m i from if_neg hc, show wrW u n m (i + 1) = o_or (wrW u n m i) (o_shl 1 (u i)) from if_neg hc] at nx
        rw [← e1] at nx
        rw [← e2] at hc ia
        refine Rn.cge rfl (X_ild rfl <| X_ald rfl <| X_gi 3 0 0 hS.no ⟨rfl, rfl, rfl⟩ (Or.inl rfl) <| X_nil) (by first | omega | (simp (disch := omega) only [um_eq, um_na, um_ni, Int.toNat_natCast]; omega)) (by first | omega | (simp (disch := omega) only [um_eq, um_na, um_ni, Int.toNat_natCast]; omega)) (fun hc => absurd hc (by first | omega | decide | (simp (disch := omega) only [um_eq, um_na, um_ni, Int.toNat_natCast]; omega))) (fun hc => ?_)
        refine Rn.cne rfl (X_i <| X_ald rfl <| X_gr 3 1 hS.no ⟨rfl, rfl⟩ rfl rfl <| X_ild rfl <| X_ia hS.wr (by first | omega | (simp (disch := omega) only [um_eq, um_na, um_ni, Int.toNat_natCast]; omega)) (by first | omega | (simp (disch := omega) only [um_eq, um_na, um_ni, Int.toNat_natCast]; omega)) rfl <| X_shl <| X_ist rfl (L' := [_, _, _, _, _, _]) rfl <| X_ald rfl <| X_gr 3 2 hS.no ⟨rfl, rfl⟩ rfl rfl <| X_ild rfl <| X_ia hS.na (by first | omega | (simp (disch := omega) only [um_eq, um_na, um_ni, Int.toNat_natCast]; omega)) (by first | omega | (simp (disch := omega) only [um_eq, um_na, um_ni, Int.toNat_natCast]; omega)) rfl <| X_ild rfl <| X_shr <| X_i <| X_and <| X_i <| X_nil) (by first | omega | (simp (disch := omega) only [um_eq, um_na, um_ni, Int.toNat_natCast]; omega)) (by first | omega | (simp (disch := omega) only [um_eq, um_na, um_ni, Int.toNat_natCast]; omega)) (fun hc => ?_) (fun hc => absurd hc (by first | omega | decide | (simp (disch := omega) only [um_eq, um_na, um_ni, Int.toNat_natCast]; omega)))
        refine Rn.fal rfl (X_ild rfl <| X_ild rfl <| X_or <| X_ist rfl (L' := [_, _, _, _, _, _]) rfl <| X_nil) ?_
        refine Rn.jto rfl (X_inc rfl (L' := [_, _, _, _, _, _]) rfl <| X_nil) ?_
        exact nx
  refine ⟨_, rfl, ?_⟩
  refine Rn.fal rfl (X_i <| X_ist rfl (L' := [_, _, _, _, _, _]) rfl <| X_i <| X_ist rfl (L' := [_, _, _, _, _, _]) rfl <| X_i <| X_ist rfl (L' := [_, _, _, _, _, _]) rfl <| X_nil) ?_
  exact loop z 0 none (by omega)
theorem c_mliars {z : Nat} {m : Int} (hM : isM T) (hz : N 77 7 = (z : Int)) (z8 : z ≤ 8) (hu : ∀ i : Nat, i < z → N 77 (91 + (i : Int)) = u i ∧ N 77 (99 + (i : Int)) = n i) (h3 : ∀ i, i < z → 0 ≤ u i ∧ u i ≤ 3) : Cl S 185 [vR 76, vI m] (T, N) (some (vI (liW u n z m)), (T, N)) := by
  have tail : ∀ w : Option AV, Rn S 185 89 ([], [some (vR 76), some (vI m), some (vI (wrW u n m z)), some (vI (rgW u n m z)), some (vI (z : Int)), w], T, N) (some (vI (liW u n z m)), (T, N)) := by
    intro w
    have x := rw_in (u := u) (n := n) (m := m) z h3
    have y := bc4_in x.2
    have ia := I32_and (wrW u n m z) (rgW u n m z)
    have ec := and_co (a := rgW u n m z) (w := wrW u n m z)
    refine Rn.fal rfl (X_i <| X_ist rfl (L' := [_, _, _, _, _, _]) rfl <| X_i <| X_ist rfl (L' := [_, _, _, _, _, _]) rfl <| X_nil) ?_
    refine Rn.cge rfl (X_ild rfl <| X_i <| X_nil) (by first | omega | (simp (disch := omega) only [um_eq, um_na, um_ni, Int.toNat_natCast]; omega)) (by first | omega | (simp (disch := omega) only [um_eq, um_na, um_ni, Int.toNat_natCast]; omega)) (fun hc => absurd hc (by first | omega | decide | (simp (disch := omega) only [um_eq, um_na, um_ni, Int.toNat_natCast]; omega))) (fun hc => ?_)
    refine Rn.jto rfl (X_ild rfl <| X_ild rfl <| X_ild rfl <| X_shr <| X_i <| X_and <| X_add <| X_ist rfl (L' := [_, _, _, _, _, _]) rfl <| X_inc rfl (L' := [_, _, _, _, _, _]) rfl <| X_nil) ?_
    refine Rn.cge rfl (X_ild rfl <| X_i <| X_nil) (by first | omega | (simp (disch := omega) only [um_eq, um_na, um_ni, Int.toNat_natCast]; omega)) (by first | omega | (simp (disch := omega) only [um_eq, um_na, um_ni, Int.toNat_natCast]; omega)) (fun hc => absurd hc (by first | omega | decide | (simp (disch := omega) only [um_eq, um_na, um_ni, Int.toNat_natCast]; omega))) (fun hc => ?_)
    refine Rn.jto rfl (X_ild rfl <| X_ild rfl <| X_ild rfl <| X_shr <| X_i <| X_and <| X_add <| X_ist rfl (L' := [_, _, _, _, _, _]) rfl <| X_inc rfl (L' := [_, _, _, _, _, _]) rfl <| X_nil) ?_
    refine Rn.cge rfl (X_ild rfl <| X_i <| X_nil) (by first | omega | (simp (disch := omega) only [um_eq, um_na, um_ni, Int.toNat_natCast]; omega)) (by first | omega | (simp (disch := omega) only [um_eq, um_na, um_ni, Int.toNat_natCast]; omega)) (fun hc => absurd hc (by first | omega | decide | (simp (disch := omega) only [um_eq, um_na, um_ni, Int.toNat_natCast]; omega))) (fun hc => ?_)
    refine Rn.jto rfl (X_ild rfl <| X_ild rfl <| X_ild rfl <| X_shr <| X_i <| X_and <| X_add <| X_ist rfl (L' := [_, _, _, _, _, _]) rfl <| X_inc rfl (L' := [_, _, _, _, _, _]) rfl <| X_nil) ?_
    refine Rn.cge rfl (X_ild rfl <| X_i <| X_nil) (by first | omega | (simp (disch := omega) only [um_eq, um_na, um_ni, Int.toNat_natCast]; omega)) (by first | omega | (simp (disch := omega) only [um_eq, um_na, um_ni, Int.toNat_natCast]; omega)) (fun hc => absurd hc (by first | omega | decide | (simp (disch := omega) only [um_eq, um_na, um_ni, Int.toNat_natCast]; omega))) (fun hc => ?_)
    refine Rn.jto rfl (X_ild rfl <| X_ild rfl <| X_ild rfl <| X_shr <| X_i <| X_and <| X_add <| X_ist rfl (L' := [_, _, _, _, _, _]) rfl <| X_inc rfl (L' := [_, _, _, _, _, _]) rfl <| X_nil) ?_
    refine Rn.cge rfl (X_ild rfl <| X_i <| X_nil) (by first | omega | (simp (disch := omega) only [um_eq, um_na, um_ni, Int.toNat_natCast]; omega)) (by first | omega | (simp (disch := omega) only [um_eq, um_na, um_ni, Int.toNat_natCast]; omega)) (fun hc => ?_) (fun hc => absurd hc (by first | omega | decide | (simp (disch := omega) only [um_eq, um_na, um_ni, Int.toNat_natCast]; omega)))
    by_cases h0 : o_and (rgW u n m z) (wrW u n m z) = 0
    · rw [show liW u n z m = bc4 (wrW u n m z) from if_pos h0]
      refine Rn.ine rfl (X_ild rfl <| X_ild rfl <| X_and <| X_nil) (by first | omega | (simp (disch := omega) only [um_eq, um_na, um_ni, Int.toNat_natCast]; omega)) (fun hc => absurd hc (by first | omega | decide | (simp (disch := omega) only [um_eq, um_na, um_ni, Int.toNat_natCast]; omega))) (fun hc => ?_)
      refine Rn.jto rfl (X_ild rfl <| X_nil) ?_
      refine Rn.ri rfl (X_nil) rfl
    · rw [show liW u n z m = -1 from if_neg h0]
      refine Rn.ine rfl (X_ild rfl <| X_ild rfl <| X_and <| X_nil) (by first | omega | (simp (disch := omega) only [um_eq, um_na, um_ni, Int.toNat_natCast]; omega)) (fun hc => ?_) (fun hc => absurd hc (by first | omega | decide | (simp (disch := omega) only [um_eq, um_na, um_ni, Int.toNat_natCast]; omega)))
      refine Rn.fal rfl (X_i <| X_nil) ?_
      refine Rn.ri rfl (X_nil) rfl
  have loop : ∀ (k i : Nat) (w : Option AV), i + k = z → Rn S 185 7 ([], [some (vR 76), some (vI m), some (vI (wrW u n m i)), some (vI (rgW u n m i)), some (vI (i : Int)), w], T, N) (some (vI (liW u n z m)), (T, N)) := by
    intro k
    induction k with
    | zero =>
      intro i w hi
      have ei : i = z := by omega
      subst ei
      refine Rn.cge rfl (X_ild rfl <| X_ald rfl <| X_gr 8 0 hM.ob ⟨rfl, rfl⟩ rfl rfl <| X_i <| X_ia hM.w (by first | omega | (simp (disch := omega) only [um_eq, um_na, um_ni, Int.toNat_natCast]; omega)) (by first | omega | (simp (disch := omega) only [um_eq, um_na, um_ni, Int.toNat_natCast]; omega)) rfl <| X_nil) (by first | omega | (simp (disch := omega) only [um_eq, um_na, um_ni, Int.toNat_natCast]; omega)) (by first | omega | (simp (disch := omega) only [um_eq, um_na, um_ni, Int.toNat_natCast]; omega)) (fun hc => ?_) (fun hc => absurd hc (by first | omega | decide | (simp (disch := omega) only [um_eq, um_na, um_ni, Int.toNat_natCast]; omega)))
      exact tail w
    | succ k ih =>
      intro i w hi
      obtain ⟨e1, e2⟩ := hu i (by omega)
      have x := rw_in (u := u) (n := n) (m := m) i (fun l hl => h3 l (by omega))
      have ch := c_mhas (S := S) (h := (T, N)) (s := n i) (k := m)
      rw [← e2] at ch
      by_cases hc : o_and (o_shr (n i) m) 1 = 1
      · have nx := ih (i + 1) (some (vI 1)) (by omega)
        rw [show rgW u n m (i + 1) = o_or (rgW u n m i) (o_shl 1 (u i)) from if_pos hc, show wrW u n m (i + 1) = wrW u n m i from if_pos hc] at nx
        rw [← e1] at nx
        rw [e2, if_pos hc, ← e2] at ch
        refine Rn.cge rfl (X_ild rfl <| X_ald rfl <| X_gr 8 0 hM.ob ⟨rfl, rfl⟩ rfl rfl <| X_i <| X_ia hM.w (by first | omega | (simp (disch := omega) only [um_eq, um_na, um_ni, Int.toNat_natCast]; omega)) (by first | omega | (simp (disch := omega) only [um_eq, um_na, um_ni, Int.toNat_natCast]; omega)) rfl <| X_nil) (by first | omega | (simp (disch := omega) only [um_eq, um_na, um_ni, Int.toNat_natCast]; omega)) (by first | omega | (simp (disch := omega) only [um_eq, um_na, um_ni, Int.toNat_natCast]; omega)) (fun hc => absurd hc (by first | omega | decide | (simp (disch := omega) only [um_eq, um_na, um_ni, Int.toNat_natCast]; omega))) (fun hc => ?_)
        refine Rn.cal rfl (X_ald rfl <| X_gr 8 0 hM.ob ⟨rfl, rfl⟩ rfl rfl <| X_i <| X_ild rfl <| X_add <| X_ia hM.w (by first | omega | (simp (disch := omega) only [um_eq, um_na, um_ni, Int.toNat_natCast]; omega)) (by first | omega | (simp (disch := omega) only [um_eq, um_na, um_ni, Int.toNat_natCast]; omega)) rfl <| X_ild rfl <| X_nil) (vs := [_, _]) (rest := []) rfl rfl rfl rfl (ch) ?_
        refine Rn.ieq rfl (X_ist rfl (L' := [_, _, _, _, _, _]) rfl <| X_ild rfl <| X_ild rfl <| X_nil) (by first | omega | (simp (disch := omega) only [um_eq, um_na, um_ni, Int.toNat_natCast]; omega)) (fun hc => absurd hc (by first | omega | decide | (simp (disch := omega) only [um_eq, um_na, um_ni, Int.toNat_natCast]; omega))) (fun hc => ?_)
        refine Rn.jto rfl (X_i <| X_nil) ?_
        refine Rn.ieq rfl (X_or <| X_ist rfl (L' := [_, _, _, _, _, _]) rfl <| X_ild rfl <| X_ild rfl <| X_nil) (by first | omega | (simp (disch := omega) only [um_eq, um_na, um_ni, Int.toNat_natCast]; omega)) (fun hc => absurd hc (by first | omega | decide | (simp (disch := omega) only [um_eq, um_na, um_ni, Int.toNat_natCast]; omega))) (fun hc => ?_)
        refine Rn.jto rfl (X_i <| X_ald rfl <| X_gr 8 0 hM.ob ⟨rfl, rfl⟩ rfl rfl <| X_i <| X_ild rfl <| X_add <| X_ia hM.w (by first | omega | (simp (disch := omega) only [um_eq, um_na, um_ni, Int.toNat_natCast]; omega)) (by first | omega | (simp (disch := omega) only [um_eq, um_na, um_ni, Int.toNat_natCast]; omega)) rfl <| X_shl <| X_nil) ?_
        refine Rn.jto rfl (X_or <| X_ist rfl (L' := [_, _, _, _, _, _]) rfl <| X_inc rfl (L' := [_, _, _, _, _, _]) rfl <| X_nil) ?_
        rw [or_z x.2]
        exact nx
      · have nx := ih (i + 1) (some (vI 0)) (by omega)
        rw [show rgW u n m (i + 1) = rgW u n m i from if_neg hc, show wrW u n m (i + 1) = o_or (wrW u n m i) (o_shl 1 (u i)) from if_neg hc] at nx
        rw [← e1] at nx
        rw [e2, if_neg hc, ← e2] at ch
        refine Rn.cge rfl (X_ild rfl <| X_ald rfl <| X_gr 8 0 hM.ob ⟨rfl, rfl⟩ rfl rfl <| X_i <| X_ia hM.w (by first | omega | (simp (disch := omega) only [um_eq, um_na, um_ni, Int.toNat_natCast]; omega)) (by first | omega | (simp (disch := omega) only [um_eq, um_na, um_ni, Int.toNat_natCast]; omega)) rfl <| X_nil) (by first | omega | (simp (disch := omega) only [um_eq, um_na, um_ni, Int.toNat_natCast]; omega)) (by first | omega | (simp (disch := omega) only [um_eq, um_na, um_ni, Int.toNat_natCast]; omega)) (fun hc => absurd hc (by first | omega | decide | (simp (disch := omega) only [um_eq, um_na, um_ni, Int.toNat_natCast]; omega))) (fun hc => ?_)
        refine Rn.cal rfl (X_ald rfl <| X_gr 8 0 hM.ob ⟨rfl, rfl⟩ rfl rfl <| X_i <| X_ild rfl <| X_add <| X_ia hM.w (by first | omega | (simp (disch := omega) only [um_eq, um_na, um_ni, Int.toNat_natCast]; omega)) (by first | omega | (simp (disch := omega) only [um_eq, um_na, um_ni, Int.toNat_natCast]; omega)) rfl <| X_ild rfl <| X_nil) (vs := [_, _]) (rest := []) rfl rfl rfl rfl (ch) ?_
        refine Rn.ieq rfl (X_ist rfl (L' := [_, _, _, _, _, _]) rfl <| X_ild rfl <| X_ild rfl <| X_nil) (by first | omega | (simp (disch := omega) only [um_eq, um_na, um_ni, Int.toNat_natCast]; omega)) (fun hc => ?_) (fun hc => absurd hc (by first | omega | decide | (simp (disch := omega) only [um_eq, um_na, um_ni, Int.toNat_natCast]; omega)))
        refine Rn.fal rfl (X_i <| X_ald rfl <| X_gr 8 0 hM.ob ⟨rfl, rfl⟩ rfl rfl <| X_i <| X_ild rfl <| X_add <| X_ia hM.w (by first | omega | (simp (disch := omega) only [um_eq, um_na, um_ni, Int.toNat_natCast]; omega)) (by first | omega | (simp (disch := omega) only [um_eq, um_na, um_ni, Int.toNat_natCast]; omega)) rfl <| X_shl <| X_nil) ?_
        refine Rn.ieq rfl (X_or <| X_ist rfl (L' := [_, _, _, _, _, _]) rfl <| X_ild rfl <| X_ild rfl <| X_nil) (by first | omega | (simp (disch := omega) only [um_eq, um_na, um_ni, Int.toNat_natCast]; omega)) (fun hc => ?_) (fun hc => absurd hc (by first | omega | decide | (simp (disch := omega) only [um_eq, um_na, um_ni, Int.toNat_natCast]; omega)))
        refine Rn.fal rfl (X_i <| X_nil) ?_
        refine Rn.jto rfl (X_or <| X_ist rfl (L' := [_, _, _, _, _, _]) rfl <| X_inc rfl (L' := [_, _, _, _, _, _]) rfl <| X_nil) ?_
        rw [or_z x.1]
        exact nx
  refine ⟨_, rfl, ?_⟩
  refine Rn.fal rfl (X_i <| X_ist rfl (L' := [_, _, _, _, _, _]) rfl <| X_i <| X_ist rfl (L' := [_, _, _, _, _, _]) rfl <| X_i <| X_ist rfl (L' := [_, _, _, _, _, _]) rfl <| X_nil) ?_
  exact loop z 0 none (by omega)
def suW (u n : Nat → Int) (z : Nat) (l : Int) : Nat → Int
  | 0 => 0
  | s + 1 => if liW u n z (s : Int) = l then o_or (suW u n z l s) (o_shl 1 (s : Int)) else suW u n z l s
theorem suW_in {z : Nat} {l : Int} : ∀ k : Nat, k ≤ 4 → 0 ≤ suW u n z l k ∧ suW u n z l k ≤ 15
  | 0, _ => by
    unfold suW
    omega
  | k + 1, h => by
    have ih := suW_in (z := z) (l := l) k (by omega)
    unfold suW
    split
    · exact or4 ih (by omega)
    · exact ih
theorem op_who {l : Int} (g : Gl T M K) (il : I32 l) : Op S 95 186 [vI l] T M K := by
  have hX := g.x
  have hM := g.m
  have hS := hX.s1
  have hz := g.sz
  have e45 : M (1 + 4) 1 = M 5 1 := rfl
  by_cases h1 : 0 ≤ l ∧ l ≤ 4
  case neg =>
    refine Op.bad (v := -2) (k := 0) g (by decide) (by decide) (by decide) ⟨_, rfl, ?_⟩ (fun M1 h80 => ⟨_, rfl, ?_⟩) trivial
    · refine Rn.cal rfl (X_ild rfl <| X_i <| X_i <| X_nil) (vs := [_, _, _]) (rest := []) rfl rfl rfl rfl (c_wN (by omega) (by decide) (by decide) h1) ?_
      refine Rn.ine rfl (X_nil) (by first | omega | (simp (disch := omega) only [um_eq, um_na, um_ni, Int.toNat_natCast]; omega)) (fun hc => absurd hc (by first | omega | decide | (simp (disch := omega) only [um_eq, um_na, um_ni, Int.toNat_natCast]; omega))) (fun hc => ?_)
      refine Rn.cal rfl (X_ald rfl <| X_i <| X_nil) (vs := [_, _]) (rest := []) rfl rfl rfl (rcv_v hX.ob (by decide)) (c_bad hX) ?_
      refine Rn.ri rfl (X_nil) rfl
    · refine Rn.cal rfl (X_ild rfl <| X_i2l (by first | omega | (simp (disch := omega) only [um_eq, um_na, um_ni, Int.toNat_natCast]; omega)) <| X_l <| X_l <| X_nil) (vs := [_, _, _]) (rest := []) rfl rfl rfl rfl (c_iN (by omega) (by decide) (by decide) h1) ?_
      refine Rn.ine rfl (X_nil) (by first | omega | (simp (disch := omega) only [um_eq, um_na, um_ni, Int.toNat_natCast]; omega)) (fun hc => absurd hc (by first | omega | decide | (simp (disch := omega) only [um_eq, um_na, um_ni, Int.toNat_natCast]; omega))) (fun hc => ?_)
      refine Rn.cal rfl (X_ald rfl <| X_nil) (vs := [_]) (rest := []) rfl rfl rfl (rcv_v hM.ob (by decide)) (c_mbad hM) ?_
      refine Rn.ri rfl (X_nil) rfl
  have m8 := g.rg.m8
  have em := g.rg.m
  have em' : M (1 + 23) 0 = M 77 7 := em
  have no := g.rg.no
  obtain ⟨z, ez⟩ : ∃ z : Nat, M (1 + 23) 0 = (z : Int) := ⟨(M (1 + 23) 0).toNat, by omega⟩
  have zz : M 5 1 = (((M 5 1).toNat : Nat) : Int) := by omega
  have h3 : ∀ i : Nat, i < z → 0 ≤ M (1 + 24) (i : Int) ∧ M (1 + 24) (i : Int) ≤ 3 := fun i hi => (no i (by omega) (by omega)).2.1
  have cl := fun m => c_liars (S := S) (T := T) (C := M) (b := 1) (m := m) (u := fun i => M (1 + 24) (i : Int)) (n := fun i => M (1 + 25) (i : Int)) hS ez (by omega) (fun i _ => ⟨rfl, rfl⟩) h3
  have cm := fun m => c_mliars (S := S) (T := T) (N := M) (m := m) (u := fun i => M (1 + 24) (i : Int)) (n := fun i => M (1 + 25) (i : Int)) hM (by rw [← em']; exact ez) (by omega) (fun i hi => by
    have x := (no i (by omega) (by omega)).1
    rw [x.1, x.2]
    exact ⟨by congr 1 <;> omega, by congr 1 <;> omega⟩) h3
  have li := fun m => liW_in (u := fun i => M (1 + 24) ((i : Nat) : Int)) (n := fun i => M (1 + 25) ((i : Nat) : Int)) (z := z) (m := m) h3
  generalize (fun i : Nat => M (1 + 24) (i : Int)) = u at *
  generalize (fun i : Nat => M (1 + 25) (i : Int)) = n at *
  have cs : Cl S 33 [vR (1 + 23), vI l, vI (M 5 1)] (T, M) (some (vI (suW u n z l (M 5 1).toNat)), (T, M)) := by
    have loop : ∀ (k s : Nat), s + k = (M 5 1).toNat → Rn S 33 5 ([], [some (vR (1 + 23)), some (vI l), some (vI (M 5 1)), some (vI (suW u n z l s)), some (vI (s : Int))], T, M) (some (vI (suW u n z l (M 5 1).toNat)), (T, M)) := by
      intro k
      induction k with
      | zero =>
        intro s hs
        have es : s = (M 5 1).toNat := by omega
        rw [← es]
        refine Rn.cge rfl (X_ild rfl <| X_ild rfl <| X_nil) (by first | omega | (simp (disch := omega) only [um_eq, um_na, um_ni, Int.toNat_natCast]; omega)) (by first | omega | (simp (disch := omega) only [um_eq, um_na, um_ni, Int.toNat_natCast]; omega)) (fun hc => ?_) (fun hc => absurd hc (by first | omega | decide | (simp (disch := omega) only [um_eq, um_na, um_ni, Int.toNat_natCast]; omega)))
        refine Rn.ri rfl (X_ild rfl <| X_nil) rfl
      | succ k ih =>
        intro s hs
        have nx := ih (s + 1) (by omega)
        have c := cl (s : Int)
        have b := li (s : Int)
        by_cases hc : liW u n z (s : Int) = l
        · rw [show suW u n z l (s + 1) = o_or (suW u n z l s) (o_shl 1 (s : Int)) from if_pos hc] at nx
          refine Rn.cge rfl (X_ild rfl <| X_ild rfl <| X_nil) (by first | omega | (simp (disch := omega) only [um_eq, um_na, um_ni, Int.toNat_natCast]; omega)) (by first | omega | (simp (disch := omega) only [um_eq, um_na, um_ni, Int.toNat_natCast]; omega)) (fun hc => absurd hc (by first | omega | decide | (simp (disch := omega) only [um_eq, um_na, um_ni, Int.toNat_natCast]; omega))) (fun hc => ?_)
          refine Rn.cal rfl (X_ald rfl <| X_ild rfl <| X_nil) (vs := [_, _]) (rest := []) rfl rfl rfl (rcv_v hS.no (by decide)) (c) ?_
          refine Rn.cne rfl (X_ild rfl <| X_nil) (by first | omega | (simp (disch := omega) only [um_eq, um_na, um_ni, Int.toNat_natCast]; omega)) (by first | omega | (simp (disch := omega) only [um_eq, um_na, um_ni, Int.toNat_natCast]; omega)) (fun hc => absurd hc (by first | omega | decide | (simp (disch := omega) only [um_eq, um_na, um_ni, Int.toNat_natCast]; omega))) (fun hc => ?_)
          refine Rn.fal rfl (X_ild rfl <| X_i <| X_ild rfl <| X_shl <| X_or <| X_ist rfl (L' := [_, _, _, _, _]) rfl <| X_nil) ?_
          refine Rn.jto rfl (X_inc rfl (L' := [_, _, _, _, _]) rfl <| X_nil) ?_
          exact nx
        · rw [show suW u n z l (s + 1) = suW u n z l s from if_neg hc] at nx
          refine Rn.cge rfl (X_ild rfl <| X_ild rfl <| X_nil) (by first | omega | (simp (disch := omega) only [um_eq, um_na, um_ni, Int.toNat_natCast]; omega)) (by first | omega | (simp (disch := omega) only [um_eq, um_na, um_ni, Int.toNat_natCast]; omega)) (fun hc => absurd hc (by first | omega | decide | (simp (disch := omega) only [um_eq, um_na, um_ni, Int.toNat_natCast]; omega))) (fun hc => ?_)
          refine Rn.cal rfl (X_ald rfl <| X_ild rfl <| X_nil) (vs := [_, _]) (rest := []) rfl rfl rfl (rcv_v hS.no (by decide)) (c) ?_
          refine Rn.cne rfl (X_ild rfl <| X_nil) (by first | omega | (simp (disch := omega) only [um_eq, um_na, um_ni, Int.toNat_natCast]; omega)) (by first | omega | (simp (disch := omega) only [um_eq, um_na, um_ni, Int.toNat_natCast]; omega)) (fun hc => ?_) (fun hc => absurd hc (by first | omega | decide | (simp (disch := omega) only [um_eq, um_na, um_ni, Int.toNat_natCast]; omega)))
          refine Rn.jto rfl (X_inc rfl (L' := [_, _, _, _, _]) rfl <| X_nil) ?_
          exact nx
    refine ⟨_, rfl, ?_⟩
    refine Rn.fal rfl (X_i <| X_ist rfl (L' := [_, _, _, _, _]) rfl <| X_i <| X_ist rfl (L' := [_, _, _, _, _]) rfl <| X_nil) ?_
    exact loop (M 5 1).toNat 0 (by omega)
  have mloop : ∀ (k s : Nat), s + k = (M 5 1).toNat → Rn S 186 21 ([], [some (vR 76), some (vI l), some (vI (suW u n z l s)), some (vI (s : Int))], T, M) (some (vI (suW u n z l (M 5 1).toNat)), (T, M)) := by
    intro k
    induction k with
    | zero =>
      intro s hs
      have es : s = (M 5 1).toNat := by omega
      rw [← es]
      refine Rn.cge rfl (X_ild rfl <| X_ald rfl <| X_gr 8 0 hM.ob ⟨rfl, rfl⟩ rfl rfl <| X_i <| X_ia hM.w (by first | omega | (simp (disch := omega) only [um_eq, um_na, um_ni, Int.toNat_natCast]; omega)) (by first | omega | (simp (disch := omega) only [um_eq, um_na, um_ni, Int.toNat_natCast]; omega)) rfl <| X_nil) (by first | omega | (simp (disch := omega) only [um_eq, um_na, um_ni, Int.toNat_natCast]; omega)) (by first | omega | (simp (disch := omega) only [um_eq, um_na, um_ni, Int.toNat_natCast]; omega)) (fun hc => ?_) (fun hc => absurd hc (by first | omega | decide | (simp (disch := omega) only [um_eq, um_na, um_ni, Int.toNat_natCast]; omega)))
      refine Rn.ri rfl (X_ild rfl <| X_nil) rfl
    | succ k ih =>
      intro s hs
      have nx := ih (s + 1) (by omega)
      have c := cm (s : Int)
      have b := li (s : Int)
      have bd := suW_in (u := u) (n := n) (z := z) (l := l) s (by omega)
      by_cases hc : liW u n z (s : Int) = l
      · rw [show suW u n z l (s + 1) = o_or (suW u n z l s) (o_shl 1 (s : Int)) from if_pos hc] at nx
        refine Rn.cge rfl (X_ild rfl <| X_ald rfl <| X_gr 8 0 hM.ob ⟨rfl, rfl⟩ rfl rfl <| X_i <| X_ia hM.w (by first | omega | (simp (disch := omega) only [um_eq, um_na, um_ni, Int.toNat_natCast]; omega)) (by first | omega | (simp (disch := omega) only [um_eq, um_na, um_ni, Int.toNat_natCast]; omega)) rfl <| X_nil) (by first | omega | (simp (disch := omega) only [um_eq, um_na, um_ni, Int.toNat_natCast]; omega)) (by first | omega | (simp (disch := omega) only [um_eq, um_na, um_ni, Int.toNat_natCast]; omega)) (fun hc => absurd hc (by first | omega | decide | (simp (disch := omega) only [um_eq, um_na, um_ni, Int.toNat_natCast]; omega))) (fun hc => ?_)
        refine Rn.cal rfl (X_ild rfl <| X_ald rfl <| X_ild rfl <| X_nil) (vs := [_, _]) (rest := [_]) rfl rfl rfl (rcv_v hM.ob (by decide)) (c) ?_
        refine Rn.cne rfl (X_ild rfl <| X_nil) (by first | omega | (simp (disch := omega) only [um_eq, um_na, um_ni, Int.toNat_natCast]; omega)) (by first | omega | (simp (disch := omega) only [um_eq, um_na, um_ni, Int.toNat_natCast]; omega)) (fun hc => absurd hc (by first | omega | decide | (simp (disch := omega) only [um_eq, um_na, um_ni, Int.toNat_natCast]; omega))) (fun hc => ?_)
        refine Rn.jto rfl (X_i <| X_ild rfl <| X_shl <| X_nil) ?_
        refine Rn.jto rfl (X_or <| X_ist rfl (L' := [_, _, _, _]) rfl <| X_inc rfl (L' := [_, _, _, _]) rfl <| X_nil) ?_
        exact nx
      · rw [show suW u n z l (s + 1) = suW u n z l s from if_neg hc] at nx
        refine Rn.cge rfl (X_ild rfl <| X_ald rfl <| X_gr 8 0 hM.ob ⟨rfl, rfl⟩ rfl rfl <| X_i <| X_ia hM.w (by first | omega | (simp (disch := omega) only [um_eq, um_na, um_ni, Int.toNat_natCast]; omega)) (by first | omega | (simp (disch := omega) only [um_eq, um_na, um_ni, Int.toNat_natCast]; omega)) rfl <| X_nil) (by first | omega | (simp (disch := omega) only [um_eq, um_na, um_ni, Int.toNat_natCast]; omega)) (by first | omega | (simp (disch := omega) only [um_eq, um_na, um_ni, Int.toNat_natCast]; omega)) (fun hc => absurd hc (by first | omega | decide | (simp (disch := omega) only [um_eq, um_na, um_ni, Int.toNat_natCast]; omega))) (fun hc => ?_)
        refine Rn.cal rfl (X_ild rfl <| X_ald rfl <| X_ild rfl <| X_nil) (vs := [_, _]) (rest := [_]) rfl rfl rfl (rcv_v hM.ob (by decide)) (c) ?_
        refine Rn.cne rfl (X_ild rfl <| X_nil) (by first | omega | (simp (disch := omega) only [um_eq, um_na, um_ni, Int.toNat_natCast]; omega)) (by first | omega | (simp (disch := omega) only [um_eq, um_na, um_ni, Int.toNat_natCast]; omega)) (fun hc => ?_) (fun hc => absurd hc (by first | omega | decide | (simp (disch := omega) only [um_eq, um_na, um_ni, Int.toNat_natCast]; omega)))
        refine Rn.fal rfl (X_i <| X_nil) ?_
        refine Rn.jto rfl (X_or <| X_ist rfl (L' := [_, _, _, _]) rfl <| X_inc rfl (L' := [_, _, _, _]) rfl <| X_nil) ?_
        rw [or_z bd]
        exact nx
  have bd := suW_in (u := u) (n := n) (z := z) (l := l) (M 5 1).toNat (by omega)
  refine ⟨suW u n z l (M 5 1).toNat, T, M, M, by omega, ⟨_, rfl, ?_⟩, ⟨_, rfl, ?_⟩, g.up1⟩
  · refine Rn.cal rfl (X_ild rfl <| X_i <| X_i <| X_nil) (vs := [_, _, _]) (rest := []) rfl rfl rfl rfl (c_wY (by omega) (by decide) (by decide) h1) ?_
    refine Rn.ine rfl (X_nil) (by first | omega | (simp (disch := omega) only [um_eq, um_na, um_ni, Int.toNat_natCast]; omega)) (fun hc => ?_) (fun hc => absurd hc (by first | omega | decide | (simp (disch := omega) only [um_eq, um_na, um_ni, Int.toNat_natCast]; omega)))
    refine Rn.cal rfl (X_ald rfl <| X_gr 7 0 hX.ob ⟨rfl, rfl⟩ rfl rfl <| X_gr 6 2 hX.s1.st ⟨rfl, rfl⟩ rfl rfl <| X_ild rfl <| X_ald rfl <| X_gr 7 0 hX.ob ⟨rfl, rfl⟩ rfl rfl <| X_gr 6 1 hX.s1.st ⟨rfl, rfl⟩ rfl rfl <| X_gi 0 1 1 hX.s1.be ⟨rfl, rfl, rfl⟩ (Or.inl rfl) <| X_nil) (vs := [_, _, _]) (rest := []) rfl rfl rfl (rcv_v hX.s1.no (by decide)) (cs) ?_
    refine Rn.ri rfl (X_nil) rfl
  · refine Rn.cal rfl (X_ild rfl <| X_i2l (by first | omega | (simp (disch := omega) only [um_eq, um_na, um_ni, Int.toNat_natCast]; omega)) <| X_l <| X_l <| X_nil) (vs := [_, _, _]) (rest := []) rfl rfl rfl rfl (c_iY (by omega) (by decide) (by decide) h1) ?_
    refine Rn.ine rfl (X_nil) (by first | omega | (simp (disch := omega) only [um_eq, um_na, um_ni, Int.toNat_natCast]; omega)) (fun hc => ?_) (fun hc => absurd hc (by first | omega | decide | (simp (disch := omega) only [um_eq, um_na, um_ni, Int.toNat_natCast]; omega)))
    refine Rn.fal rfl (X_i <| X_ist rfl (L' := [_, _, _, _]) rfl <| X_i <| X_ist rfl (L' := [_, _, _, _]) rfl <| X_nil) ?_
    exact mloop (M 5 1).toNat 0 (by omega)
end Who
