/-! TURNS: the class -/
section TurnsB
variable {S : List Int} {T : List Sh} {D : Nat → Int → Int} {b z n : Nat} {B : Int}
def lT (D : Nat → Int → Int) (b s : Nat) : Int := lightC D (b + 16 + 2 * s) 60
def eT (D : Nat → Int → Int) (b s : Nat) : Int := if D (b + 1) 5 = 0 then D (b + 16 + 2 * s) 3 + D (b + 1) 8 else 0
/-- what the turns need -/
def TuOk (D : Nat → Int → Int) (b z n : Nat) : Prop := D (b + 4) 1 = (z : Int) ∧ (0 < z ∧ z ≤ 4) ∧ n ≤ 6 ∧ (∀ s, s < z → TrOk D (b + 16 + 2 * s)) ∧ (0 ≤ D (b + 1) 8 ∧ D (b + 1) 8 ≤ 400) ∧ (0 ≤ D (b + 1) 5 ∧ D (b + 1) 5 ≤ 1)
theorem TuOk.l (h : TuOk D b z n) {s : Nat} (hs : s < z) : 0 ≤ lT D b s ∧ lT D b s ≤ 2700 := lightC_in (h.2.2.2.1 s hs) (by decide) (by decide)
theorem TuOk.e (h : TuOk D b z n) {s : Nat} (hs : s < z) : 0 ≤ eT D b s ∧ eT D b s ≤ 420 := by
  have t := (h.2.2.2.1 s hs).2.2.2.1
  have w := h.2.2.2.2.1
  unfold eT
  split <;> omega
theorem TuOk.bu (h : TuOk D b z n) {s o : Nat} (hs : s < z) (ho : o ≤ 7) : 0 ≤ buT n (lT D b) (eT D b) s o ∧ buT n (lT D b) (eT D b) s o ≤ 30000 := by
  have l := h.l hs
  have e := h.e hs
  have n6 := h.2.2.1
  have m1 := Int.mul_le_mul_of_nonneg_right (show (n : Int) ≤ 6 by omega) l.1
  have m2 := Int.mul_le_mul_of_nonneg_right (show (o : Int) ≤ 7 by omega) e.1
  have m3 := Int.mul_nonneg (show 0 ≤ (n : Int) by omega) l.1
  have m4 := Int.mul_nonneg (show 0 ≤ (o : Int) by omega) e.1
  unfold buT
  omega
theorem t_bu {s o : Nat} (hS : isSt T b) (h : TuOk D b z n) (hs : s < z) : Cl S 61 [vR b, vI (s : Int), vI (n : Int), vI (o : Int)] (T, D) (some (vI (buT n (lT D b) (eT D b) s o)), (T, D)) := by
  have z4 := h.2.1
  have c5 := h.2.2.2.2.2
  have s4 : s < 4 := by omega
  have cl := c_light (S := S) (M := D) (b := b) (i := s) (t := 60) hS s4 (h.2.2.2.1 s hs) (by decide) (by decide)
  refine ⟨_, rfl, ?_⟩
  by_cases c : D (b + 1) 5 = 0
  · have ce := c_errandOf (S := S) (M := D) (b := b) (s := s) (u := 0) hS s4 (Or.inl rfl)
    rw [if_pos rfl] at ce
    rw [show buT n (lT D b) (eT D b) s o = (n : Int) * lightC D (b + 16 + 2 * s) 60 + (o : Int) * (D (b + 16 + 2 * s) 3 + D (b + 1) 8) by
      unfold buT lT eT
      rw [if_pos c]]
    refine Rn.ine rfl (X_ald rfl <| X_gr 6 0 hS.st ⟨rfl, rfl⟩ rfl rfl <| X_gi 1 5 5 hS.fl ⟨rfl, rfl, rfl⟩ (Or.inl rfl) <| X_nil) (by first | omega | (simp (disch := omega) only [um_eq, um_na, um_ni, Int.toNat_natCast]; omega)) (fun hc => absurd hc (by first | omega | decide | (simp (disch := omega) only [um_eq, um_na, um_ni, Int.toNat_natCast]; omega))) (fun hc => ?_)
    refine Rn.cal rfl (X_ald rfl <| X_ild rfl <| X_i <| X_nil) (vs := [_, _, _]) (rest := []) rfl rfl rfl (rcv_v hS.st (by decide)) (ce) ?_
    refine Rn.jto rfl (X_nil) ?_
    refine Rn.cal rfl (X_ist rfl (L' := [_, _, _, _, _]) rfl <| X_ild rfl <| X_ald rfl <| X_gr 6 1 hS.st ⟨rfl, rfl⟩ rfl rfl <| X_gr 0 0 hS.be ⟨rfl, rfl⟩ rfl rfl <| X_ild rfl <| X_aa hS.sl (by decide) (by first | omega | (simp (disch := omega) only [um_eq, um_na, um_ni, Int.toNat_natCast]; omega)) (by first | omega | (simp (disch := omega) only [um_eq, um_na, um_ni, Int.toNat_natCast]; omega)) rfl (rSl_at (by omega)) <| X_i <| X_nil) (vs := [_, _]) (rest := [_]) rfl rfl rfl (rcv_v (hS.se (by omega)) (by decide)) (cl) ?_
    refine Rn.ri rfl (X_mul <| X_ild rfl <| X_ild rfl <| X_mul <| X_add <| X_nil) rfl
  · rw [show buT n (lT D b) (eT D b) s o = (n : Int) * lightC D (b + 16 + 2 * s) 60 + (o : Int) * 0 by
      unfold buT lT eT
      rw [if_neg c]]
    refine Rn.ine rfl (X_ald rfl <| X_gr 6 0 hS.st ⟨rfl, rfl⟩ rfl rfl <| X_gi 1 5 5 hS.fl ⟨rfl, rfl, rfl⟩ (Or.inl rfl) <| X_nil) (by first | omega | (simp (disch := omega) only [um_eq, um_na, um_ni, Int.toNat_natCast]; omega)) (fun hc => ?_) (fun hc => absurd hc (by first | omega | decide | (simp (disch := omega) only [um_eq, um_na, um_ni, Int.toNat_natCast]; omega)))
    refine Rn.fal rfl (X_i <| X_nil) ?_
    refine Rn.cal rfl (X_ist rfl (L' := [_, _, _, _, _]) rfl <| X_ild rfl <| X_ald rfl <| X_gr 6 1 hS.st ⟨rfl, rfl⟩ rfl rfl <| X_gr 0 0 hS.be ⟨rfl, rfl⟩ rfl rfl <| X_ild rfl <| X_aa hS.sl (by decide) (by first | omega | (simp (disch := omega) only [um_eq, um_na, um_ni, Int.toNat_natCast]; omega)) (by first | omega | (simp (disch := omega) only [um_eq, um_na, um_ni, Int.toNat_natCast]; omega)) rfl (rSl_at (by omega)) <| X_i <| X_nil) (vs := [_, _]) (rest := [_]) rfl rfl rfl (rcv_v (hS.se (by omega)) (by decide)) (cl) ?_
    refine Rn.ri rfl (X_mul <| X_ild rfl <| X_ild rfl <| X_mul <| X_add <| X_nil) rfl
theorem t_own {s : Nat} (hS : isSt T b) (h : TuOk D b z n) (hs : s < z) (iB : I32 B) : Cl S 64 [vR b, vI (s : Int), vI B, vI (n : Int)] (T, D) (some (vI ((owT n (lT D b) (eT D b) B s : Nat) : Int)), (T, D)) := by
  have w := owT_is n (lT D b) (eT D b) B s
  have n6 := h.2.2.1
  have loop : ∀ (k o : Nat), o + k = owT n (lT D b) (eT D b) B s → Rn S 64 3 ([], [some (vR b), some (vI (s : Int)), some (vI B), some (vI (n : Int)), some (vI (o : Int))], T, D) (some (vI ((owT n (lT D b) (eT D b) B s : Nat) : Int)), (T, D)) := by
    intro k
    induction k with
    | zero =>
      intro o ho
      have eo : owT n (lT D b) (eT D b) B s = o := by omega
      have w1 := w.1
      rw [eo] at w1 ⊢
      have cb := t_bu (S := S) (s := s) (o := o + 1) hS h hs
      rw [show ((o + 1 : Nat) : Int) = (o : Int) + 1 by omega] at cb
      by_cases c : o < n
      · have x := w.2.2 (by omega)
        rw [eo] at x
        have y := h.bu (s := s) (o := o + 1) hs (by omega)
        refine Rn.cge rfl (X_ild rfl <| X_ild rfl <| X_nil) (by first | omega | (simp (disch := omega) only [um_eq, um_na, um_ni, Int.toNat_natCast]; omega)) (by first | omega | (simp (disch := omega) only [um_eq, um_na, um_ni, Int.toNat_natCast]; omega)) (fun hc => absurd hc (by first | omega | decide | (simp (disch := omega) only [um_eq, um_na, um_ni, Int.toNat_natCast]; omega))) (fun hc => ?_)
        refine Rn.cal rfl (X_ald rfl <| X_ild rfl <| X_ild rfl <| X_ild rfl <| X_i <| X_add <| X_nil) (vs := [_, _, _, _]) (rest := []) rfl rfl rfl (rcv_v hS.st (by decide)) (cb) ?_
        refine Rn.cgt rfl (X_ild rfl <| X_nil) (by first | omega | (simp (disch := omega) only [um_eq, um_na, um_ni, Int.toNat_natCast]; omega)) (by first | omega | (simp (disch := omega) only [um_eq, um_na, um_ni, Int.toNat_natCast]; omega)) (fun hc => ?_) (fun hc => absurd hc (by first | omega | decide | (simp (disch := omega) only [um_eq, um_na, um_ni, Int.toNat_natCast]; omega)))
        refine Rn.ri rfl (X_ild rfl <| X_nil) rfl
      · refine Rn.cge rfl (X_ild rfl <| X_ild rfl <| X_nil) (by first | omega | (simp (disch := omega) only [um_eq, um_na, um_ni, Int.toNat_natCast]; omega)) (by first | omega | (simp (disch := omega) only [um_eq, um_na, um_ni, Int.toNat_natCast]; omega)) (fun hc => ?_) (fun hc => absurd hc (by first | omega | decide | (simp (disch := omega) only [um_eq, um_na, um_ni, Int.toNat_natCast]; omega)))
        refine Rn.ri rfl (X_ild rfl <| X_nil) rfl
    | succ k ih =>
      intro o ho
      have nx := ih (o + 1) (by omega)
      have cb := t_bu (S := S) (s := s) (o := o + 1) hS h hs
      rw [show ((o + 1 : Nat) : Int) = (o : Int) + 1 by omega] at cb
      have x := w.2.1 o (by omega)
      have w1 := w.1
      have y := h.bu (s := s) (o := o + 1) hs (by omega)
      refine Rn.cge rfl (X_ild rfl <| X_ild rfl <| X_nil) (by first | omega | (simp (disch := omega) only [um_eq, um_na, um_ni, Int.toNat_natCast]; omega)) (by first | omega | (simp (disch := omega) only [um_eq, um_na, um_ni, Int.toNat_natCast]; omega)) (fun hc => absurd hc (by first | omega | decide | (simp (disch := omega) only [um_eq, um_na, um_ni, Int.toNat_natCast]; omega))) (fun hc => ?_)
      refine Rn.cal rfl (X_ald rfl <| X_ild rfl <| X_ild rfl <| X_ild rfl <| X_i <| X_add <| X_nil) (vs := [_, _, _, _]) (rest := []) rfl rfl rfl (rcv_v hS.st (by decide)) (cb) ?_
      refine Rn.cgt rfl (X_ild rfl <| X_nil) (by first | omega | (simp (disch := omega) only [um_eq, um_na, um_ni, Int.toNat_natCast]; omega)) (by first | omega | (simp (disch := omega) only [um_eq, um_na, um_ni, Int.toNat_natCast]; omega)) (fun hc => absurd hc (by first | omega | decide | (simp (disch := omega) only [um_eq, um_na, um_ni, Int.toNat_natCast]; omega))) (fun hc => ?_)
      refine Rn.jto rfl (X_inc rfl (L' := [_, _, _, _, _]) rfl <| X_nil) ?_
      exact nx
  refine ⟨_, rfl, ?_⟩
  refine Rn.fal rfl (X_i <| X_ist rfl (L' := [_, _, _, _, _]) rfl <| X_nil) ?_
  exact loop _ 0 (Nat.zero_add _)
theorem t_in (hS : isSt T b) (h : TuOk D b z n) (iB : I32 B) : Cl S 63 [vR b, vI B, vI (n : Int)] (T, D) (some (vI ((sN (owT n (lT D b) (eT D b) B) z : Nat) : Int)), (T, D)) := by
  have z4 := h.2.1
  have ez := h.1
  have loop : ∀ (k s : Nat), s + k = z → Rn S 63 5 ([], [some (vR b), some (vI B), some (vI (n : Int)), some (vI ((sN (owT n (lT D b) (eT D b) B) s : Nat) : Int)), some (vI (s : Int))], T, D) (some (vI ((sN (owT n (lT D b) (eT D b) B) z : Nat) : Int)), (T, D)) := by
    intro k
    induction k with
    | zero =>
      intro s hs
      have es : s = z := by omega
      rw [← es]
      refine Rn.cge rfl (X_ild rfl <| X_ald rfl <| X_gr 6 1 hS.st ⟨rfl, rfl⟩ rfl rfl <| X_gi 0 1 1 hS.be ⟨rfl, rfl, rfl⟩ (Or.inl rfl) <| X_nil) (by first | omega | (simp (disch := omega) only [um_eq, um_na, um_ni, Int.toNat_natCast]; omega)) (by first | omega | (simp (disch := omega) only [um_eq, um_na, um_ni, Int.toNat_natCast]; omega)) (fun hc => ?_) (fun hc => absurd hc (by first | omega | decide | (simp (disch := omega) only [um_eq, um_na, um_ni, Int.toNat_natCast]; omega)))
      refine Rn.ri rfl (X_ild rfl <| X_nil) rfl
    | succ k ih =>
      intro s hs
      have nx := ih (s + 1) (by omega)
      have co := t_own (S := S) (B := B) (s := s) hS h (by omega) iB
      rw [show ((sN (owT n (lT D b) (eT D b) B) (s + 1) : Nat) : Int) = ((sN (owT n (lT D b) (eT D b) B) s : Nat) : Int) + ((owT n (lT D b) (eT D b) B s : Nat) : Int) by
        show ((sN (owT n (lT D b) (eT D b) B) s + owT n (lT D b) (eT D b) B s : Nat) : Int) = _
        omega] at nx
      refine Rn.cge rfl (X_ild rfl <| X_ald rfl <| X_gr 6 1 hS.st ⟨rfl, rfl⟩ rfl rfl <| X_gi 0 1 1 hS.be ⟨rfl, rfl, rfl⟩ (Or.inl rfl) <| X_nil) (by first | omega | (simp (disch := omega) only [um_eq, um_na, um_ni, Int.toNat_natCast]; omega)) (by first | omega | (simp (disch := omega) only [um_eq, um_na, um_ni, Int.toNat_natCast]; omega)) (fun hc => absurd hc (by first | omega | decide | (simp (disch := omega) only [um_eq, um_na, um_ni, Int.toNat_natCast]; omega))) (fun hc => ?_)
      refine Rn.cal rfl (X_ild rfl <| X_ald rfl <| X_ild rfl <| X_ild rfl <| X_ild rfl <| X_nil) (vs := [_, _, _, _]) (rest := [_]) rfl rfl rfl (rcv_v hS.st (by decide)) (co) ?_
      refine Rn.jto rfl (X_add <| X_ist rfl (L' := [_, _, _, _, _]) rfl <| X_inc rfl (L' := [_, _, _, _, _]) rfl <| X_nil) ?_
      exact nx
  refine ⟨_, rfl, ?_⟩
  refine Rn.fal rfl (X_i <| X_ist rfl (L' := [_, _, _, _, _]) rfl <| X_i <| X_ist rfl (L' := [_, _, _, _, _]) rfl <| X_nil) ?_
  exact loop z 0 (by omega)
theorem t_next (hS : isSt T b) (h : TuOk D b z n) (iB : I32 B) : Cl S 65 [vR b, vI B, vI (n : Int)] (T, D) (some (vI (nxT n (lT D b) (eT D b) (owT n (lT D b) (eT D b) B) z)), (T, D)) := by
  have z4 := h.2.1
  have ez := h.1
  have n6 := h.2.2.1
  have bd : ∀ s : Nat, s ≤ z → 0 ≤ nxT n (lT D b) (eT D b) (owT n (lT D b) (eT D b) B) s ∧ nxT n (lT D b) (eT D b) (owT n (lT D b) (eT D b) B) s ≤ 1000000000 := fun s hs => by
    rcases nxT_at (n := n) (l := lT D b) (e := eT D b) (w := owT n (lT D b) (eT D b) B) s with q | ⟨t, t1, t2, t3⟩
    · omega
    · have := h.bu (s := t) (o := owT n (lT D b) (eT D b) B t + 1) (by omega) (by omega)
      omega
  have loop : ∀ (k s : Nat) (w : Option AV), s + k = z → Rn S 65 6 ([], [some (vR b), some (vI B), some (vI (n : Int)), some (vI (nxT n (lT D b) (eT D b) (owT n (lT D b) (eT D b) B) s)), some (vI (s : Int)), w], T, D) (some (vI (nxT n (lT D b) (eT D b) (owT n (lT D b) (eT D b) B) z)), (T, D)) := by
    intro k
    induction k with
    | zero =>
      intro s w hs
      have es : s = z := by omega
      rw [← es]
      refine Rn.cge rfl (X_ild rfl <| X_ald rfl <| X_gr 6 1 hS.st ⟨rfl, rfl⟩ rfl rfl <| X_gi 0 1 1 hS.be ⟨rfl, rfl, rfl⟩ (Or.inl rfl) <| X_nil) (by first | omega | (simp (disch := omega) only [um_eq, um_na, um_ni, Int.toNat_natCast]; omega)) (by first | omega | (simp (disch := omega) only [um_eq, um_na, um_ni, Int.toNat_natCast]; omega)) (fun hc => ?_) (fun hc => absurd hc (by first | omega | decide | (simp (disch := omega) only [um_eq, um_na, um_ni, Int.toNat_natCast]; omega)))
      refine Rn.ri rfl (X_ild rfl <| X_nil) rfl
    | succ k ih =>
      intro s w hs
      have nx := ih (s + 1) (some (vI ((owT n (lT D b) (eT D b) B s : Nat) : Int))) (by omega)
      have co := t_own (S := S) (B := B) (s := s) hS h (by omega) iB
      have cb := t_bu (S := S) (s := s) (o := owT n (lT D b) (eT D b) B s + 1) hS h (by omega)
      have o1 := (owT_is n (lT D b) (eT D b) B s).1
      have y := h.bu (s := s) (o := owT n (lT D b) (eT D b) B s + 1) (by omega) (by omega)
      have bs := bd s (by omega)
      have es := show nxT n (lT D b) (eT D b) (owT n (lT D b) (eT D b) B) (s + 1) = if owT n (lT D b) (eT D b) B s < n then (if buT n (lT D b) (eT D b) s (owT n (lT D b) (eT D b) B s + 1) < nxT n (lT D b) (eT D b) (owT n (lT D b) (eT D b) B) s then buT n (lT D b) (eT D b) s (owT n (lT D b) (eT D b) B s + 1) else nxT n (lT D b) (eT D b) (owT n (lT D b) (eT D b) B) s) else nxT n (lT D b) (eT D b) (owT n (lT D b) (eT D b) B) s from rfl
      rw [show ((owT n (lT D b) (eT D b) B s + 1 : Nat) : Int) = ((owT n (lT D b) (eT D b) B s : Nat) : Int) + 1 by omega] at cb
      by_cases c : owT n (lT D b) (eT D b) B s < n
      · rw [if_pos c] at es
        rw [es] at nx
        refine Rn.cge rfl (X_ild rfl <| X_ald rfl <| X_gr 6 1 hS.st ⟨rfl, rfl⟩ rfl rfl <| X_gi 0 1 1 hS.be ⟨rfl, rfl, rfl⟩ (Or.inl rfl) <| X_nil) (by first | omega | (simp (disch := omega) only [um_eq, um_na, um_ni, Int.toNat_natCast]; omega)) (by first | omega | (simp (disch := omega) only [um_eq, um_na, um_ni, Int.toNat_natCast]; omega)) (fun hc => absurd hc (by first | omega | decide | (simp (disch := omega) only [um_eq, um_na, um_ni, Int.toNat_natCast]; omega))) (fun hc => ?_)
        refine Rn.cal rfl (X_ald rfl <| X_ild rfl <| X_ild rfl <| X_ild rfl <| X_nil) (vs := [_, _, _, _]) (rest := []) rfl rfl rfl (rcv_v hS.st (by decide)) (co) ?_
        refine Rn.cge rfl (X_ist rfl (L' := [_, _, _, _, _, _]) rfl <| X_ild rfl <| X_ild rfl <| X_nil) (by first | omega | (simp (disch := omega) only [um_eq, um_na, um_ni, Int.toNat_natCast]; omega)) (by first | omega | (simp (disch := omega) only [um_eq, um_na, um_ni, Int.toNat_natCast]; omega)) (fun hc => absurd hc (by first | omega | decide | (simp (disch := omega) only [um_eq, um_na, um_ni, Int.toNat_natCast]; omega))) (fun hc => ?_)
        refine Rn.cal rfl (X_ild rfl <| X_ald rfl <| X_ild rfl <| X_ild rfl <| X_ild rfl <| X_i <| X_add <| X_nil) (vs := [_, _, _, _]) (rest := [_]) rfl rfl rfl (rcv_v hS.st (by decide)) (cb) ?_
        refine Rn.fal rfl (X_min (by first | omega | (simp (disch := omega) only [um_eq, um_na, um_ni, Int.toNat_natCast]; omega)) (by first | omega | (simp (disch := omega) only [um_eq, um_na, um_ni, Int.toNat_natCast]; omega)) rfl <| X_ist rfl (L' := [_, _, _, _, _, _]) rfl <| X_nil) ?_
        refine Rn.jto rfl (X_inc rfl (L' := [_, _, _, _, _, _]) rfl <| X_nil) ?_
        exact nx
      · rw [if_neg c] at es
        rw [es] at nx
        refine Rn.cge rfl (X_ild rfl <| X_ald rfl <| X_gr 6 1 hS.st ⟨rfl, rfl⟩ rfl rfl <| X_gi 0 1 1 hS.be ⟨rfl, rfl, rfl⟩ (Or.inl rfl) <| X_nil) (by first | omega | (simp (disch := omega) only [um_eq, um_na, um_ni, Int.toNat_natCast]; omega)) (by first | omega | (simp (disch := omega) only [um_eq, um_na, um_ni, Int.toNat_natCast]; omega)) (fun hc => absurd hc (by first | omega | decide | (simp (disch := omega) only [um_eq, um_na, um_ni, Int.toNat_natCast]; omega))) (fun hc => ?_)
        refine Rn.cal rfl (X_ald rfl <| X_ild rfl <| X_ild rfl <| X_ild rfl <| X_nil) (vs := [_, _, _, _]) (rest := []) rfl rfl rfl (rcv_v hS.st (by decide)) (co) ?_
        refine Rn.cge rfl (X_ist rfl (L' := [_, _, _, _, _, _]) rfl <| X_ild rfl <| X_ild rfl <| X_nil) (by first | omega | (simp (disch := omega) only [um_eq, um_na, um_ni, Int.toNat_natCast]; omega)) (by first | omega | (simp (disch := omega) only [um_eq, um_na, um_ni, Int.toNat_natCast]; omega)) (fun hc => ?_) (fun hc => absurd hc (by first | omega | decide | (simp (disch := omega) only [um_eq, um_na, um_ni, Int.toNat_natCast]; omega)))
        refine Rn.jto rfl (X_inc rfl (L' := [_, _, _, _, _, _]) rfl <| X_nil) ?_
        exact nx
  refine ⟨_, rfl, ?_⟩
  refine Rn.fal rfl (X_i <| X_ist rfl (L' := [_, _, _, _, _, _]) rfl <| X_i <| X_ist rfl (L' := [_, _, _, _, _, _]) rfl <| X_nil) ?_
  exact loop z 0 none (by omega)
theorem t_least (hS : isSt T b) (h : TuOk D b z n) : ∃ B, Cl S 62 [vR b, vI (n : Int)] (T, D) (some (vI B), (T, D)) ∧ LoT z n (lT D b) (eT D b) B ∧ n ≤ sN (owT n (lT D b) (eT D b) B) z ∧ B < 1000000000 := by
  have z4 := h.2.1
  have ez := h.1
  have n6 := h.2.2.1
  have he : ∀ s, s < z → 0 ≤ eT D b s := fun s hs => (h.e hs).1
  have hb : ∀ s o, s < z → o ≤ n → buT n (lT D b) (eT D b) s o < 1000000000 := fun s o hs ho => by
    have := h.bu (s := s) (o := o) hs (by omega)
    omega
  have up : ∀ (k : Nat) (B : Int) (t : Nat), LoT z n (lT D b) (eT D b) B → B < 1000000000 → n ≤ sN (owT n (lT D b) (eT D b) B) z + k → t + k ≤ 24 → ∃ B', LoT z n (lT D b) (eT D b) B' ∧ n ≤ sN (owT n (lT D b) (eT D b) B') z ∧ B' < 1000000000 ∧ Rn S 62 35 ([], [some (vR b), some (vI (n : Int)), some (vI B), some (vI (t : Int))], T, D) (some (vI B'), (T, D)) := by
    intro k
    induction k with
    | zero =>
      intro B t h1 h2 h3 h4
      have b0 := h1.1
      have ct := t_in (S := S) (B := B) hS h (by omega)
      have ti : sN (owT n (lT D b) (eT D b) B) z ≤ sN (fun _ => n) z := sN_le z (fun s _ => (owT_is n (lT D b) (eT D b) B s).1)
      have tj : ∀ z : Nat, sN (fun _ => n) z ≤ 6 * z := fun z => by
        induction z with
        | zero => exact Nat.le_refl 0
        | succ z ih => show sN (fun _ => n) z + n ≤ _; omega
      have tz := tj z
      refine ⟨B, h1, by omega, h2, ?_⟩
      by_cases c : t < 24
      · refine Rn.cge rfl (X_ild rfl <| X_i <| X_nil) (by first | omega | (simp (disch := omega) only [um_eq, um_na, um_ni, Int.toNat_natCast]; omega)) (by first | omega | (simp (disch := omega) only [um_eq, um_na, um_ni, Int.toNat_natCast]; omega)) (fun hc => absurd hc (by first | omega | decide | (simp (disch := omega) only [um_eq, um_na, um_ni, Int.toNat_natCast]; omega))) (fun hc => ?_)
        refine Rn.cal rfl (X_ald rfl <| X_ild rfl <| X_ild rfl <| X_nil) (vs := [_, _, _]) (rest := []) rfl rfl rfl (rcv_v hS.st (by decide)) (ct) ?_
        refine Rn.cge rfl (X_ild rfl <| X_nil) (by first | omega | (simp (disch := omega) only [um_eq, um_na, um_ni, Int.toNat_natCast]; omega)) (by first | omega | (simp (disch := omega) only [um_eq, um_na, um_ni, Int.toNat_natCast]; omega)) (fun hc => ?_) (fun hc => absurd hc (by first | omega | decide | (simp (disch := omega) only [um_eq, um_na, um_ni, Int.toNat_natCast]; omega)))
        refine Rn.ri rfl (X_ild rfl <| X_nil) rfl
      · refine Rn.cge rfl (X_ild rfl <| X_i <| X_nil) (by first | omega | (simp (disch := omega) only [um_eq, um_na, um_ni, Int.toNat_natCast]; omega)) (by first | omega | (simp (disch := omega) only [um_eq, um_na, um_ni, Int.toNat_natCast]; omega)) (fun hc => ?_) (fun hc => absurd hc (by first | omega | decide | (simp (disch := omega) only [um_eq, um_na, um_ni, Int.toNat_natCast]; omega)))
        refine Rn.ri rfl (X_ild rfl <| X_nil) rfl
    | succ k ih =>
      intro B t h1 h2 h3 h4
      have b0 := h1.1
      have ct := t_in (S := S) (B := B) hS h (by omega)
      have ti : sN (owT n (lT D b) (eT D b) B) z ≤ sN (fun _ => n) z := sN_le z (fun s _ => (owT_is n (lT D b) (eT D b) B s).1)
      have tj : ∀ z : Nat, sN (fun _ => n) z ≤ 6 * z := fun z => by
        induction z with
        | zero => exact Nat.le_refl 0
        | succ z ih => show sN (fun _ => n) z + n ≤ _; omega
      have tz := tj z
      by_cases c : n ≤ sN (owT n (lT D b) (eT D b) B) z
      · refine ⟨B, h1, c, h2, ?_⟩
        refine Rn.cge rfl (X_ild rfl <| X_i <| X_nil) (by first | omega | (simp (disch := omega) only [um_eq, um_na, um_ni, Int.toNat_natCast]; omega)) (by first | omega | (simp (disch := omega) only [um_eq, um_na, um_ni, Int.toNat_natCast]; omega)) (fun hc => absurd hc (by first | omega | decide | (simp (disch := omega) only [um_eq, um_na, um_ni, Int.toNat_natCast]; omega))) (fun hc => ?_)
        refine Rn.cal rfl (X_ald rfl <| X_ild rfl <| X_ild rfl <| X_nil) (vs := [_, _, _]) (rest := []) rfl rfl rfl (rcv_v hS.st (by decide)) (ct) ?_
        refine Rn.cge rfl (X_ild rfl <| X_nil) (by first | omega | (simp (disch := omega) only [um_eq, um_na, um_ni, Int.toNat_natCast]; omega)) (by first | omega | (simp (disch := omega) only [um_eq, um_na, um_ni, Int.toNat_natCast]; omega)) (fun hc => ?_) (fun hc => absurd hc (by first | omega | decide | (simp (disch := omega) only [um_eq, um_na, um_ni, Int.toNat_natCast]; omega)))
        refine Rn.ri rfl (X_ild rfl <| X_nil) rfl
      · obtain ⟨k1, k2, k3⟩ := LoT_next z4.1 he hb h1 (by omega)
        obtain ⟨B', i1, i2, i3, i4⟩ := ih _ (t + 1) k1 k3 (by omega) (by omega)
        have cn := t_next (S := S) (B := B) hS h (by omega)
        refine ⟨B', i1, i2, i3, ?_⟩
        refine Rn.cge rfl (X_ild rfl <| X_i <| X_nil) (by first | omega | (simp (disch := omega) only [um_eq, um_na, um_ni, Int.toNat_natCast]; omega)) (by first | omega | (simp (disch := omega) only [um_eq, um_na, um_ni, Int.toNat_natCast]; omega)) (fun hc => absurd hc (by first | omega | decide | (simp (disch := omega) only [um_eq, um_na, um_ni, Int.toNat_natCast]; omega))) (fun hc => ?_)
        refine Rn.cal rfl (X_ald rfl <| X_ild rfl <| X_ild rfl <| X_nil) (vs := [_, _, _]) (rest := []) rfl rfl rfl (rcv_v hS.st (by decide)) (ct) ?_
        refine Rn.cge rfl (X_ild rfl <| X_nil) (by first | omega | (simp (disch := omega) only [um_eq, um_na, um_ni, Int.toNat_natCast]; omega)) (by first | omega | (simp (disch := omega) only [um_eq, um_na, um_ni, Int.toNat_natCast]; omega)) (fun hc => absurd hc (by first | omega | decide | (simp (disch := omega) only [um_eq, um_na, um_ni, Int.toNat_natCast]; omega))) (fun hc => ?_)
        refine Rn.cal rfl (X_ald rfl <| X_ild rfl <| X_ild rfl <| X_nil) (vs := [_, _, _]) (rest := []) rfl rfl rfl (rcv_v hS.st (by decide)) (cn) ?_
        refine Rn.jto rfl (X_ist rfl (L' := [_, _, _, _]) rfl <| X_inc rfl (L' := [_, _, _, _]) rfl <| X_nil) ?_
        exact i4
  have ms : LoT z n (lT D b) (eT D b) (mxT (fun s => buT n (lT D b) (eT D b) s 0) z) := LoT_start he
  have mb : ∀ s : Nat, s ≤ z → 0 ≤ mxT (fun s => buT n (lT D b) (eT D b) s 0) s ∧ mxT (fun s => buT n (lT D b) (eT D b) s 0) s ≤ 30000 := fun s hs => ⟨(mxT_ge s).1, mxT_le (by decide) s (fun t ht => (h.bu (s := t) (o := 0) (by omega) (by omega)).2)⟩
  obtain ⟨B', i1, i2, i3, i4⟩ := up 6 _ 0 ms (by have := mb z (Nat.le_refl z); omega) (by omega) (by omega)
  have loop : ∀ (k s : Nat), s + k = z → Rn S 62 4 ([], [some (vR b), some (vI (n : Int)), some (vI (mxT (fun s => buT n (lT D b) (eT D b) s 0) s)), some (vI (s : Int))], T, D) (some (vI B'), (T, D)) := by
    intro k
    induction k with
    | zero =>
      intro s hs
      have es : s = z := by omega
      subst es
      refine Rn.cge rfl (X_ild rfl <| X_ald rfl <| X_gr 6 1 hS.st ⟨rfl, rfl⟩ rfl rfl <| X_gi 0 1 1 hS.be ⟨rfl, rfl, rfl⟩ (Or.inl rfl) <| X_nil) (by first | omega | (simp (disch := omega) only [um_eq, um_na, um_ni, Int.toNat_natCast]; omega)) (by first | omega | (simp (disch := omega) only [um_eq, um_na, um_ni, Int.toNat_natCast]; omega)) (fun hc => ?_) (fun hc => absurd hc (by first | omega | decide | (simp (disch := omega) only [um_eq, um_na, um_ni, Int.toNat_natCast]; omega)))
      refine Rn.fal rfl (X_i <| X_ist rfl (L' := [_, _, _, _]) rfl <| X_nil) ?_
      exact i4
    | succ k ih =>
      intro s hs
      have nx := ih (s + 1) (by omega)
      have cb := t_bu (S := S) (s := s) (o := 0) hS h (by omega)
      have y := h.bu (s := s) (o := 0) (by omega) (by omega)
      have m := mb s (by omega)
      rw [show mxT (fun s => buT n (lT D b) (eT D b) s 0) (s + 1) = if mxT (fun s => buT n (lT D b) (eT D b) s 0) s < buT n (lT D b) (eT D b) s 0 then buT n (lT D b) (eT D b) s 0 else mxT (fun s => buT n (lT D b) (eT D b) s 0) s by
        show (if buT n (lT D b) (eT D b) s 0 < mxT (fun s => buT n (lT D b) (eT D b) s 0) s then mxT (fun s => buT n (lT D b) (eT D b) s 0) s else buT n (lT D b) (eT D b) s 0) = _
        split <;> split <;> omega] at nx
      refine Rn.cge rfl (X_ild rfl <| X_ald rfl <| X_gr 6 1 hS.st ⟨rfl, rfl⟩ rfl rfl <| X_gi 0 1 1 hS.be ⟨rfl, rfl, rfl⟩ (Or.inl rfl) <| X_nil) (by first | omega | (simp (disch := omega) only [um_eq, um_na, um_ni, Int.toNat_natCast]; omega)) (by first | omega | (simp (disch := omega) only [um_eq, um_na, um_ni, Int.toNat_natCast]; omega)) (fun hc => absurd hc (by first | omega | decide | (simp (disch := omega) only [um_eq, um_na, um_ni, Int.toNat_natCast]; omega))) (fun hc => ?_)
      refine Rn.cal rfl (X_ild rfl <| X_ald rfl <| X_ild rfl <| X_ild rfl <| X_i <| X_nil) (vs := [_, _, _, _]) (rest := [_]) rfl rfl rfl (rcv_v hS.st (by decide)) (cb) ?_
      refine Rn.jto rfl (X_max (by first | omega | (simp (disch := omega) only [um_eq, um_na, um_ni, Int.toNat_natCast]; omega)) (by first | omega | (simp (disch := omega) only [um_eq, um_na, um_ni, Int.toNat_natCast]; omega)) rfl <| X_ist rfl (L' := [_, _, _, _]) rfl <| X_inc rfl (L' := [_, _, _, _]) rfl <| X_nil) ?_
      exact nx
  refine ⟨B', ⟨_, rfl, ?_⟩, i1, i2, i3⟩
  refine Rn.fal rfl (X_i <| X_ist rfl (L' := [_, _, _, _]) rfl <| X_i <| X_ist rfl (L' := [_, _, _, _]) rfl <| X_nil) ?_
  exact loop z 0 (by omega)
theorem tt_ex {o : Nat → Nat} (h : n ≤ sN o z) : ∃ tt, TtOk z n o tt := by
  have x : ∀ k, ∃ s, k < n → (s < z ∧ sN o s ≤ k ∧ k < sN o s + o s) := fun k => by
    by_cases hk : k < n
    · obtain ⟨q, q1, q2, q3⟩ := first_of (P := fun s => k < sN o (s + 1)) z
      have qz : q < z := by
        by_cases c : q < z
        · exact c
        · have e : q = z := by omega
          cases z with
          | zero =>
            have : sN o 0 = 0 := rfl
            omega
          | succ z =>
            have := q2 z (by omega)
            omega
      refine ⟨q, fun _ => ⟨qz, ?_, q3 qz⟩⟩
      cases q with
      | zero => exact Nat.zero_le k
      | succ q =>
        have := q2 q (by omega)
        omega
    · exact ⟨0, fun h => absurd h hk⟩
  obtain ⟨tt, ht⟩ := Classical.skolem.mp x
  exact ⟨tt, ht⟩
theorem t_whose {tt : Nat → Nat} {i : Nat} (hS : isSt T b) (h : TuOk D b z n) (iB : I32 B) (ht : TtOk z n (owT n (lT D b) (eT D b) B) tt) (hi : i < n) : Cl S 66 [vR b, vI (n : Int), vI B, vI (i : Int)] (T, D) (some (vI ((tt i : Nat) : Int)), (T, D)) := by
  have z4 := h.2.1
  have ez := h.1
  have n6 := h.2.2.1
  obtain ⟨t1, t2, t3⟩ := ht i hi
  have loop : ∀ (k s : Nat), s + k = tt i → Rn S 66 6 ([], [some (vR b), some (vI (n : Int)), some (vI B), some (vI (i : Int)), some (vI ((sN (owT n (lT D b) (eT D b) B) s : Nat) : Int)), some (vI (s : Int))], T, D) (some (vI ((tt i : Nat) : Int)), (T, D)) := by
    intro k
    induction k with
    | zero =>
      intro s hs
      have co := t_own (S := S) (B := B) (s := s) hS h (by omega) iB
      have o1 := (owT_is n (lT D b) (eT D b) B s).1
      have es : s = tt i := by omega
      rw [← es] at t2 t3 ⊢
      refine Rn.cge rfl (X_ild rfl <| X_ald rfl <| X_gr 6 1 hS.st ⟨rfl, rfl⟩ rfl rfl <| X_gi 0 1 1 hS.be ⟨rfl, rfl, rfl⟩ (Or.inl rfl) <| X_nil) (by first | omega | (simp (disch := omega) only [um_eq, um_na, um_ni, Int.toNat_natCast]; omega)) (by first | omega | (simp (disch := omega) only [um_eq, um_na, um_ni, Int.toNat_natCast]; omega)) (fun hc => absurd hc (by first | omega | decide | (simp (disch := omega) only [um_eq, um_na, um_ni, Int.toNat_natCast]; omega))) (fun hc => ?_)
      refine Rn.cal rfl (X_ild rfl <| X_ald rfl <| X_ild rfl <| X_ild rfl <| X_ild rfl <| X_nil) (vs := [_, _, _, _]) (rest := [_]) rfl rfl rfl (rcv_v hS.st (by decide)) (co) ?_
      refine Rn.cge rfl (X_add <| X_ist rfl (L' := [_, _, _, _, _, _]) rfl <| X_ild rfl <| X_ild rfl <| X_nil) (by first | omega | (simp (disch := omega) only [um_eq, um_na, um_ni, Int.toNat_natCast]; omega)) (by first | omega | (simp (disch := omega) only [um_eq, um_na, um_ni, Int.toNat_natCast]; omega)) (fun hc => absurd hc (by first | omega | decide | (simp (disch := omega) only [um_eq, um_na, um_ni, Int.toNat_natCast]; omega))) (fun hc => ?_)
      refine Rn.ri rfl (X_ild rfl <| X_nil) rfl
    | succ k ih =>
      intro s hs
      have nx := ih (s + 1) (by omega)
      have co := t_own (S := S) (B := B) (s := s) hS h (by omega) iB
      have o1 := (owT_is n (lT D b) (eT D b) B s).1
      have m := sN_mono (o := owT n (lT D b) (eT D b) B) (s := s) (tt i) (by omega)
      have e1 : sN (owT n (lT D b) (eT D b) B) (s + 1) = sN (owT n (lT D b) (eT D b) B) s + owT n (lT D b) (eT D b) B s := rfl
      rw [show ((sN (owT n (lT D b) (eT D b) B) (s + 1) : Nat) : Int) = ((sN (owT n (lT D b) (eT D b) B) s : Nat) : Int) + ((owT n (lT D b) (eT D b) B s : Nat) : Int) by omega] at nx
      refine Rn.cge rfl (X_ild rfl <| X_ald rfl <| X_gr 6 1 hS.st ⟨rfl, rfl⟩ rfl rfl <| X_gi 0 1 1 hS.be ⟨rfl, rfl, rfl⟩ (Or.inl rfl) <| X_nil) (by first | omega | (simp (disch := omega) only [um_eq, um_na, um_ni, Int.toNat_natCast]; omega)) (by first | omega | (simp (disch := omega) only [um_eq, um_na, um_ni, Int.toNat_natCast]; omega)) (fun hc => absurd hc (by first | omega | decide | (simp (disch := omega) only [um_eq, um_na, um_ni, Int.toNat_natCast]; omega))) (fun hc => ?_)
      refine Rn.cal rfl (X_ild rfl <| X_ald rfl <| X_ild rfl <| X_ild rfl <| X_ild rfl <| X_nil) (vs := [_, _, _, _]) (rest := [_]) rfl rfl rfl (rcv_v hS.st (by decide)) (co) ?_
      refine Rn.cge rfl (X_add <| X_ist rfl (L' := [_, _, _, _, _, _]) rfl <| X_ild rfl <| X_ild rfl <| X_nil) (by first | omega | (simp (disch := omega) only [um_eq, um_na, um_ni, Int.toNat_natCast]; omega)) (by first | omega | (simp (disch := omega) only [um_eq, um_na, um_ni, Int.toNat_natCast]; omega)) (fun hc => ?_) (fun hc => absurd hc (by first | omega | decide | (simp (disch := omega) only [um_eq, um_na, um_ni, Int.toNat_natCast]; omega)))
      refine Rn.jto rfl (X_inc rfl (L' := [_, _, _, _, _, _]) rfl <| X_nil) ?_
      exact nx
  refine ⟨_, rfl, ?_⟩
  refine Rn.fal rfl (X_i <| X_ist rfl (L' := [_, _, _, _, _, _]) rfl <| X_i <| X_ist rfl (L' := [_, _, _, _, _, _]) rfl <| X_nil) ?_
  exact loop _ 0 (Nat.zero_add _)
end TurnsB
