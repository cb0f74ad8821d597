/-! READ: tokens, numbers and words, by the model -/
section Mtok
variable {S : List Int} {T : List Sh} {C P N : Nat → Int → Int} {n s e : Nat} {f : Nat → Int} {lo hi v : Int} {h : Hp}
def MTx (N : Nat → Int → Int) (n : Nat) (f : Nat → Int) : Prop := N 76 3 = (n : Int) ∧ TxF n f ∧ ∀ i : Nat, i < n → N 79 (i : Int) = f i
theorem MTx.cg (h : MTx N n f) (h3 : P 76 3 = N 76 3) (h79 : P 79 = N 79) : MTx P n f := by
  unfold MTx
  rw [h3, h79]
  exact h
theorem m_byteAt {k : Nat} {x : Int} (hM : isM T) (hc : MTx N n f) (hk : k ≤ 1000) (hx : x = (k : Int)) : Cl S 138 [vR 76, vI x] (T, N) (some (vI (f k)), (T, N)) := by
  obtain ⟨c3, ht, c79⟩ := hc
  have n150 := ht.1
  subst hx
  refine ⟨_, rfl, ?_⟩
  by_cases c : k < n
  · rw [← c79 k c]
    refine Rn.cge rfl (X_ild rfl <| X_ald rfl <| X_gi 8 3 3 hM.ob ⟨rfl, rfl, rfl⟩ (Or.inl rfl) <| X_nil) (by first | omega | (simp (disch := omega) only [um_eq, um_na, um_ni, Int.toNat_natCast]; omega)) (by first | omega | (simp (disch := omega) only [um_eq, um_na, um_ni, Int.toNat_natCast]; omega)) (fun hc => absurd hc (by first | omega | decide | (simp (disch := omega) only [um_eq, um_na, um_ni, Int.toNat_natCast]; omega))) (fun hc => ?_)
    refine Rn.jto rfl (X_ald rfl <| X_gr 8 2 hM.ob ⟨rfl, rfl⟩ rfl rfl <| X_ild rfl <| X_ia hM.te (by first | omega | (simp (disch := omega) only [um_eq, um_na, um_ni, Int.toNat_natCast]; omega)) (by first | omega | (simp (disch := omega) only [um_eq, um_na, um_ni, Int.toNat_natCast]; omega)) rfl <| X_nil) ?_
    refine Rn.ri rfl (X_nil) rfl
  · rw [ht.2.2 k (by omega)]
    refine Rn.cge rfl (X_ild rfl <| X_ald rfl <| X_gi 8 3 3 hM.ob ⟨rfl, rfl, rfl⟩ (Or.inl rfl) <| X_nil) (by first | omega | (simp (disch := omega) only [um_eq, um_na, um_ni, Int.toNat_natCast]; omega)) (by first | omega | (simp (disch := omega) only [um_eq, um_na, um_ni, Int.toNat_natCast]; omega)) (fun hc => ?_) (fun hc => absurd hc (by first | omega | decide | (simp (disch := omega) only [um_eq, um_na, um_ni, Int.toNat_natCast]; omega)))
    refine Rn.fal rfl (X_i <| X_nil) ?_
    refine Rn.ri rfl (X_nil) rfl
theorem m_token (hM : isM T) (hc : MTx N n f) (he : e ≤ n) (h7 : N 76 7 = (e : Int)) : ∃ P, Cl S 139 [vR 76] (T, N) (none, (T, P)) ∧ P 76 7 = ((tE f n (tS f n e) : Nat) : Int) ∧ P 76 8 = ((tS f n e : Nat) : Int) ∧ P 76 9 = (if 48 ≤ f (tS f n e) ∧ f (tS f n e) ≤ 57 then 1 else 0) ∧ P 76 10 = (if 97 ≤ f (tS f n e) ∧ f (tS f n e) ≤ 122 then 1 else 0) ∧ (∀ k, ¬ (7 ≤ k ∧ k ≤ 10) → P 76 k = N 76 k) ∧ (∀ a, a ≠ 76 → P a = N a) := by
  have ht := hc.2.1
  have n150 := ht.1
  have fb := ht.i
  -- spaces
  have sp : ∀ (k i : Nat) (P : Nat → Int → Int), i + k = n → P 76 7 = (i : Int) → (∀ k, k ≠ 7 → P 76 k = N 76 k) → (∀ a, a ≠ 76 → P a = N a) → ∃ P', (∀ r, Rn S 139 26 ([], [some (vR 76)], T, P') r → Rn S 139 0 ([], [some (vR 76)], T, P) r) ∧ P' 76 7 = ((ru 32 32 f n i : Nat) : Int) ∧ (∀ k, k ≠ 7 → P' 76 k = N 76 k) ∧ (∀ a, a ≠ 76 → P' a = N a) := by
    intro k
    induction k with
    | zero =>
      intro i P hi p7 pk pa
      have ei : i = n := by omega
      subst ei
      have cb := m_byteAt (S := S) (N := P) (k := i) hM (hc.cg (pk 3 (by decide)) (pa 79 (by decide))) (by omega) p7
      have f1 := ht.2.2 i (Nat.le_refl i)
      refine ⟨P, fun r hr => ?_, by rw [ru_end]; exact p7, pk, pa⟩
      refine Rn.cal rfl (X_ald rfl <| X_ald rfl <| X_gi 8 7 7 hM.ob ⟨rfl, rfl, rfl⟩ (Or.inl rfl) <| X_nil) (vs := [_, _]) (rest := []) rfl rfl rfl (rcv_v hM.ob (by decide)) (cb) ?_
      refine Rn.cne rfl (X_i <| X_nil) (by first | omega | (simp (disch := omega) only [um_eq, um_na, um_ni, Int.toNat_natCast]; omega)) (by first | omega | (simp (disch := omega) only [um_eq, um_na, um_ni, Int.toNat_natCast]; omega)) (fun hc => ?_) (fun hc => absurd hc (by first | omega | decide | (simp (disch := omega) only [um_eq, um_na, um_ni, Int.toNat_natCast]; omega)))
      exact hr
    | succ k ih =>
      intro i P hi p7 pk pa
      have cb := m_byteAt (S := S) (N := P) (k := i) hM (hc.cg (pk 3 (by decide)) (pa 79 (by decide))) (by omega) p7
      have bi := fb i
      by_cases c : 32 ≤ f i ∧ f i ≤ 32
      · obtain ⟨P', r1, r2, r3, r4⟩ := ih (i + 1) (um P 76 7 (P 76 7 + 1)) (by omega) (by rw [um_eq, p7]; omega) (fun k hk => by rw [um_ni hk]; exact pk k hk) (fun a ha => by rw [um_fn ha]; exact pa a ha)
        refine ⟨P', fun r hr => ?_, by rw [ru_yes (by omega) c]; exact r2, r3, r4⟩
        have nx := r1 r hr
        refine Rn.cal rfl (X_ald rfl <| X_ald rfl <| X_gi 8 7 7 hM.ob ⟨rfl, rfl, rfl⟩ (Or.inl rfl) <| X_nil) (vs := [_, _]) (rest := []) rfl rfl rfl (rcv_v hM.ob (by decide)) (cb) ?_
        refine Rn.cne rfl (X_i <| X_nil) (by first | omega | (simp (disch := omega) only [um_eq, um_na, um_ni, Int.toNat_natCast]; omega)) (by first | omega | (simp (disch := omega) only [um_eq, um_na, um_ni, Int.toNat_natCast]; omega)) (fun hc => absurd hc (by first | omega | decide | (simp (disch := omega) only [um_eq, um_na, um_ni, Int.toNat_natCast]; omega))) (fun hc => ?_)
        refine Rn.jto rfl (X_ald rfl <| X_dupr <| X_gi 8 7 7 hM.ob ⟨rfl, rfl, rfl⟩ (Or.inl rfl) <| X_i <| X_add <| X_pi 8 7 7 hM.ob ⟨rfl, rfl, rfl⟩ (Or.inl rfl) <| X_nil) ?_
        exact nx
      · refine ⟨P, fun r hr => ?_, by rw [ru_no c]; exact p7, pk, pa⟩
        refine Rn.cal rfl (X_ald rfl <| X_ald rfl <| X_gi 8 7 7 hM.ob ⟨rfl, rfl, rfl⟩ (Or.inl rfl) <| X_nil) (vs := [_, _]) (rest := []) rfl rfl rfl (rcv_v hM.ob (by decide)) (cb) ?_
        refine Rn.cne rfl (X_i <| X_nil) (by first | omega | (simp (disch := omega) only [um_eq, um_na, um_ni, Int.toNat_natCast]; omega)) (by first | omega | (simp (disch := omega) only [um_eq, um_na, um_ni, Int.toNat_natCast]; omega)) (fun hc => ?_) (fun hc => absurd hc (by first | omega | decide | (simp (disch := omega) only [um_eq, um_na, um_ni, Int.toNat_natCast]; omega)))
        exact hr
  -- letters
  have le : ∀ (k i : Nat) (P : Nat → Int → Int), i + k = n → P 76 7 = (i : Int) → P 76 9 = 0 → P 76 10 = 1 → P 76 3 = N 76 3 → (∀ a, a ≠ 76 → P a = N a) → ∃ P', Rn S 139 103 ([], [some (vR 76)], T, P) (none, (T, P')) ∧ P' 76 7 = ((ru 97 122 f n i : Nat) : Int) ∧ (∀ k, k ≠ 7 → P' 76 k = P 76 k) ∧ (∀ a, a ≠ 76 → P' a = N a) := by
    intro k
    induction k with
    | zero =>
      intro i P hi p7 p9 p10 p3 pa
      have ei : i = n := by omega
      subst ei
      have cb := m_byteAt (S := S) (N := P) (k := i) hM (hc.cg p3 (pa 79 (by decide))) (by omega) p7
      have f1 := ht.2.2 i (Nat.le_refl i)
      have cl := c_iN (S := S) (h := (T, P)) (v := f i) (lo := 97) (hi := 122) (by omega) (by decide) (by decide) (by omega)
      refine ⟨P, ?_, by rw [ru_end]; exact p7, fun _ _ => rfl, pa⟩
      refine Rn.ieq rfl (X_ald rfl <| X_gi 8 10 10 hM.ob ⟨rfl, rfl, rfl⟩ (Or.inr rfl) <| X_nil) (by first | omega | (simp (disch := omega) only [um_eq, um_na, um_ni, Int.toNat_natCast]; omega)) (fun hc => absurd hc (by first | omega | decide | (simp (disch := omega) only [um_eq, um_na, um_ni, Int.toNat_natCast]; omega))) (fun hc => ?_)
      refine Rn.cal rfl (X_ald rfl <| X_ald rfl <| X_gi 8 7 7 hM.ob ⟨rfl, rfl, rfl⟩ (Or.inl rfl) <| X_nil) (vs := [_, _]) (rest := []) rfl rfl rfl (rcv_v hM.ob (by decide)) (cb) ?_
      refine Rn.cal rfl (X_i2l (by first | omega | (simp (disch := omega) only [um_eq, um_na, um_ni, Int.toNat_natCast]; omega)) <| X_l <| X_l <| X_nil) (vs := [_, _, _]) (rest := []) rfl rfl rfl rfl (cl) ?_
      refine Rn.ine rfl (X_nil) (by first | omega | (simp (disch := omega) only [um_eq, um_na, um_ni, Int.toNat_natCast]; omega)) (fun hc => absurd hc (by first | omega | decide | (simp (disch := omega) only [um_eq, um_na, um_ni, Int.toNat_natCast]; omega))) (fun hc => ?_)
      refine Rn.ieq rfl (X_ald rfl <| X_gi 8 9 9 hM.ob ⟨rfl, rfl, rfl⟩ (Or.inr rfl) <| X_nil) (by first | omega | (simp (disch := omega) only [um_eq, um_na, um_ni, Int.toNat_natCast]; omega)) (fun hc => ?_) (fun hc => absurd hc (by first | omega | decide | (simp (disch := omega) only [um_eq, um_na, um_ni, Int.toNat_natCast]; omega)))
      refine Rn.rv rfl (X_nil) rfl
    | succ k ih =>
      intro i P hi p7 p9 p10 p3 pa
      have cb := m_byteAt (S := S) (N := P) (k := i) hM (hc.cg p3 (pa 79 (by decide))) (by omega) p7
      have bi := fb i
      by_cases c : 97 ≤ f i ∧ f i ≤ 122
      · have cl := c_iY (S := S) (h := (T, P)) (v := f i) (lo := 97) (hi := 122) (by omega) (by decide) (by decide) c
        obtain ⟨P', r1, r2, r3, r4⟩ := ih (i + 1) (um P 76 7 (P 76 7 + 1)) (by omega) (by rw [um_eq, p7]; omega) (by rw [um_ni (by decide)]; exact p9) (by rw [um_ni (by decide)]; exact p10) (by rw [um_ni (by decide)]; exact p3) (fun a ha => by rw [um_fn ha]; exact pa a ha)
        refine ⟨P', ?_, by rw [ru_yes (by omega) c]; exact r2, fun k hk => by rw [r3 k hk, um_ni hk], r4⟩
        refine Rn.ieq rfl (X_ald rfl <| X_gi 8 10 10 hM.ob ⟨rfl, rfl, rfl⟩ (Or.inr rfl) <| X_nil) (by first | omega | (simp (disch := omega) only [um_eq, um_na, um_ni, Int.toNat_natCast]; omega)) (fun hc => absurd hc (by first | omega | decide | (simp (disch := omega) only [um_eq, um_na, um_ni, Int.toNat_natCast]; omega))) (fun hc => ?_)
        refine Rn.cal rfl (X_ald rfl <| X_ald rfl <| X_gi 8 7 7 hM.ob ⟨rfl, rfl, rfl⟩ (Or.inl rfl) <| X_nil) (vs := [_, _]) (rest := []) rfl rfl rfl (rcv_v hM.ob (by decide)) (cb) ?_
        refine Rn.cal rfl (X_i2l (by first | omega | (simp (disch := omega) only [um_eq, um_na, um_ni, Int.toNat_natCast]; omega)) <| X_l <| X_l <| X_nil) (vs := [_, _, _]) (rest := []) rfl rfl rfl rfl (cl) ?_
        refine Rn.ine rfl (X_nil) (by first | omega | (simp (disch := omega) only [um_eq, um_na, um_ni, Int.toNat_natCast]; omega)) (fun hc => ?_) (fun hc => absurd hc (by first | omega | decide | (simp (disch := omega) only [um_eq, um_na, um_ni, Int.toNat_natCast]; omega)))
        refine Rn.jto rfl (X_ald rfl <| X_dupr <| X_gi 8 7 7 hM.ob ⟨rfl, rfl, rfl⟩ (Or.inl rfl) <| X_i <| X_add <| X_pi 8 7 7 hM.ob ⟨rfl, rfl, rfl⟩ (Or.inl rfl) <| X_nil) ?_
        exact r1
      · have cl := c_iN (S := S) (h := (T, P)) (v := f i) (lo := 97) (hi := 122) (by omega) (by decide) (by decide) c
        refine ⟨P, ?_, by rw [ru_no c]; exact p7, fun _ _ => rfl, pa⟩
        refine Rn.ieq rfl (X_ald rfl <| X_gi 8 10 10 hM.ob ⟨rfl, rfl, rfl⟩ (Or.inr rfl) <| X_nil) (by first | omega | (simp (disch := omega) only [um_eq, um_na, um_ni, Int.toNat_natCast]; omega)) (fun hc => absurd hc (by first | omega | decide | (simp (disch := omega) only [um_eq, um_na, um_ni, Int.toNat_natCast]; omega))) (fun hc => ?_)
        refine Rn.cal rfl (X_ald rfl <| X_ald rfl <| X_gi 8 7 7 hM.ob ⟨rfl, rfl, rfl⟩ (Or.inl rfl) <| X_nil) (vs := [_, _]) (rest := []) rfl rfl rfl (rcv_v hM.ob (by decide)) (cb) ?_
        refine Rn.cal rfl (X_i2l (by first | omega | (simp (disch := omega) only [um_eq, um_na, um_ni, Int.toNat_natCast]; omega)) <| X_l <| X_l <| X_nil) (vs := [_, _, _]) (rest := []) rfl rfl rfl rfl (cl) ?_
        refine Rn.ine rfl (X_nil) (by first | omega | (simp (disch := omega) only [um_eq, um_na, um_ni, Int.toNat_natCast]; omega)) (fun hc => absurd hc (by first | omega | decide | (simp (disch := omega) only [um_eq, um_na, um_ni, Int.toNat_natCast]; omega))) (fun hc => ?_)
        refine Rn.ieq rfl (X_ald rfl <| X_gi 8 9 9 hM.ob ⟨rfl, rfl, rfl⟩ (Or.inr rfl) <| X_nil) (by first | omega | (simp (disch := omega) only [um_eq, um_na, um_ni, Int.toNat_natCast]; omega)) (fun hc => ?_) (fun hc => absurd hc (by first | omega | decide | (simp (disch := omega) only [um_eq, um_na, um_ni, Int.toNat_natCast]; omega)))
        refine Rn.rv rfl (X_nil) rfl
  -- figures
  have fi : ∀ (k i : Nat) (P : Nat → Int → Int), i + k = n → P 76 7 = (i : Int) → P 76 9 = 1 → P 76 10 = 0 → P 76 3 = N 76 3 → (∀ a, a ≠ 76 → P a = N a) → ∃ P', Rn S 139 103 ([], [some (vR 76)], T, P) (none, (T, P')) ∧ P' 76 7 = ((ru 48 57 f n i : Nat) : Int) ∧ (∀ k, k ≠ 7 → P' 76 k = P 76 k) ∧ (∀ a, a ≠ 76 → P' a = N a) := by
    intro k
    induction k with
    | zero =>
      intro i P hi p7 p9 p10 p3 pa
      have ei : i = n := by omega
      subst ei
      have cb := m_byteAt (S := S) (N := P) (k := i) hM (hc.cg p3 (pa 79 (by decide))) (by omega) p7
      have f1 := ht.2.2 i (Nat.le_refl i)
      have cl := c_iN (S := S) (h := (T, P)) (v := f i) (lo := 48) (hi := 57) (by omega) (by decide) (by decide) (by omega)
      refine ⟨P, ?_, by rw [ru_end]; exact p7, fun _ _ => rfl, pa⟩
      refine Rn.ieq rfl (X_ald rfl <| X_gi 8 10 10 hM.ob ⟨rfl, rfl, rfl⟩ (Or.inr rfl) <| X_nil) (by first | omega | (simp (disch := omega) only [um_eq, um_na, um_ni, Int.toNat_natCast]; omega)) (fun hc => ?_) (fun hc => absurd hc (by first | omega | decide | (simp (disch := omega) only [um_eq, um_na, um_ni, Int.toNat_natCast]; omega)))
      refine Rn.ieq rfl (X_ald rfl <| X_gi 8 9 9 hM.ob ⟨rfl, rfl, rfl⟩ (Or.inr rfl) <| X_nil) (by first | omega | (simp (disch := omega) only [um_eq, um_na, um_ni, Int.toNat_natCast]; omega)) (fun hc => absurd hc (by first | omega | decide | (simp (disch := omega) only [um_eq, um_na, um_ni, Int.toNat_natCast]; omega))) (fun hc => ?_)
      refine Rn.cal rfl (X_ald rfl <| X_ald rfl <| X_gi 8 7 7 hM.ob ⟨rfl, rfl, rfl⟩ (Or.inl rfl) <| X_nil) (vs := [_, _]) (rest := []) rfl rfl rfl (rcv_v hM.ob (by decide)) (cb) ?_
      refine Rn.cal rfl (X_i2l (by first | omega | (simp (disch := omega) only [um_eq, um_na, um_ni, Int.toNat_natCast]; omega)) <| X_l <| X_l <| X_nil) (vs := [_, _, _]) (rest := []) rfl rfl rfl rfl (cl) ?_
      refine Rn.ieq rfl (X_nil) (by first | omega | (simp (disch := omega) only [um_eq, um_na, um_ni, Int.toNat_natCast]; omega)) (fun hc => ?_) (fun hc => absurd hc (by first | omega | decide | (simp (disch := omega) only [um_eq, um_na, um_ni, Int.toNat_natCast]; omega)))
      refine Rn.rv rfl (X_nil) rfl
    | succ k ih =>
      intro i P hi p7 p9 p10 p3 pa
      have cb := m_byteAt (S := S) (N := P) (k := i) hM (hc.cg p3 (pa 79 (by decide))) (by omega) p7
      have bi := fb i
      by_cases c : 48 ≤ f i ∧ f i ≤ 57
      · have cl := c_iY (S := S) (h := (T, P)) (v := f i) (lo := 48) (hi := 57) (by omega) (by decide) (by decide) c
        obtain ⟨P', r1, r2, r3, r4⟩ := ih (i + 1) (um P 76 7 (P 76 7 + 1)) (by omega) (by rw [um_eq, p7]; omega) (by rw [um_ni (by decide)]; exact p9) (by rw [um_ni (by decide)]; exact p10) (by rw [um_ni (by decide)]; exact p3) (fun a ha => by rw [um_fn ha]; exact pa a ha)
        refine ⟨P', ?_, by rw [ru_yes (by omega) c]; exact r2, fun k hk => by rw [r3 k hk, um_ni hk], r4⟩
        refine Rn.ieq rfl (X_ald rfl <| X_gi 8 10 10 hM.ob ⟨rfl, rfl, rfl⟩ (Or.inr rfl) <| X_nil) (by first | omega | (simp (disch := omega) only [um_eq, um_na, um_ni, Int.toNat_natCast]; omega)) (fun hc => ?_) (fun hc => absurd hc (by first | omega | decide | (simp (disch := omega) only [um_eq, um_na, um_ni, Int.toNat_natCast]; omega)))
        refine Rn.ieq rfl (X_ald rfl <| X_gi 8 9 9 hM.ob ⟨rfl, rfl, rfl⟩ (Or.inr rfl) <| X_nil) (by first | omega | (simp (disch := omega) only [um_eq, um_na, um_ni, Int.toNat_natCast]; omega)) (fun hc => absurd hc (by first | omega | decide | (simp (disch := omega) only [um_eq, um_na, um_ni, Int.toNat_natCast]; omega))) (fun hc => ?_)
        refine Rn.cal rfl (X_ald rfl <| X_ald rfl <| X_gi 8 7 7 hM.ob ⟨rfl, rfl, rfl⟩ (Or.inl rfl) <| X_nil) (vs := [_, _]) (rest := []) rfl rfl rfl (rcv_v hM.ob (by decide)) (cb) ?_
        refine Rn.cal rfl (X_i2l (by first | omega | (simp (disch := omega) only [um_eq, um_na, um_ni, Int.toNat_natCast]; omega)) <| X_l <| X_l <| X_nil) (vs := [_, _, _]) (rest := []) rfl rfl rfl rfl (cl) ?_
        refine Rn.ieq rfl (X_nil) (by first | omega | (simp (disch := omega) only [um_eq, um_na, um_ni, Int.toNat_natCast]; omega)) (fun hc => absurd hc (by first | omega | decide | (simp (disch := omega) only [um_eq, um_na, um_ni, Int.toNat_natCast]; omega))) (fun hc => ?_)
        refine Rn.jto rfl (X_ald rfl <| X_dupr <| X_gi 8 7 7 hM.ob ⟨rfl, rfl, rfl⟩ (Or.inl rfl) <| X_i <| X_add <| X_pi 8 7 7 hM.ob ⟨rfl, rfl, rfl⟩ (Or.inl rfl) <| X_nil) ?_
        exact r1
      · have cl := c_iN (S := S) (h := (T, P)) (v := f i) (lo := 48) (hi := 57) (by omega) (by decide) (by decide) c
        refine ⟨P, ?_, by rw [ru_no c]; exact p7, fun _ _ => rfl, pa⟩
        refine Rn.ieq rfl (X_ald rfl <| X_gi 8 10 10 hM.ob ⟨rfl, rfl, rfl⟩ (Or.inr rfl) <| X_nil) (by first | omega | (simp (disch := omega) only [um_eq, um_na, um_ni, Int.toNat_natCast]; omega)) (fun hc => ?_) (fun hc => absurd hc (by first | omega | decide | (simp (disch := omega) only [um_eq, um_na, um_ni, Int.toNat_natCast]; omega)))
        refine Rn.ieq rfl (X_ald rfl <| X_gi 8 9 9 hM.ob ⟨rfl, rfl, rfl⟩ (Or.inr rfl) <| X_nil) (by first | omega | (simp (disch := omega) only [um_eq, um_na, um_ni, Int.toNat_natCast]; omega)) (fun hc => absurd hc (by first | omega | decide | (simp (disch := omega) only [um_eq, um_na, um_ni, Int.toNat_natCast]; omega))) (fun hc => ?_)
        refine Rn.cal rfl (X_ald rfl <| X_ald rfl <| X_gi 8 7 7 hM.ob ⟨rfl, rfl, rfl⟩ (Or.inl rfl) <| X_nil) (vs := [_, _]) (rest := []) rfl rfl rfl (rcv_v hM.ob (by decide)) (cb) ?_
        refine Rn.cal rfl (X_i2l (by first | omega | (simp (disch := omega) only [um_eq, um_na, um_ni, Int.toNat_natCast]; omega)) <| X_l <| X_l <| X_nil) (vs := [_, _, _]) (rest := []) rfl rfl rfl rfl (cl) ?_
        refine Rn.ieq rfl (X_nil) (by first | omega | (simp (disch := omega) only [um_eq, um_na, um_ni, Int.toNat_natCast]; omega)) (fun hc => ?_) (fun hc => absurd hc (by first | omega | decide | (simp (disch := omega) only [um_eq, um_na, um_ni, Int.toNat_natCast]; omega)))
        refine Rn.rv rfl (X_nil) rfl
  obtain ⟨P, r1, r2, r3, r4⟩ := sp (n - e) e N (by omega) h7 (fun _ _ => rfl) (fun _ _ => rfl)
  have si : e ≤ tS f n e ∧ tS f n e ≤ n := ru_in he
  have r2 : P 76 7 = ((tS f n e : Nat) : Int) := r2
  generalize tS f n e = s at *
  have bs := fb s
  -- the token's first byte
  have q7 : um P 76 8 (P 76 7) 76 7 = (s : Int) := by rw [um_ni (by decide)]; exact r2
  have q8 : um P 76 8 (P 76 7) 76 8 = (s : Int) := by rw [um_eq]; exact r2
  have qk : ∀ k, ¬ (7 ≤ k ∧ k ≤ 10) → um P 76 8 (P 76 7) 76 k = N 76 k := fun k hk => by rw [um_ni (by omega)]; exact r3 k (by omega)
  have qa : ∀ a, a ≠ 76 → um P 76 8 (P 76 7) a = N a := fun a ha => by rw [um_fn ha]; exact r4 a ha
  obtain ⟨w, hw⟩ : ∃ w : Int, (if 97 ≤ f s ∧ f s ≤ 122 then 1 else 0) = w := ⟨_, rfl⟩
  obtain ⟨g, hg⟩ : ∃ g : Int, (if 48 ≤ f s ∧ f s ≤ 57 then 1 else 0) = g := ⟨_, rfl⟩
  rw [hw, hg]
  have w01 : w = 0 ∨ w = 1 := by rw [← hw]; split <;> omega
  have g01 : g = 0 ∨ g = 1 := by rw [← hg]; split <;> omega
  have head : ∀ r d, ((s : Int) < (n : Int) ∧ d = 1 ∨ (n : Int) ≤ (s : Int) ∧ d = 0) → Rn S 139 103 ([], [some (vR 76)], T, um (um (um (um P 76 8 (P 76 7)) 76 10 w) 76 9 g) 76 7 ((s : Int) + d)) r → Cl S 139 [vR 76] (T, N) r := fun r d hd hr => by
    refine ⟨_, rfl, r1 _ ?_⟩
    generalize hQ : um P 76 8 (P 76 7) = Q at *
    have mQ : MTx Q n f := hc.cg (qk 3 (by decide)) (qa 79 (by decide))
    have mR : MTx (um Q 76 10 w) n f := mQ.cg (um_ni (by decide)) (um_fn (by decide))
    have cb := m_byteAt (S := S) (N := Q) (k := s) hM mQ (by omega) q7
    have cb2 := m_byteAt (S := S) (N := um Q 76 10 w) (k := s) (x := um Q 76 10 w 76 7) hM mR (by omega) (by rw [um_ni (by decide)]; exact q7)
    have ci := c_in (S := S) (h := (T, Q)) (v := f s) (lo := 97) (hi := 122) (by omega) (by decide) (by decide)
    have ci2 := c_in (S := S) (h := (T, um Q 76 10 w)) (v := f s) (lo := 48) (hi := 57) (by omega) (by decide) (by decide)
    rw [hw] at ci
    rw [hg] at ci2
    rw [← hQ] at cb
    refine Rn.cal rfl (X_ald rfl <| X_ald rfl <| X_gi 8 7 7 hM.ob ⟨rfl, rfl, rfl⟩ (Or.inl rfl) <| X_pi 8 8 8 hM.ob ⟨rfl, rfl, rfl⟩ (Or.inl rfl) <| X_ald rfl <| X_ald rfl <| X_ald rfl <| X_gi 8 7 7 hM.ob ⟨rfl, rfl, rfl⟩ (Or.inl rfl) <| X_nil) (vs := [_, _]) (rest := [_]) rfl rfl rfl (rcv_v hM.ob (by decide)) (cb) ?_
    rw [hQ]
    have q3 := qk 3 (by decide)
    have n3 := hc.1
    have z7 : um (um Q 76 10 w) 76 9 g 76 7 = (s : Int) := by rw [um_ni (by decide), um_ni (by decide)]; exact q7
    have z3 : um (um Q 76 10 w) 76 9 g 76 3 = (n : Int) := by rw [um_ni (by decide), um_ni (by decide), q3]; exact n3
    refine Rn.cal rfl (X_i2l (by first | omega | (simp (disch := omega) only [um_eq, um_na, um_ni, Int.toNat_natCast]; omega)) <| X_l <| X_l <| X_nil) (vs := [_, _, _]) (rest := [_]) rfl rfl rfl rfl (ci) ?_
    refine Rn.cal rfl (X_pi 8 10 10 hM.ob ⟨rfl, rfl, rfl⟩ (Or.inr ⟨rfl, (by first | omega | (simp (disch := omega) only [um_eq, um_na, um_ni, Int.toNat_natCast]; omega))⟩) <| X_ald rfl <| X_ald rfl <| X_ald rfl <| X_gi 8 7 7 hM.ob ⟨rfl, rfl, rfl⟩ (Or.inl rfl) <| X_nil) (vs := [_, _]) (rest := [_]) rfl rfl rfl (rcv_v hM.ob (by decide)) (cb2) ?_
    refine Rn.cal rfl (X_i2l (by first | omega | (simp (disch := omega) only [um_eq, um_na, um_ni, Int.toNat_natCast]; omega)) <| X_l <| X_l <| X_nil) (vs := [_, _, _]) (rest := [_]) rfl rfl rfl rfl (ci2) ?_
    rcases hd with ⟨d1, rfl⟩ | ⟨d1, rfl⟩
    · refine Rn.cge rfl (X_pi 8 9 9 hM.ob ⟨rfl, rfl, rfl⟩ (Or.inr ⟨rfl, (by first | omega | (simp (disch := omega) only [um_eq, um_na, um_ni, Int.toNat_natCast]; omega))⟩) <| X_ald rfl <| X_dupr <| X_gi 8 7 7 hM.ob ⟨rfl, rfl, rfl⟩ (Or.inl rfl) <| X_ald rfl <| X_gi 8 7 7 hM.ob ⟨rfl, rfl, rfl⟩ (Or.inl rfl) <| X_ald rfl <| X_gi 8 3 3 hM.ob ⟨rfl, rfl, rfl⟩ (Or.inl rfl) <| X_nil) (by first | omega | (simp (disch := omega) only [um_eq, um_na, um_ni, Int.toNat_natCast]; omega)) (by first | omega | (simp (disch := omega) only [um_eq, um_na, um_ni, Int.toNat_natCast]; omega)) (fun hc => absurd hc (by first | omega | decide | (simp (disch := omega) only [um_eq, um_na, um_ni, Int.toNat_natCast]; omega))) (fun hc => ?_)
      refine Rn.jto rfl (X_i <| X_nil) ?_
      refine Rn.fal rfl (X_add <| X_pi 8 7 7 hM.ob ⟨rfl, rfl, rfl⟩ (Or.inl rfl) <| X_nil) ?_
      rw [z7]
      exact hr
    · refine Rn.cge rfl (X_pi 8 9 9 hM.ob ⟨rfl, rfl, rfl⟩ (Or.inr ⟨rfl, (by first | omega | (simp (disch := omega) only [um_eq, um_na, um_ni, Int.toNat_natCast]; omega))⟩) <| X_ald rfl <| X_dupr <| X_gi 8 7 7 hM.ob ⟨rfl, rfl, rfl⟩ (Or.inl rfl) <| X_ald rfl <| X_gi 8 7 7 hM.ob ⟨rfl, rfl, rfl⟩ (Or.inl rfl) <| X_ald rfl <| X_gi 8 3 3 hM.ob ⟨rfl, rfl, rfl⟩ (Or.inl rfl) <| X_nil) (by first | omega | (simp (disch := omega) only [um_eq, um_na, um_ni, Int.toNat_natCast]; omega)) (by first | omega | (simp (disch := omega) only [um_eq, um_na, um_ni, Int.toNat_natCast]; omega)) (fun hc => ?_) (fun hc => absurd hc (by first | omega | decide | (simp (disch := omega) only [um_eq, um_na, um_ni, Int.toNat_natCast]; omega)))
      refine Rn.fal rfl (X_i <| X_nil) ?_
      refine Rn.fal rfl (X_add <| X_pi 8 7 7 hM.ob ⟨rfl, rfl, rfl⟩ (Or.inl rfl) <| X_nil) ?_
      rw [z7]
      exact hr
  generalize hQ : um P 76 8 (P 76 7) = Q at *
  have R9 : ∀ d, um (um (um Q 76 10 w) 76 9 g) 76 7 d 76 9 = g := fun d => by rw [um_ni (by decide), um_eq]
  have R10 : ∀ d, um (um (um Q 76 10 w) 76 9 g) 76 7 d 76 10 = w := fun d => by rw [um_ni (by decide), um_ni (by decide), um_eq]
  have R8 : ∀ d, um (um (um Q 76 10 w) 76 9 g) 76 7 d 76 8 = (s : Int) := fun d => by rw [um_ni (by decide), um_ni (by decide), um_ni (by decide)]; exact q8
  have Rk : ∀ d k, ¬ (7 ≤ k ∧ k ≤ 10) → um (um (um Q 76 10 w) 76 9 g) 76 7 d 76 k = N 76 k := fun d k hk => by rw [um_ni (by omega), um_ni (by omega), um_ni (by omega)]; exact qk k hk
  have Ra : ∀ d a, a ≠ 76 → um (um (um Q 76 10 w) 76 9 g) 76 7 d a = N a := fun d a ha => by rw [um_fn ha, um_fn ha, um_fn ha]; exact qa a ha
  by_cases c1 : 97 ≤ f s ∧ f s ≤ 122
  · have sn : s < n := by
      by_cases c : s < n
      · exact c
      · have := ht.2.2 s (by omega); omega
    have w1 : w = 1 := by rw [← hw, if_pos c1]
    have g0 : g = 0 := by rw [← hg, if_neg (by omega)]
    have ee : tE f n s = ru 97 122 f n (s + 1) := by unfold tE; rw [if_pos c1, ru_yes sn c1]
    obtain ⟨P', t1, t2, t3, t4⟩ := le (n - (s + 1)) (s + 1) (um (um (um Q 76 10 w) 76 9 g) 76 7 ((s : Int) + 1)) (by omega) (by rw [um_eq]; omega) (by rw [R9]; exact g0) (by rw [R10]; exact w1) (Rk _ 3 (by decide)) (Ra _)
    refine ⟨P', head _ 1 (Or.inl ⟨by omega, rfl⟩) t1, by rw [t2, ee], by rw [t3 8 (by decide)]; exact R8 _, by rw [t3 9 (by decide)]; exact R9 _, by rw [t3 10 (by decide)]; exact R10 _, fun k hk => by rw [t3 k (by omega)]; exact Rk _ k hk, t4⟩
  · have w0 : w = 0 := by rw [← hw, if_neg c1]
    by_cases c2 : 48 ≤ f s ∧ f s ≤ 57
    · have sn : s < n := by
        by_cases c : s < n
        · exact c
        · have := ht.2.2 s (by omega); omega
      have g1 : g = 1 := by rw [← hg, if_pos c2]
      have ee : tE f n s = ru 48 57 f n (s + 1) := by unfold tE; rw [if_neg c1, if_pos c2, ru_yes sn c2]
      obtain ⟨P', t1, t2, t3, t4⟩ := fi (n - (s + 1)) (s + 1) (um (um (um Q 76 10 w) 76 9 g) 76 7 ((s : Int) + 1)) (by omega) (by rw [um_eq]; omega) (by rw [R9]; exact g1) (by rw [R10]; exact w0) (Rk _ 3 (by decide)) (Ra _)
      refine ⟨P', head _ 1 (Or.inl ⟨by omega, rfl⟩) t1, by rw [t2, ee], by rw [t3 8 (by decide)]; exact R8 _, by rw [t3 9 (by decide)]; exact R9 _, by rw [t3 10 (by decide)]; exact R10 _, fun k hk => by rw [t3 k (by omega)]; exact Rk _ k hk, t4⟩
    · have g0 : g = 0 := by rw [← hg, if_neg c2]
      have fin : ∀ d, Rn S 139 103 ([], [some (vR 76)], T, um (um (um Q 76 10 w) 76 9 g) 76 7 d) (none, (T, um (um (um Q 76 10 w) 76 9 g) 76 7 d)) := fun d => by
        have r9 := R9 d
        have r10 := R10 d
        refine Rn.ieq rfl (X_ald rfl <| X_gi 8 10 10 hM.ob ⟨rfl, rfl, rfl⟩ (Or.inr rfl) <| X_nil) (by first | omega | (simp (disch := omega) only [um_eq, um_na, um_ni, Int.toNat_natCast]; omega)) (fun hc => ?_) (fun hc => absurd hc (by first | omega | decide | (simp (disch := omega) only [um_eq, um_na, um_ni, Int.toNat_natCast]; omega)))
        refine Rn.ieq rfl (X_ald rfl <| X_gi 8 9 9 hM.ob ⟨rfl, rfl, rfl⟩ (Or.inr rfl) <| X_nil) (by first | omega | (simp (disch := omega) only [um_eq, um_na, um_ni, Int.toNat_natCast]; omega)) (fun hc => ?_) (fun hc => absurd hc (by first | omega | decide | (simp (disch := omega) only [um_eq, um_na, um_ni, Int.toNat_natCast]; omega)))
        refine Rn.rv rfl (X_nil) rfl
      by_cases c3 : s < n
      · have ee : tE f n s = s + 1 := by unfold tE; rw [if_neg c1, if_neg c2, if_pos c3]
        exact ⟨_, head _ 1 (Or.inl ⟨by omega, rfl⟩) (fin _), by rw [um_eq, ee]; omega, R8 _, R9 _, R10 _, Rk _, Ra _⟩
      · have ee : tE f n s = s := by unfold tE; rw [if_neg c1, if_neg c2, if_neg c3]
        exact ⟨_, head _ 0 (Or.inr ⟨by omega, rfl⟩) (fin _), by rw [um_eq, ee]; omega, R8 _, R9 _, R10 _, Rk _, Ra _⟩
theorem m_takes (hM : isM T) (hc : MTx N n f) (he : e ≤ n) (h7 : N 76 7 = (e : Int)) (il : I32 lo) (ih : I32 hi) : ∃ P v, Cl S 140 [vR 76, vI lo, vI hi] (T, N) (some (vI v), (T, P)) ∧ ((v = 1 ∧ (tK f n (tS f n e) = 2 ∧ lo ≤ tV f n (tS f n e) ∧ tV f n (tS f n e) ≤ hi) ∧ P 76 11 = tV f n (tS f n e)) ∨ (v = 0 ∧ ¬ (tK f n (tS f n e) = 2 ∧ lo ≤ tV f n (tS f n e) ∧ tV f n (tS f n e) ≤ hi))) ∧ P 76 7 = ((tE f n (tS f n e) : Nat) : Int) ∧ P 76 8 = ((tS f n e : Nat) : Int) ∧ (∀ k, ¬ (7 ≤ k ∧ k ≤ 11) → P 76 k = N 76 k) ∧ (∀ a, a ≠ 76 → P a = N a) := by
  have ht := hc.2.1
  have n150 := ht.1
  obtain ⟨P, ct, p7, p8, p9, p10, pk, pa⟩ := m_token (S := S) hM hc he h7
  have si : e ≤ tS f n e ∧ tS f n e ≤ n := ru_in he
  generalize tS f n e = s at *
  have ei := tE_in ht si.2
  by_cases k2 : tK f n s = 2
  · obtain ⟨k0, k1, k3, k4⟩ := tK_2 k2
    have v9 := tV_in k2
    rw [if_pos k1] at p9
    have loop : ∀ (k i : Nat) (Q : Nat → Int → Int), i + k = tE f n s → s ≤ i → Q 76 11 = vl f s (i - s) → (∀ k, k ≠ 11 → Q 76 k = P 76 k) → (∀ a, a ≠ 76 → Q a = P a) → ∃ Q', (∀ r, Rn S 140 68 ([], [some (vR 76), some (vI lo), some (vI hi), some (vI ((tE f n s : Nat) : Int))], T, Q') r → Rn S 140 14 ([], [some (vR 76), some (vI lo), some (vI hi), some (vI (i : Int))], T, Q) r) ∧ Q' 76 11 = tV f n s ∧ (∀ k, k ≠ 11 → Q' 76 k = P 76 k) ∧ (∀ a, a ≠ 76 → Q' a = P a) := by
      intro k
      induction k with
      | zero =>
        intro i Q hi' hsi q11 qk qa
        have ei' : i = tE f n s := by omega
        have q7 := qk 7 (by decide)
        refine ⟨Q, fun r hr => ?_, by rw [q11, ei']; rfl, qk, qa⟩
        rw [ei']
        refine Rn.cge rfl (X_ild rfl <| X_ald rfl <| X_gi 8 7 7 hM.ob ⟨rfl, rfl, rfl⟩ (Or.inl rfl) <| X_nil) (by first | omega | (simp (disch := omega) only [um_eq, um_na, um_ni, Int.toNat_natCast]; omega)) (by first | omega | (simp (disch := omega) only [um_eq, um_na, um_ni, Int.toNat_natCast]; omega)) (fun hc => ?_) (fun hc => absurd hc (by first | omega | decide | (simp (disch := omega) only [um_eq, um_na, um_ni, Int.toNat_natCast]; omega)))
        exact hr
      | succ k ihk =>
        intro i Q hi' hsi q11 qk qa
        have q7 := qk 7 (by decide)
        have q8 := qk 8 (by decide)
        have q9 := qk 9 (by decide)
        have q3 := qk 3 (by decide)
        have p3 := pk 3 (by decide)
        have cb := m_byteAt (S := S) (N := Q) (k := i) hM (hc.cg (by rw [q3, p3]) (by rw [qa 79 (by decide), pa 79 (by decide)])) (by omega) rfl
        obtain ⟨Q', r1, r2, r3, r4⟩ := ihk (i + 1) (um Q 76 11 (10 * Q 76 11 + f i - 48)) (by omega) (by omega) (by
          rw [um_eq, q11, show i + 1 - s = (i - s) + 1 by omega]
          show _ = 10 * vl f s (i - s) + f (s + (i - s)) - 48
          rw [show s + (i - s) = i by omega]) (fun k hk => by rw [um_ni hk]; exact qk k hk) (fun a ha => by rw [um_fn ha]; exact qa a ha)
        refine ⟨Q', fun r hr => ?_, r2, r3, r4⟩
        have nx := r1 r hr
        refine Rn.cge rfl (X_ild rfl <| X_ald rfl <| X_gi 8 7 7 hM.ob ⟨rfl, rfl, rfl⟩ (Or.inl rfl) <| X_nil) (by first | omega | (simp (disch := omega) only [um_eq, um_na, um_ni, Int.toNat_natCast]; omega)) (by first | omega | (simp (disch := omega) only [um_eq, um_na, um_ni, Int.toNat_natCast]; omega)) (fun hc => absurd hc (by first | omega | decide | (simp (disch := omega) only [um_eq, um_na, um_ni, Int.toNat_natCast]; omega))) (fun hc => ?_)
        refine Rn.ieq rfl (X_ald rfl <| X_gi 8 9 9 hM.ob ⟨rfl, rfl, rfl⟩ (Or.inr rfl) <| X_nil) (by first | omega | (simp (disch := omega) only [um_eq, um_na, um_ni, Int.toNat_natCast]; omega)) (fun hc => absurd hc (by first | omega | decide | (simp (disch := omega) only [um_eq, um_na, um_ni, Int.toNat_natCast]; omega))) (fun hc => ?_)
        refine Rn.cge rfl (X_ald rfl <| X_gi 8 7 7 hM.ob ⟨rfl, rfl, rfl⟩ (Or.inl rfl) <| X_ald rfl <| X_gi 8 8 8 hM.ob ⟨rfl, rfl, rfl⟩ (Or.inl rfl) <| X_sub <| X_i <| X_nil) (by first | omega | (simp (disch := omega) only [um_eq, um_na, um_ni, Int.toNat_natCast]; omega)) (by first | omega | (simp (disch := omega) only [um_eq, um_na, um_ni, Int.toNat_natCast]; omega)) (fun hc => absurd hc (by first | omega | decide | (simp (disch := omega) only [um_eq, um_na, um_ni, Int.toNat_natCast]; omega))) (fun hc => ?_)
        refine Rn.cal rfl (X_ald rfl <| X_i <| X_ald rfl <| X_gi 8 11 11 hM.ob ⟨rfl, rfl, rfl⟩ (Or.inl rfl) <| X_mul <| X_ald rfl <| X_ild rfl <| X_nil) (vs := [_, _]) (rest := [_, _]) rfl rfl rfl (rcv_v hM.ob (by decide)) (cb) ?_
        refine Rn.jto rfl (X_add <| X_i <| X_sub <| X_pi 8 11 11 hM.ob ⟨rfl, rfl, rfl⟩ (Or.inl rfl) <| X_inc rfl (L' := [_, _, _, _]) rfl <| X_nil) ?_
        exact nx
    obtain ⟨Q, r1, r2, r3, r4⟩ := loop (tE f n s - s) s (um P 76 11 0) (by omega) (Nat.le_refl s) (by rw [um_eq, Nat.sub_self]; rfl) (fun k hk => um_ni hk) (fun a ha => um_fn ha)
    have q7 := r3 7 (by decide)
    have q8 := r3 8 (by decide)
    have q9 := r3 9 (by decide)
    have st : ∀ r, Rn S 140 68 ([], [some (vR 76), some (vI lo), some (vI hi), some (vI ((tE f n s : Nat) : Int))], T, Q) r → Cl S 140 [vR 76, vI lo, vI hi] (T, N) r := fun r hr => by
      refine ⟨_, rfl, ?_⟩
      have u8 : um P 76 11 0 76 8 = (s : Int) := by rw [um_ni (by decide)]; exact p8
      refine Rn.cal rfl (X_ald rfl <| X_nil) (vs := [_]) (rest := []) rfl rfl rfl (rcv_v hM.ob (by decide)) (ct) ?_
      refine Rn.fal rfl (X_ald rfl <| X_i <| X_pi 8 11 11 hM.ob ⟨rfl, rfl, rfl⟩ (Or.inl rfl) <| X_ald rfl <| X_gi 8 8 8 hM.ob ⟨rfl, rfl, rfl⟩ (Or.inl rfl) <| X_ist rfl (L' := [_, _, _, _]) rfl <| X_nil) ?_
      rw [u8]
      exact r1 r hr
    by_cases c : lo ≤ tV f n s ∧ tV f n s ≤ hi
    · have ci := c_iY (S := S) (h := (T, Q)) (v := Q 76 11) (lo := lo) (hi := hi) (by omega) (by omega) (by omega) (by omega)
      refine ⟨Q, 1, st _ ?_, Or.inl ⟨rfl, ⟨k2, c.1, c.2⟩, r2⟩, by rw [q7]; exact p7, by rw [q8]; exact p8, fun k hk => by rw [r3 k (by omega)]; exact pk k (by omega), fun a ha => by rw [r4 a ha]; exact pa a ha⟩
      refine Rn.ieq rfl (X_ald rfl <| X_gi 8 9 9 hM.ob ⟨rfl, rfl, rfl⟩ (Or.inr rfl) <| X_nil) (by first | omega | (simp (disch := omega) only [um_eq, um_na, um_ni, Int.toNat_natCast]; omega)) (fun hc => absurd hc (by first | omega | decide | (simp (disch := omega) only [um_eq, um_na, um_ni, Int.toNat_natCast]; omega))) (fun hc => ?_)
      refine Rn.cge rfl (X_ald rfl <| X_gi 8 7 7 hM.ob ⟨rfl, rfl, rfl⟩ (Or.inl rfl) <| X_ald rfl <| X_gi 8 8 8 hM.ob ⟨rfl, rfl, rfl⟩ (Or.inl rfl) <| X_sub <| X_i <| X_nil) (by first | omega | (simp (disch := omega) only [um_eq, um_na, um_ni, Int.toNat_natCast]; omega)) (by first | omega | (simp (disch := omega) only [um_eq, um_na, um_ni, Int.toNat_natCast]; omega)) (fun hc => absurd hc (by first | omega | decide | (simp (disch := omega) only [um_eq, um_na, um_ni, Int.toNat_natCast]; omega))) (fun hc => ?_)
      refine Rn.cal rfl (X_ald rfl <| X_gi 8 11 11 hM.ob ⟨rfl, rfl, rfl⟩ (Or.inl rfl) <| X_i2l (by first | omega | (simp (disch := omega) only [um_eq, um_na, um_ni, Int.toNat_natCast]; omega)) <| X_ild rfl <| X_i2l (by first | omega | (simp (disch := omega) only [um_eq, um_na, um_ni, Int.toNat_natCast]; omega)) <| X_ild rfl <| X_i2l (by first | omega | (simp (disch := omega) only [um_eq, um_na, um_ni, Int.toNat_natCast]; omega)) <| X_nil) (vs := [_, _, _]) (rest := []) rfl rfl rfl rfl (ci) ?_
      refine Rn.ieq rfl (X_nil) (by first | omega | (simp (disch := omega) only [um_eq, um_na, um_ni, Int.toNat_natCast]; omega)) (fun hc => absurd hc (by first | omega | decide | (simp (disch := omega) only [um_eq, um_na, um_ni, Int.toNat_natCast]; omega))) (fun hc => ?_)
      refine Rn.jto rfl (X_i <| X_nil) ?_
      refine Rn.rz rfl (X_nil) rfl (by first | exact Or.inl rfl | exact Or.inr rfl | omega)
    · have ci := c_iN (S := S) (h := (T, Q)) (v := Q 76 11) (lo := lo) (hi := hi) (by omega) (by omega) (by omega) (by omega)
      refine ⟨Q, 0, st _ ?_, Or.inr ⟨rfl, fun q => c q.2⟩, by rw [q7]; exact p7, by rw [q8]; exact p8, fun k hk => by rw [r3 k (by omega)]; exact pk k (by omega), fun a ha => by rw [r4 a ha]; exact pa a ha⟩
      refine Rn.ieq rfl (X_ald rfl <| X_gi 8 9 9 hM.ob ⟨rfl, rfl, rfl⟩ (Or.inr rfl) <| X_nil) (by first | omega | (simp (disch := omega) only [um_eq, um_na, um_ni, Int.toNat_natCast]; omega)) (fun hc => absurd hc (by first | omega | decide | (simp (disch := omega) only [um_eq, um_na, um_ni, Int.toNat_natCast]; omega))) (fun hc => ?_)
      refine Rn.cge rfl (X_ald rfl <| X_gi 8 7 7 hM.ob ⟨rfl, rfl, rfl⟩ (Or.inl rfl) <| X_ald rfl <| X_gi 8 8 8 hM.ob ⟨rfl, rfl, rfl⟩ (Or.inl rfl) <| X_sub <| X_i <| X_nil) (by first | omega | (simp (disch := omega) only [um_eq, um_na, um_ni, Int.toNat_natCast]; omega)) (by first | omega | (simp (disch := omega) only [um_eq, um_na, um_ni, Int.toNat_natCast]; omega)) (fun hc => absurd hc (by first | omega | decide | (simp (disch := omega) only [um_eq, um_na, um_ni, Int.toNat_natCast]; omega))) (fun hc => ?_)
      refine Rn.cal rfl (X_ald rfl <| X_gi 8 11 11 hM.ob ⟨rfl, rfl, rfl⟩ (Or.inl rfl) <| X_i2l (by first | omega | (simp (disch := omega) only [um_eq, um_na, um_ni, Int.toNat_natCast]; omega)) <| X_ild rfl <| X_i2l (by first | omega | (simp (disch := omega) only [um_eq, um_na, um_ni, Int.toNat_natCast]; omega)) <| X_ild rfl <| X_i2l (by first | omega | (simp (disch := omega) only [um_eq, um_na, um_ni, Int.toNat_natCast]; omega)) <| X_nil) (vs := [_, _, _]) (rest := []) rfl rfl rfl rfl (ci) ?_
      refine Rn.ieq rfl (X_nil) (by first | omega | (simp (disch := omega) only [um_eq, um_na, um_ni, Int.toNat_natCast]; omega)) (fun hc => ?_) (fun hc => absurd hc (by first | omega | decide | (simp (disch := omega) only [um_eq, um_na, um_ni, Int.toNat_natCast]; omega)))
      refine Rn.fal rfl (X_i <| X_nil) ?_
      refine Rn.rz rfl (X_nil) rfl (by first | exact Or.inl rfl | exact Or.inr rfl | omega)
  · have nk := tK_not2 ht si.2 k2
    have u7 : um P 76 11 0 76 7 = ((tE f n s : Nat) : Int) := by rw [um_ni (by decide)]; exact p7
    have u8 : um P 76 11 0 76 8 = (s : Int) := by rw [um_ni (by decide)]; exact p8
    have u9 : um P 76 11 0 76 9 = (if 48 ≤ f s ∧ f s ≤ 57 then 1 else 0) := by rw [um_ni (by decide)]; exact p9
    refine ⟨um P 76 11 0, 0, ⟨_, rfl, ?_⟩, Or.inr ⟨rfl, fun q => k2 q.1⟩, u7, u8, fun k hk => by rw [um_ni (by omega)]; exact pk k (by omega), fun a ha => by rw [um_fn ha]; exact pa a ha⟩
    refine Rn.cal rfl (X_ald rfl <| X_nil) (vs := [_]) (rest := []) rfl rfl rfl (rcv_v hM.ob (by decide)) (ct) ?_
    refine Rn.fal rfl (X_ald rfl <| X_i <| X_pi 8 11 11 hM.ob ⟨rfl, rfl, rfl⟩ (Or.inl rfl) <| X_ald rfl <| X_gi 8 8 8 hM.ob ⟨rfl, rfl, rfl⟩ (Or.inl rfl) <| X_ist rfl (L' := [_, _, _, _]) rfl <| X_nil) ?_
    generalize um P 76 11 0 = Q at *
    by_cases c1 : 48 ≤ f s ∧ f s ≤ 57
    · rw [if_pos c1] at u9
      by_cases c2 : s < tE f n s
      · refine Rn.cge rfl (X_ild rfl <| X_ald rfl <| X_gi 8 7 7 hM.ob ⟨rfl, rfl, rfl⟩ (Or.inl rfl) <| X_nil) (by first | omega | (simp (disch := omega) only [um_eq, um_na, um_ni, Int.toNat_natCast]; omega)) (by first | omega | (simp (disch := omega) only [um_eq, um_na, um_ni, Int.toNat_natCast]; omega)) (fun hc => absurd hc (by first | omega | decide | (simp (disch := omega) only [um_eq, um_na, um_ni, Int.toNat_natCast]; omega))) (fun hc => ?_)
        refine Rn.ieq rfl (X_ald rfl <| X_gi 8 9 9 hM.ob ⟨rfl, rfl, rfl⟩ (Or.inr rfl) <| X_nil) (by first | omega | (simp (disch := omega) only [um_eq, um_na, um_ni, Int.toNat_natCast]; omega)) (fun hc => absurd hc (by first | omega | decide | (simp (disch := omega) only [um_eq, um_na, um_ni, Int.toNat_natCast]; omega))) (fun hc => ?_)
        refine Rn.cge rfl (X_ald rfl <| X_gi 8 7 7 hM.ob ⟨rfl, rfl, rfl⟩ (Or.inl rfl) <| X_ald rfl <| X_gi 8 8 8 hM.ob ⟨rfl, rfl, rfl⟩ (Or.inl rfl) <| X_sub <| X_i <| X_nil) (by first | omega | (simp (disch := omega) only [um_eq, um_na, um_ni, Int.toNat_natCast]; omega)) (by first | omega | (simp (disch := omega) only [um_eq, um_na, um_ni, Int.toNat_natCast]; omega)) (fun hc => ?_) (fun hc => absurd hc (by first | omega | decide | (simp (disch := omega) only [um_eq, um_na, um_ni, Int.toNat_natCast]; omega)))
        refine Rn.ieq rfl (X_ald rfl <| X_gi 8 9 9 hM.ob ⟨rfl, rfl, rfl⟩ (Or.inr rfl) <| X_nil) (by first | omega | (simp (disch := omega) only [um_eq, um_na, um_ni, Int.toNat_natCast]; omega)) (fun hc => absurd hc (by first | omega | decide | (simp (disch := omega) only [um_eq, um_na, um_ni, Int.toNat_natCast]; omega))) (fun hc => ?_)
        refine Rn.cge rfl (X_ald rfl <| X_gi 8 7 7 hM.ob ⟨rfl, rfl, rfl⟩ (Or.inl rfl) <| X_ald rfl <| X_gi 8 8 8 hM.ob ⟨rfl, rfl, rfl⟩ (Or.inl rfl) <| X_sub <| X_i <| X_nil) (by first | omega | (simp (disch := omega) only [um_eq, um_na, um_ni, Int.toNat_natCast]; omega)) (by first | omega | (simp (disch := omega) only [um_eq, um_na, um_ni, Int.toNat_natCast]; omega)) (fun hc => ?_) (fun hc => absurd hc (by first | omega | decide | (simp (disch := omega) only [um_eq, um_na, um_ni, Int.toNat_natCast]; omega)))
        refine Rn.fal rfl (X_i <| X_nil) ?_
        refine Rn.rz rfl (X_nil) rfl (by first | exact Or.inl rfl | exact Or.inr rfl | omega)
      · refine Rn.cge rfl (X_ild rfl <| X_ald rfl <| X_gi 8 7 7 hM.ob ⟨rfl, rfl, rfl⟩ (Or.inl rfl) <| X_nil) (by first | omega | (simp (disch := omega) only [um_eq, um_na, um_ni, Int.toNat_natCast]; omega)) (by first | omega | (simp (disch := omega) only [um_eq, um_na, um_ni, Int.toNat_natCast]; omega)) (fun hc => ?_) (fun hc => absurd hc (by first | omega | decide | (simp (disch := omega) only [um_eq, um_na, um_ni, Int.toNat_natCast]; omega)))
        refine Rn.ieq rfl (X_ald rfl <| X_gi 8 9 9 hM.ob ⟨rfl, rfl, rfl⟩ (Or.inr rfl) <| X_nil) (by first | omega | (simp (disch := omega) only [um_eq, um_na, um_ni, Int.toNat_natCast]; omega)) (fun hc => absurd hc (by first | omega | decide | (simp (disch := omega) only [um_eq, um_na, um_ni, Int.toNat_natCast]; omega))) (fun hc => ?_)
        refine Rn.cge rfl (X_ald rfl <| X_gi 8 7 7 hM.ob ⟨rfl, rfl, rfl⟩ (Or.inl rfl) <| X_ald rfl <| X_gi 8 8 8 hM.ob ⟨rfl, rfl, rfl⟩ (Or.inl rfl) <| X_sub <| X_i <| X_nil) (by first | omega | (simp (disch := omega) only [um_eq, um_na, um_ni, Int.toNat_natCast]; omega)) (by first | omega | (simp (disch := omega) only [um_eq, um_na, um_ni, Int.toNat_natCast]; omega)) (fun hc => ?_) (fun hc => absurd hc (by first | omega | decide | (simp (disch := omega) only [um_eq, um_na, um_ni, Int.toNat_natCast]; omega)))
        refine Rn.fal rfl (X_i <| X_nil) ?_
        refine Rn.rz rfl (X_nil) rfl (by first | exact Or.inl rfl | exact Or.inr rfl | omega)
    · rw [if_neg c1] at u9
      by_cases c2 : s < tE f n s
      · refine Rn.cge rfl (X_ild rfl <| X_ald rfl <| X_gi 8 7 7 hM.ob ⟨rfl, rfl, rfl⟩ (Or.inl rfl) <| X_nil) (by first | omega | (simp (disch := omega) only [um_eq, um_na, um_ni, Int.toNat_natCast]; omega)) (by first | omega | (simp (disch := omega) only [um_eq, um_na, um_ni, Int.toNat_natCast]; omega)) (fun hc => absurd hc (by first | omega | decide | (simp (disch := omega) only [um_eq, um_na, um_ni, Int.toNat_natCast]; omega))) (fun hc => ?_)
        refine Rn.ieq rfl (X_ald rfl <| X_gi 8 9 9 hM.ob ⟨rfl, rfl, rfl⟩ (Or.inr rfl) <| X_nil) (by first | omega | (simp (disch := omega) only [um_eq, um_na, um_ni, Int.toNat_natCast]; omega)) (fun hc => ?_) (fun hc => absurd hc (by first | omega | decide | (simp (disch := omega) only [um_eq, um_na, um_ni, Int.toNat_natCast]; omega)))
        refine Rn.ieq rfl (X_ald rfl <| X_gi 8 9 9 hM.ob ⟨rfl, rfl, rfl⟩ (Or.inr rfl) <| X_nil) (by first | omega | (simp (disch := omega) only [um_eq, um_na, um_ni, Int.toNat_natCast]; omega)) (fun hc => ?_) (fun hc => absurd hc (by first | omega | decide | (simp (disch := omega) only [um_eq, um_na, um_ni, Int.toNat_natCast]; omega)))
        refine Rn.fal rfl (X_i <| X_nil) ?_
        refine Rn.rz rfl (X_nil) rfl (by first | exact Or.inl rfl | exact Or.inr rfl | omega)
      · refine Rn.cge rfl (X_ild rfl <| X_ald rfl <| X_gi 8 7 7 hM.ob ⟨rfl, rfl, rfl⟩ (Or.inl rfl) <| X_nil) (by first | omega | (simp (disch := omega) only [um_eq, um_na, um_ni, Int.toNat_natCast]; omega)) (by first | omega | (simp (disch := omega) only [um_eq, um_na, um_ni, Int.toNat_natCast]; omega)) (fun hc => ?_) (fun hc => absurd hc (by first | omega | decide | (simp (disch := omega) only [um_eq, um_na, um_ni, Int.toNat_natCast]; omega)))
        refine Rn.ieq rfl (X_ald rfl <| X_gi 8 9 9 hM.ob ⟨rfl, rfl, rfl⟩ (Or.inr rfl) <| X_nil) (by first | omega | (simp (disch := omega) only [um_eq, um_na, um_ni, Int.toNat_natCast]; omega)) (fun hc => ?_) (fun hc => absurd hc (by first | omega | decide | (simp (disch := omega) only [um_eq, um_na, um_ni, Int.toNat_natCast]; omega)))
        refine Rn.fal rfl (X_i <| X_nil) ?_
        refine Rn.rz rfl (X_nil) rfl (by first | exact Or.inl rfl | exact Or.inr rfl | omega)
/-! words -/
theorem m_named {m : Nat} {a b c d : Int} (hM : isM T) (hc : MTx N n f) (h7 : N 76 7 = (e : Int)) (h8 : N 76 8 = (s : Int)) (hs : s ≤ 900) (he : e ≤ 900) (h10 : N 76 10 = 1) (ia : 0 ≤ a ∧ a ≤ 127) (ib : 0 ≤ b ∧ b ≤ 127) (ic : 0 ≤ c ∧ c ≤ 127) (id' : 0 ≤ d ∧ d ≤ 127) (hm : m ≤ 9) : ∃ v, Cl S 141 [vR 76, vI (m : Int), vI a, vI b, vI c, vI d] (T, N) (some (vI v), (T, N)) ∧ ((v = 1 ∧ (e = s + m ∧ f s = a ∧ f (s + 1) = b ∧ (m < 3 ∨ f (s + 2) = c) ∧ (m < 4 ∨ f (s + 3) = d))) ∨ (v = 0 ∧ ¬ (e = s + m ∧ f s = a ∧ f (s + 1) = b ∧ (m < 3 ∨ f (s + 2) = c) ∧ (m < 4 ∨ f (s + 3) = d)))) := by
  have fb := hc.2.1.i
  have f0 := fb s
  have f1 := fb (s + 1)
  have f2 := fb (s + 2)
  have f3 := fb (s + 3)
  have b0 := m_byteAt (S := S) (N := N) (k := s) hM hc (by omega) h8
  have b1 := m_byteAt (S := S) (N := N) (k := s + 1) (x := N 76 8 + 1) hM hc (by omega) (by omega)
  have b2 := m_byteAt (S := S) (N := N) (k := s + 2) (x := N 76 8 + 2) hM hc (by omega) (by omega)
  have b3 := m_byteAt (S := S) (N := N) (k := s + 3) (x := N 76 8 + 3) hM hc (by omega) (by omega)
  by_cases c0 : e = s + m
  case neg =>
    refine ⟨0, ⟨_, rfl, ?_⟩, Or.inr ⟨rfl, fun q => c0 q.1⟩⟩
    refine Rn.ieq rfl (X_ald rfl <| X_gi 8 10 10 hM.ob ⟨rfl, rfl, rfl⟩ (Or.inr rfl) <| X_nil) (by first | omega | (simp (disch := omega) only [um_eq, um_na, um_ni, Int.toNat_natCast]; omega)) (fun hc => absurd hc (by first | omega | decide | (simp (disch := omega) only [um_eq, um_na, um_ni, Int.toNat_natCast]; omega))) (fun hc => ?_)
    refine Rn.cne rfl (X_ald rfl <| X_gi 8 7 7 hM.ob ⟨rfl, rfl, rfl⟩ (Or.inl rfl) <| X_ald rfl <| X_gi 8 8 8 hM.ob ⟨rfl, rfl, rfl⟩ (Or.inl rfl) <| X_sub <| X_ild rfl <| X_nil) (by first | omega | (simp (disch := omega) only [um_eq, um_na, um_ni, Int.toNat_natCast]; omega)) (by first | omega | (simp (disch := omega) only [um_eq, um_na, um_ni, Int.toNat_natCast]; omega)) (fun hc => ?_) (fun hc => absurd hc (by first | omega | decide | (simp (disch := omega) only [um_eq, um_na, um_ni, Int.toNat_natCast]; omega)))
    refine Rn.fal rfl (X_i <| X_nil) ?_
    refine Rn.ieq rfl (X_ist rfl (L' := [_, _, _, _, _, _, _]) rfl <| X_ild rfl <| X_nil) (by first | omega | (simp (disch := omega) only [um_eq, um_na, um_ni, Int.toNat_natCast]; omega)) (fun hc => ?_) (fun hc => absurd hc (by first | omega | decide | (simp (disch := omega) only [um_eq, um_na, um_ni, Int.toNat_natCast]; omega)))
    refine Rn.fal rfl (X_i <| X_nil) ?_
    refine Rn.rz rfl (X_nil) rfl (by first | exact Or.inl rfl | exact Or.inr rfl | omega)
  by_cases c1 : f s = a
  case neg =>
    refine ⟨0, ⟨_, rfl, ?_⟩, Or.inr ⟨rfl, fun q => c1 q.2.1⟩⟩
    refine Rn.ieq rfl (X_ald rfl <| X_gi 8 10 10 hM.ob ⟨rfl, rfl, rfl⟩ (Or.inr rfl) <| X_nil) (by first | omega | (simp (disch := omega) only [um_eq, um_na, um_ni, Int.toNat_natCast]; omega)) (fun hc => absurd hc (by first | omega | decide | (simp (disch := omega) only [um_eq, um_na, um_ni, Int.toNat_natCast]; omega))) (fun hc => ?_)
    refine Rn.cne rfl (X_ald rfl <| X_gi 8 7 7 hM.ob ⟨rfl, rfl, rfl⟩ (Or.inl rfl) <| X_ald rfl <| X_gi 8 8 8 hM.ob ⟨rfl, rfl, rfl⟩ (Or.inl rfl) <| X_sub <| X_ild rfl <| X_nil) (by first | omega | (simp (disch := omega) only [um_eq, um_na, um_ni, Int.toNat_natCast]; omega)) (by first | omega | (simp (disch := omega) only [um_eq, um_na, um_ni, Int.toNat_natCast]; omega)) (fun hc => absurd hc (by first | omega | decide | (simp (disch := omega) only [um_eq, um_na, um_ni, Int.toNat_natCast]; omega))) (fun hc => ?_)
    refine Rn.cal rfl (X_ald rfl <| X_ald rfl <| X_gi 8 8 8 hM.ob ⟨rfl, rfl, rfl⟩ (Or.inl rfl) <| X_nil) (vs := [_, _]) (rest := []) rfl rfl rfl (rcv_v hM.ob (by decide)) (b0) ?_
    refine Rn.cne rfl (X_ild rfl <| X_nil) (by first | omega | (simp (disch := omega) only [um_eq, um_na, um_ni, Int.toNat_natCast]; omega)) (by first | omega | (simp (disch := omega) only [um_eq, um_na, um_ni, Int.toNat_natCast]; omega)) (fun hc => ?_) (fun hc => absurd hc (by first | omega | decide | (simp (disch := omega) only [um_eq, um_na, um_ni, Int.toNat_natCast]; omega)))
    refine Rn.fal rfl (X_i <| X_nil) ?_
    refine Rn.ieq rfl (X_ist rfl (L' := [_, _, _, _, _, _, _]) rfl <| X_ild rfl <| X_nil) (by first | omega | (simp (disch := omega) only [um_eq, um_na, um_ni, Int.toNat_natCast]; omega)) (fun hc => ?_) (fun hc => absurd hc (by first | omega | decide | (simp (disch := omega) only [um_eq, um_na, um_ni, Int.toNat_natCast]; omega)))
    refine Rn.fal rfl (X_i <| X_nil) ?_
    refine Rn.rz rfl (X_nil) rfl (by first | exact Or.inl rfl | exact Or.inr rfl | omega)
  by_cases c2 : f (s + 1) = b
  case neg =>
    refine ⟨0, ⟨_, rfl, ?_⟩, Or.inr ⟨rfl, fun q => c2 q.2.2.1⟩⟩
    refine Rn.ieq rfl (X_ald rfl <| X_gi 8 10 10 hM.ob ⟨rfl, rfl, rfl⟩ (Or.inr rfl) <| X_nil) (by first | omega | (simp (disch := omega) only [um_eq, um_na, um_ni, Int.toNat_natCast]; omega)) (fun hc => absurd hc (by first | omega | decide | (simp (disch := omega) only [um_eq, um_na, um_ni, Int.toNat_natCast]; omega))) (fun hc => ?_)
    refine Rn.cne rfl (X_ald rfl <| X_gi 8 7 7 hM.ob ⟨rfl, rfl, rfl⟩ (Or.inl rfl) <| X_ald rfl <| X_gi 8 8 8 hM.ob ⟨rfl, rfl, rfl⟩ (Or.inl rfl) <| X_sub <| X_ild rfl <| X_nil) (by first | omega | (simp (disch := omega) only [um_eq, um_na, um_ni, Int.toNat_natCast]; omega)) (by first | omega | (simp (disch := omega) only [um_eq, um_na, um_ni, Int.toNat_natCast]; omega)) (fun hc => absurd hc (by first | omega | decide | (simp (disch := omega) only [um_eq, um_na, um_ni, Int.toNat_natCast]; omega))) (fun hc => ?_)
    refine Rn.cal rfl (X_ald rfl <| X_ald rfl <| X_gi 8 8 8 hM.ob ⟨rfl, rfl, rfl⟩ (Or.inl rfl) <| X_nil) (vs := [_, _]) (rest := []) rfl rfl rfl (rcv_v hM.ob (by decide)) (b0) ?_
    refine Rn.cne rfl (X_ild rfl <| X_nil) (by first | omega | (simp (disch := omega) only [um_eq, um_na, um_ni, Int.toNat_natCast]; omega)) (by first | omega | (simp (disch := omega) only [um_eq, um_na, um_ni, Int.toNat_natCast]; omega)) (fun hc => absurd hc (by first | omega | decide | (simp (disch := omega) only [um_eq, um_na, um_ni, Int.toNat_natCast]; omega))) (fun hc => ?_)
    refine Rn.cal rfl (X_ald rfl <| X_ald rfl <| X_gi 8 8 8 hM.ob ⟨rfl, rfl, rfl⟩ (Or.inl rfl) <| X_i <| X_add <| X_nil) (vs := [_, _]) (rest := []) rfl rfl rfl (rcv_v hM.ob (by decide)) (b1) ?_
    refine Rn.cne rfl (X_ild rfl <| X_nil) (by first | omega | (simp (disch := omega) only [um_eq, um_na, um_ni, Int.toNat_natCast]; omega)) (by first | omega | (simp (disch := omega) only [um_eq, um_na, um_ni, Int.toNat_natCast]; omega)) (fun hc => ?_) (fun hc => absurd hc (by first | omega | decide | (simp (disch := omega) only [um_eq, um_na, um_ni, Int.toNat_natCast]; omega)))
    refine Rn.fal rfl (X_i <| X_nil) ?_
    refine Rn.ieq rfl (X_ist rfl (L' := [_, _, _, _, _, _, _]) rfl <| X_ild rfl <| X_nil) (by first | omega | (simp (disch := omega) only [um_eq, um_na, um_ni, Int.toNat_natCast]; omega)) (fun hc => ?_) (fun hc => absurd hc (by first | omega | decide | (simp (disch := omega) only [um_eq, um_na, um_ni, Int.toNat_natCast]; omega)))
    refine Rn.fal rfl (X_i <| X_nil) ?_
    refine Rn.rz rfl (X_nil) rfl (by first | exact Or.inl rfl | exact Or.inr rfl | omega)
  have k58 : ∀ v, Rn S 141 58 ([], [some (vR 76), some (vI (m : Int)), some (vI a), some (vI b), some (vI c), some (vI d), some (vI 1)], T, N) (some (vI v), (T, N)) → Cl S 141 [vR 76, vI (m : Int), vI a, vI b, vI c, vI d] (T, N) (some (vI v), (T, N)) := fun v hr => by
    refine ⟨_, rfl, ?_⟩
    refine Rn.ieq rfl (X_ald rfl <| X_gi 8 10 10 hM.ob ⟨rfl, rfl, rfl⟩ (Or.inr rfl) <| X_nil) (by first | omega | (simp (disch := omega) only [um_eq, um_na, um_ni, Int.toNat_natCast]; omega)) (fun hc => absurd hc (by first | omega | decide | (simp (disch := omega) only [um_eq, um_na, um_ni, Int.toNat_natCast]; omega))) (fun hc => ?_)
    refine Rn.cne rfl (X_ald rfl <| X_gi 8 7 7 hM.ob ⟨rfl, rfl, rfl⟩ (Or.inl rfl) <| X_ald rfl <| X_gi 8 8 8 hM.ob ⟨rfl, rfl, rfl⟩ (Or.inl rfl) <| X_sub <| X_ild rfl <| X_nil) (by first | omega | (simp (disch := omega) only [um_eq, um_na, um_ni, Int.toNat_natCast]; omega)) (by first | omega | (simp (disch := omega) only [um_eq, um_na, um_ni, Int.toNat_natCast]; omega)) (fun hc => absurd hc (by first | omega | decide | (simp (disch := omega) only [um_eq, um_na, um_ni, Int.toNat_natCast]; omega))) (fun hc => ?_)
    refine Rn.cal rfl (X_ald rfl <| X_ald rfl <| X_gi 8 8 8 hM.ob ⟨rfl, rfl, rfl⟩ (Or.inl rfl) <| X_nil) (vs := [_, _]) (rest := []) rfl rfl rfl (rcv_v hM.ob (by decide)) (b0) ?_
    refine Rn.cne rfl (X_ild rfl <| X_nil) (by first | omega | (simp (disch := omega) only [um_eq, um_na, um_ni, Int.toNat_natCast]; omega)) (by first | omega | (simp (disch := omega) only [um_eq, um_na, um_ni, Int.toNat_natCast]; omega)) (fun hc => absurd hc (by first | omega | decide | (simp (disch := omega) only [um_eq, um_na, um_ni, Int.toNat_natCast]; omega))) (fun hc => ?_)
    refine Rn.cal rfl (X_ald rfl <| X_ald rfl <| X_gi 8 8 8 hM.ob ⟨rfl, rfl, rfl⟩ (Or.inl rfl) <| X_i <| X_add <| X_nil) (vs := [_, _]) (rest := []) rfl rfl rfl (rcv_v hM.ob (by decide)) (b1) ?_
    refine Rn.cne rfl (X_ild rfl <| X_nil) (by first | omega | (simp (disch := omega) only [um_eq, um_na, um_ni, Int.toNat_natCast]; omega)) (by first | omega | (simp (disch := omega) only [um_eq, um_na, um_ni, Int.toNat_natCast]; omega)) (fun hc => absurd hc (by first | omega | decide | (simp (disch := omega) only [um_eq, um_na, um_ni, Int.toNat_natCast]; omega))) (fun hc => ?_)
    refine Rn.jto rfl (X_i <| X_nil) ?_
    refine Rn.ieq rfl (X_ist rfl (L' := [_, _, _, _, _, _, _]) rfl <| X_ild rfl <| X_nil) (by first | omega | (simp (disch := omega) only [um_eq, um_na, um_ni, Int.toNat_natCast]; omega)) (fun hc => absurd hc (by first | omega | decide | (simp (disch := omega) only [um_eq, um_na, um_ni, Int.toNat_natCast]; omega))) (fun hc => ?_)
    exact hr
  by_cases c3 : m < 3
  · refine ⟨1, k58 _ ?_, Or.inl ⟨rfl, c0, c1, c2, Or.inl c3, Or.inl (by omega)⟩⟩
    refine Rn.clt rfl (X_ild rfl <| X_i <| X_nil) (by first | omega | (simp (disch := omega) only [um_eq, um_na, um_ni, Int.toNat_natCast]; omega)) (by first | omega | (simp (disch := omega) only [um_eq, um_na, um_ni, Int.toNat_natCast]; omega)) (fun hc => ?_) (fun hc => absurd hc (by first | omega | decide | (simp (disch := omega) only [um_eq, um_na, um_ni, Int.toNat_natCast]; omega)))
    refine Rn.clt rfl (X_ild rfl <| X_i <| X_nil) (by first | omega | (simp (disch := omega) only [um_eq, um_na, um_ni, Int.toNat_natCast]; omega)) (by first | omega | (simp (disch := omega) only [um_eq, um_na, um_ni, Int.toNat_natCast]; omega)) (fun hc => ?_) (fun hc => absurd hc (by first | omega | decide | (simp (disch := omega) only [um_eq, um_na, um_ni, Int.toNat_natCast]; omega)))
    refine Rn.jto rfl (X_i <| X_nil) ?_
    refine Rn.rz rfl (X_nil) rfl (by first | exact Or.inl rfl | exact Or.inr rfl | omega)
  · by_cases c4 : f (s + 2) = c
    case neg =>
      refine ⟨0, k58 _ ?_, Or.inr ⟨rfl, fun q => by omega⟩⟩
      refine Rn.clt rfl (X_ild rfl <| X_i <| X_nil) (by first | omega | (simp (disch := omega) only [um_eq, um_na, um_ni, Int.toNat_natCast]; omega)) (by first | omega | (simp (disch := omega) only [um_eq, um_na, um_ni, Int.toNat_natCast]; omega)) (fun hc => absurd hc (by first | omega | decide | (simp (disch := omega) only [um_eq, um_na, um_ni, Int.toNat_natCast]; omega))) (fun hc => ?_)
      refine Rn.cal rfl (X_ald rfl <| X_ald rfl <| X_gi 8 8 8 hM.ob ⟨rfl, rfl, rfl⟩ (Or.inl rfl) <| X_i <| X_add <| X_nil) (vs := [_, _]) (rest := []) rfl rfl rfl (rcv_v hM.ob (by decide)) (b2) ?_
      refine Rn.cne rfl (X_ild rfl <| X_nil) (by first | omega | (simp (disch := omega) only [um_eq, um_na, um_ni, Int.toNat_natCast]; omega)) (by first | omega | (simp (disch := omega) only [um_eq, um_na, um_ni, Int.toNat_natCast]; omega)) (fun hc => ?_) (fun hc => absurd hc (by first | omega | decide | (simp (disch := omega) only [um_eq, um_na, um_ni, Int.toNat_natCast]; omega)))
      refine Rn.fal rfl (X_i <| X_nil) ?_
      refine Rn.rz rfl (X_nil) rfl (by first | exact Or.inl rfl | exact Or.inr rfl | omega)
    by_cases c5 : m < 4
    · refine ⟨1, k58 _ ?_, Or.inl ⟨rfl, c0, c1, c2, Or.inr c4, Or.inl c5⟩⟩
      refine Rn.clt rfl (X_ild rfl <| X_i <| X_nil) (by first | omega | (simp (disch := omega) only [um_eq, um_na, um_ni, Int.toNat_natCast]; omega)) (by first | omega | (simp (disch := omega) only [um_eq, um_na, um_ni, Int.toNat_natCast]; omega)) (fun hc => absurd hc (by first | omega | decide | (simp (disch := omega) only [um_eq, um_na, um_ni, Int.toNat_natCast]; omega))) (fun hc => ?_)
      refine Rn.cal rfl (X_ald rfl <| X_ald rfl <| X_gi 8 8 8 hM.ob ⟨rfl, rfl, rfl⟩ (Or.inl rfl) <| X_i <| X_add <| X_nil) (vs := [_, _]) (rest := []) rfl rfl rfl (rcv_v hM.ob (by decide)) (b2) ?_
      refine Rn.cne rfl (X_ild rfl <| X_nil) (by first | omega | (simp (disch := omega) only [um_eq, um_na, um_ni, Int.toNat_natCast]; omega)) (by first | omega | (simp (disch := omega) only [um_eq, um_na, um_ni, Int.toNat_natCast]; omega)) (fun hc => absurd hc (by first | omega | decide | (simp (disch := omega) only [um_eq, um_na, um_ni, Int.toNat_natCast]; omega))) (fun hc => ?_)
      refine Rn.clt rfl (X_ild rfl <| X_i <| X_nil) (by first | omega | (simp (disch := omega) only [um_eq, um_na, um_ni, Int.toNat_natCast]; omega)) (by first | omega | (simp (disch := omega) only [um_eq, um_na, um_ni, Int.toNat_natCast]; omega)) (fun hc => ?_) (fun hc => absurd hc (by first | omega | decide | (simp (disch := omega) only [um_eq, um_na, um_ni, Int.toNat_natCast]; omega)))
      refine Rn.jto rfl (X_i <| X_nil) ?_
      refine Rn.rz rfl (X_nil) rfl (by first | exact Or.inl rfl | exact Or.inr rfl | omega)
    · by_cases c6 : f (s + 3) = d
      · refine ⟨1, k58 _ ?_, Or.inl ⟨rfl, c0, c1, c2, Or.inr c4, Or.inr c6⟩⟩
        refine Rn.clt rfl (X_ild rfl <| X_i <| X_nil) (by first | omega | (simp (disch := omega) only [um_eq, um_na, um_ni, Int.toNat_natCast]; omega)) (by first | omega | (simp (disch := omega) only [um_eq, um_na, um_ni, Int.toNat_natCast]; omega)) (fun hc => absurd hc (by first | omega | decide | (simp (disch := omega) only [um_eq, um_na, um_ni, Int.toNat_natCast]; omega))) (fun hc => ?_)
        refine Rn.cal rfl (X_ald rfl <| X_ald rfl <| X_gi 8 8 8 hM.ob ⟨rfl, rfl, rfl⟩ (Or.inl rfl) <| X_i <| X_add <| X_nil) (vs := [_, _]) (rest := []) rfl rfl rfl (rcv_v hM.ob (by decide)) (b2) ?_
        refine Rn.cne rfl (X_ild rfl <| X_nil) (by first | omega | (simp (disch := omega) only [um_eq, um_na, um_ni, Int.toNat_natCast]; omega)) (by first | omega | (simp (disch := omega) only [um_eq, um_na, um_ni, Int.toNat_natCast]; omega)) (fun hc => absurd hc (by first | omega | decide | (simp (disch := omega) only [um_eq, um_na, um_ni, Int.toNat_natCast]; omega))) (fun hc => ?_)
        refine Rn.clt rfl (X_ild rfl <| X_i <| X_nil) (by first | omega | (simp (disch := omega) only [um_eq, um_na, um_ni, Int.toNat_natCast]; omega)) (by first | omega | (simp (disch := omega) only [um_eq, um_na, um_ni, Int.toNat_natCast]; omega)) (fun hc => absurd hc (by first | omega | decide | (simp (disch := omega) only [um_eq, um_na, um_ni, Int.toNat_natCast]; omega))) (fun hc => ?_)
        refine Rn.cal rfl (X_ald rfl <| X_ald rfl <| X_gi 8 8 8 hM.ob ⟨rfl, rfl, rfl⟩ (Or.inl rfl) <| X_i <| X_add <| X_nil) (vs := [_, _]) (rest := []) rfl rfl rfl (rcv_v hM.ob (by decide)) (b3) ?_
        refine Rn.cne rfl (X_ild rfl <| X_nil) (by first | omega | (simp (disch := omega) only [um_eq, um_na, um_ni, Int.toNat_natCast]; omega)) (by first | omega | (simp (disch := omega) only [um_eq, um_na, um_ni, Int.toNat_natCast]; omega)) (fun hc => absurd hc (by first | omega | decide | (simp (disch := omega) only [um_eq, um_na, um_ni, Int.toNat_natCast]; omega))) (fun hc => ?_)
        refine Rn.jto rfl (X_i <| X_nil) ?_
        refine Rn.rz rfl (X_nil) rfl (by first | exact Or.inl rfl | exact Or.inr rfl | omega)
      · refine ⟨0, k58 _ ?_, Or.inr ⟨rfl, fun q => by omega⟩⟩
        refine Rn.clt rfl (X_ild rfl <| X_i <| X_nil) (by first | omega | (simp (disch := omega) only [um_eq, um_na, um_ni, Int.toNat_natCast]; omega)) (by first | omega | (simp (disch := omega) only [um_eq, um_na, um_ni, Int.toNat_natCast]; omega)) (fun hc => absurd hc (by first | omega | decide | (simp (disch := omega) only [um_eq, um_na, um_ni, Int.toNat_natCast]; omega))) (fun hc => ?_)
        refine Rn.cal rfl (X_ald rfl <| X_ald rfl <| X_gi 8 8 8 hM.ob ⟨rfl, rfl, rfl⟩ (Or.inl rfl) <| X_i <| X_add <| X_nil) (vs := [_, _]) (rest := []) rfl rfl rfl (rcv_v hM.ob (by decide)) (b2) ?_
        refine Rn.cne rfl (X_ild rfl <| X_nil) (by first | omega | (simp (disch := omega) only [um_eq, um_na, um_ni, Int.toNat_natCast]; omega)) (by first | omega | (simp (disch := omega) only [um_eq, um_na, um_ni, Int.toNat_natCast]; omega)) (fun hc => absurd hc (by first | omega | decide | (simp (disch := omega) only [um_eq, um_na, um_ni, Int.toNat_natCast]; omega))) (fun hc => ?_)
        refine Rn.clt rfl (X_ild rfl <| X_i <| X_nil) (by first | omega | (simp (disch := omega) only [um_eq, um_na, um_ni, Int.toNat_natCast]; omega)) (by first | omega | (simp (disch := omega) only [um_eq, um_na, um_ni, Int.toNat_natCast]; omega)) (fun hc => absurd hc (by first | omega | decide | (simp (disch := omega) only [um_eq, um_na, um_ni, Int.toNat_natCast]; omega))) (fun hc => ?_)
        refine Rn.cal rfl (X_ald rfl <| X_ald rfl <| X_gi 8 8 8 hM.ob ⟨rfl, rfl, rfl⟩ (Or.inl rfl) <| X_i <| X_add <| X_nil) (vs := [_, _]) (rest := []) rfl rfl rfl (rcv_v hM.ob (by decide)) (b3) ?_
        refine Rn.cne rfl (X_ild rfl <| X_nil) (by first | omega | (simp (disch := omega) only [um_eq, um_na, um_ni, Int.toNat_natCast]; omega)) (by first | omega | (simp (disch := omega) only [um_eq, um_na, um_ni, Int.toNat_natCast]; omega)) (fun hc => ?_) (fun hc => absurd hc (by first | omega | decide | (simp (disch := omega) only [um_eq, um_na, um_ni, Int.toNat_natCast]; omega)))
        refine Rn.fal rfl (X_i <| X_nil) ?_
        refine Rn.rz rfl (X_nil) rfl (by first | exact Or.inl rfl | exact Or.inr rfl | omega)
theorem wm_3 : wm 3 f s e ↔ (e = s + 4 ∧ f s = 114 ∧ f (s + 1) = 111 ∧ f (s + 2) = 111 ∧ f (s + 3) = 109) :=
  ⟨fun q => ⟨q.1, q.2 0 (by decide), q.2 1 (by decide), q.2 2 (by decide), q.2 3 (by decide)⟩, fun ⟨q, q0, q1, q2, q3⟩ => ⟨q, fun i hi => by
    have hi : i < 4 := hi
    rcases (show i = 0 ∨ i = 1 ∨ i = 2 ∨ i = 3 by omega) with rfl | rfl | rfl | rfl
    · exact q0
    · exact q1
    · exact q2
    · exact q3⟩⟩
theorem wm_4 : wm 4 f s e ↔ (e = s + 6 ∧ f s = 115 ∧ f (s + 1) = 119 ∧ f (s + 2) = 105 ∧ f (s + 3) = 116 ∧ f (s + 4) = 99 ∧ f (s + 5) = 104) :=
  ⟨fun q => ⟨q.1, q.2 0 (by decide), q.2 1 (by decide), q.2 2 (by decide), q.2 3 (by decide), q.2 4 (by decide), q.2 5 (by decide)⟩, fun ⟨q, q0, q1, q2, q3, q4, q5⟩ => ⟨q, fun i hi => by
    have hi : i < 6 := hi
    rcases (show i = 0 ∨ i = 1 ∨ i = 2 ∨ i = 3 ∨ i = 4 ∨ i = 5 by omega) with rfl | rfl | rfl | rfl | rfl | rfl
    · exact q0
    · exact q1
    · exact q2
    · exact q3
    · exact q4
    · exact q5⟩⟩
theorem wm_5 : wm 5 f s e ↔ (e = s + 3 ∧ f s = 98 ∧ f (s + 1) = 101 ∧ f (s + 2) = 100) :=
  ⟨fun q => ⟨q.1, q.2 0 (by decide), q.2 1 (by decide), q.2 2 (by decide)⟩, fun ⟨q, q0, q1, q2⟩ => ⟨q, fun i hi => by
    have hi : i < 3 := hi
    rcases (show i = 0 ∨ i = 1 ∨ i = 2 by omega) with rfl | rfl | rfl
    · exact q0
    · exact q1
    · exact q2⟩⟩
theorem wm_6 : wm 6 f s e ↔ (e = s + 5 ∧ f s = 116 ∧ f (s + 1) = 104 ∧ f (s + 2) = 105 ∧ f (s + 3) = 110 ∧ f (s + 4) = 103) :=
  ⟨fun q => ⟨q.1, q.2 0 (by decide), q.2 1 (by decide), q.2 2 (by decide), q.2 3 (by decide), q.2 4 (by decide)⟩, fun ⟨q, q0, q1, q2, q3, q4⟩ => ⟨q, fun i hi => by
    have hi : i < 5 := hi
    rcases (show i = 0 ∨ i = 1 ∨ i = 2 ∨ i = 3 ∨ i = 4 by omega) with rfl | rfl | rfl | rfl | rfl
    · exact q0
    · exact q1
    · exact q2
    · exact q3
    · exact q4⟩⟩
theorem wm_7 : wm 7 f s e ↔ (e = s + 4 ∧ f s = 109 ∧ f (s + 1) = 111 ∧ f (s + 2) = 111 ∧ f (s + 3) = 110) :=
  ⟨fun q => ⟨q.1, q.2 0 (by decide), q.2 1 (by decide), q.2 2 (by decide), q.2 3 (by decide)⟩, fun ⟨q, q0, q1, q2, q3⟩ => ⟨q, fun i hi => by
    have hi : i < 4 := hi
    rcases (show i = 0 ∨ i = 1 ∨ i = 2 ∨ i = 3 by omega) with rfl | rfl | rfl | rfl
    · exact q0
    · exact q1
    · exact q2
    · exact q3⟩⟩
theorem wm_8 : wm 8 f s e ↔ (e = s + 4 ∧ f s = 99 ∧ f (s + 1) = 111 ∧ f (s + 2) = 114 ∧ f (s + 3) = 100) :=
  ⟨fun q => ⟨q.1, q.2 0 (by decide), q.2 1 (by decide), q.2 2 (by decide), q.2 3 (by decide)⟩, fun ⟨q, q0, q1, q2, q3⟩ => ⟨q, fun i hi => by
    have hi : i < 4 := hi
    rcases (show i = 0 ∨ i = 1 ∨ i = 2 ∨ i = 3 by omega) with rfl | rfl | rfl | rfl
    · exact q0
    · exact q1
    · exact q2
    · exact q3⟩⟩
theorem wm_9 : wm 9 f s e ↔ (e = s + 7 ∧ f s = 115 ∧ f (s + 1) = 108 ∧ f (s + 2) = 101 ∧ f (s + 3) = 101 ∧ f (s + 4) = 112 ∧ f (s + 5) = 101 ∧ f (s + 6) = 114) :=
  ⟨fun q => ⟨q.1, q.2 0 (by decide), q.2 1 (by decide), q.2 2 (by decide), q.2 3 (by decide), q.2 4 (by decide), q.2 5 (by decide), q.2 6 (by decide)⟩, fun ⟨q, q0, q1, q2, q3, q4, q5, q6⟩ => ⟨q, fun i hi => by
    have hi : i < 7 := hi
    rcases (show i = 0 ∨ i = 1 ∨ i = 2 ∨ i = 3 ∨ i = 4 ∨ i = 5 ∨ i = 6 by omega) with rfl | rfl | rfl | rfl | rfl | rfl | rfl
    · exact q0
    · exact q1
    · exact q2
    · exact q3
    · exact q4
    · exact q5
    · exact q6⟩⟩
theorem wm_10 : wm 10 f s e ↔ (e = s + 2 ∧ f s = 117 ∧ f (s + 1) = 112) :=
  ⟨fun q => ⟨q.1, q.2 0 (by decide), q.2 1 (by decide)⟩, fun ⟨q, q0, q1⟩ => ⟨q, fun i hi => by
    have hi : i < 2 := hi
    rcases (show i = 0 ∨ i = 1 by omega) with rfl | rfl
    · exact q0
    · exact q1⟩⟩
def NmC (f : Nat → Int) (s e m : Nat) (a b c d : Int) : Prop := e = s + m ∧ f s = a ∧ f (s + 1) = b ∧ (m < 3 ∨ f (s + 2) = c) ∧ (m < 4 ∨ f (s + 3) = d)
/-- the model stands at a word -/
def AtW (T : List Sh) (N : Nat → Int → Int) (n : Nat) (f : Nat → Int) (s e : Nat) : Prop := isM T ∧ MTx N n f ∧ N 76 7 = (e : Int) ∧ N 76 8 = (s : Int) ∧ s ≤ 900 ∧ e ≤ 900 ∧ N 76 10 = 1
theorem m_nmY {m : Nat} {a b c d : Int} (hw : AtW T N n f s e) (hm : m ≤ 9) (ha : (0 ≤ a ∧ a ≤ 127) ∧ (0 ≤ b ∧ b ≤ 127) ∧ (0 ≤ c ∧ c ≤ 127) ∧ (0 ≤ d ∧ d ≤ 127)) (k : NmC f s e m a b c d) : Cl S 141 [vR 76, vI (m : Int), vI a, vI b, vI c, vI d] (T, N) (some (vI 1), (T, N)) := by
  obtain ⟨hM, hc, h7, h8, hs, he, h10⟩ := hw
  obtain ⟨v, c, q⟩ := m_named (S := S) hM hc h7 h8 hs he h10 ha.1 ha.2.1 ha.2.2.1 ha.2.2.2 hm
  rcases q with ⟨rfl, -⟩ | ⟨-, q⟩
  · exact c
  · exact absurd k q
theorem m_nmN {m : Nat} {a b c d : Int} (hw : AtW T N n f s e) (hm : m ≤ 9) (ha : (0 ≤ a ∧ a ≤ 127) ∧ (0 ≤ b ∧ b ≤ 127) ∧ (0 ≤ c ∧ c ≤ 127) ∧ (0 ≤ d ∧ d ≤ 127)) (k : ¬ NmC f s e m a b c d) : Cl S 141 [vR 76, vI (m : Int), vI a, vI b, vI c, vI d] (T, N) (some (vI 0), (T, N)) := by
  obtain ⟨hM, hc, h7, h8, hs, he, h10⟩ := hw
  obtain ⟨v, c, q⟩ := m_named (S := S) hM hc h7 h8 hs he h10 ha.1 ha.2.1 ha.2.2.1 ha.2.2.2 hm
  rcases q with ⟨-, q⟩ | ⟨rfl, -⟩
  · exact absurd q k
  · exact c
theorem m_at {k : Nat} (hw : AtW T N n f s e) (hk : k ≤ 9) : Cl S 138 [vR 76, vI (N 76 8 + (k : Int))] (T, N) (some (vI (f (s + k))), (T, N)) := by
  obtain ⟨hM, hc, h7, h8, hs, he, h10⟩ := hw
  exact m_byteAt hM hc (by omega) (by rw [h8]; omega)
theorem x_3 {r : Option AV × Hp} (hw : AtW T N n f s e) (w : ¬ wm 3 f s e) (hr : Rn S 142 18 ([], [some (vR 76)], T, N) r) : Rn S 142 0 ([], [some (vR 76)], T, N) r := by
  have hM := hw.1
  have c := m_nmN (S := S) (m := 4) (a := 114) (b := 111) (c := 111) (d := 109) hw (by decide) (by decide) (fun ⟨q0, q1, q2, q3, q4⟩ => w (wm_3.mpr ⟨q0, q1, q2, by omega, by omega⟩))
  refine Rn.cal rfl (X_ald rfl <| X_i <| X_i <| X_i <| X_i <| X_i <| X_nil) (vs := [_, _, _, _, _, _]) (rest := []) rfl rfl rfl (rcv_v hM.ob (by decide)) (c) ?_
  refine Rn.ieq rfl (X_nil) (by first | omega | (simp (disch := omega) only [um_eq, um_na, um_ni, Int.toNat_natCast]; omega)) (fun hc => ?_) (fun hc => absurd hc (by first | omega | decide | (simp (disch := omega) only [um_eq, um_na, um_ni, Int.toNat_natCast]; omega)))
  exact hr
theorem y_3 (hw : AtW T N n f s e) (w : wm 3 f s e) : Rn S 142 0 ([], [some (vR 76)], T, N) (some (vI 0), (T, N)) := by
  have hM := hw.1
  obtain ⟨q0, q1, q2, q3, q4⟩ := wm_3.mp w
  have c := m_nmY (S := S) (m := 4) (a := 114) (b := 111) (c := 111) (d := 109) hw (by decide) (by decide) ⟨q0, q1, q2, Or.inr q3, Or.inr q4⟩
  refine Rn.cal rfl (X_ald rfl <| X_i <| X_i <| X_i <| X_i <| X_i <| X_nil) (vs := [_, _, _, _, _, _]) (rest := []) rfl rfl rfl (rcv_v hM.ob (by decide)) (c) ?_
  refine Rn.ieq rfl (X_nil) (by first | omega | (simp (disch := omega) only [um_eq, um_na, um_ni, Int.toNat_natCast]; omega)) (fun hc => absurd hc (by first | omega | decide | (simp (disch := omega) only [um_eq, um_na, um_ni, Int.toNat_natCast]; omega))) (fun hc => ?_)
  refine Rn.ri rfl (X_i <| X_nil) rfl
theorem x_4 {r : Option AV × Hp} (hw : AtW T N n f s e) (w : ¬ wm 4 f s e) (hr : Rn S 142 67 ([], [some (vR 76)], T, N) r) : Rn S 142 18 ([], [some (vR 76)], T, N) r := by
  have hM := hw.1
  have b4 := m_at (S := S) (k := 4) hw (by decide)
  have b5 := m_at (S := S) (k := 5) hw (by decide)
  have f4 := hw.2.1.2.1.i (s + 4)
  have f5 := hw.2.1.2.1.i (s + 5)
  by_cases k : NmC f s e 6 115 119 105 116
  · have c := m_nmY (S := S) (m := 6) (a := 115) (b := 119) (c := 105) (d := 116) hw (by decide) (by decide) k
    by_cases k4 : f (s + 4) = 99
    · have k5 : f (s + 5) ≠ 104 := fun q => by
        obtain ⟨q0, q1, q2, q3, q4⟩ := k
        exact w (wm_4.mpr ⟨q0, q1, q2, by omega, by omega, k4, q⟩)
      refine Rn.cal rfl (X_ald rfl <| X_i <| X_i <| X_i <| X_i <| X_i <| X_nil) (vs := [_, _, _, _, _, _]) (rest := []) rfl rfl rfl (rcv_v hM.ob (by decide)) (c) ?_
      refine Rn.ieq rfl (X_nil) (by first | omega | (simp (disch := omega) only [um_eq, um_na, um_ni, Int.toNat_natCast]; omega)) (fun hc => absurd hc (by first | omega | decide | (simp (disch := omega) only [um_eq, um_na, um_ni, Int.toNat_natCast]; omega))) (fun hc => ?_)
      refine Rn.cal rfl (X_ald rfl <| X_ald rfl <| X_gi 8 8 8 hM.ob ⟨rfl, rfl, rfl⟩ (Or.inl rfl) <| X_i <| X_add <| X_nil) (vs := [_, _]) (rest := []) rfl rfl rfl (rcv_v hM.ob (by decide)) (b4) ?_
      refine Rn.cne rfl (X_i <| X_nil) (by first | omega | (simp (disch := omega) only [um_eq, um_na, um_ni, Int.toNat_natCast]; omega)) (by first | omega | (simp (disch := omega) only [um_eq, um_na, um_ni, Int.toNat_natCast]; omega)) (fun hc => absurd hc (by first | omega | decide | (simp (disch := omega) only [um_eq, um_na, um_ni, Int.toNat_natCast]; omega))) (fun hc => ?_)
      refine Rn.cal rfl (X_ald rfl <| X_ald rfl <| X_gi 8 8 8 hM.ob ⟨rfl, rfl, rfl⟩ (Or.inl rfl) <| X_i <| X_add <| X_nil) (vs := [_, _]) (rest := []) rfl rfl rfl (rcv_v hM.ob (by decide)) (b5) ?_
      refine Rn.cne rfl (X_i <| X_nil) (by first | omega | (simp (disch := omega) only [um_eq, um_na, um_ni, Int.toNat_natCast]; omega)) (by first | omega | (simp (disch := omega) only [um_eq, um_na, um_ni, Int.toNat_natCast]; omega)) (fun hc => ?_) (fun hc => absurd hc (by first | omega | decide | (simp (disch := omega) only [um_eq, um_na, um_ni, Int.toNat_natCast]; omega)))
      exact hr
    · refine Rn.cal rfl (X_ald rfl <| X_i <| X_i <| X_i <| X_i <| X_i <| X_nil) (vs := [_, _, _, _, _, _]) (rest := []) rfl rfl rfl (rcv_v hM.ob (by decide)) (c) ?_
      refine Rn.ieq rfl (X_nil) (by first | omega | (simp (disch := omega) only [um_eq, um_na, um_ni, Int.toNat_natCast]; omega)) (fun hc => absurd hc (by first | omega | decide | (simp (disch := omega) only [um_eq, um_na, um_ni, Int.toNat_natCast]; omega))) (fun hc => ?_)
      refine Rn.cal rfl (X_ald rfl <| X_ald rfl <| X_gi 8 8 8 hM.ob ⟨rfl, rfl, rfl⟩ (Or.inl rfl) <| X_i <| X_add <| X_nil) (vs := [_, _]) (rest := []) rfl rfl rfl (rcv_v hM.ob (by decide)) (b4) ?_
      refine Rn.cne rfl (X_i <| X_nil) (by first | omega | (simp (disch := omega) only [um_eq, um_na, um_ni, Int.toNat_natCast]; omega)) (by first | omega | (simp (disch := omega) only [um_eq, um_na, um_ni, Int.toNat_natCast]; omega)) (fun hc => ?_) (fun hc => absurd hc (by first | omega | decide | (simp (disch := omega) only [um_eq, um_na, um_ni, Int.toNat_natCast]; omega)))
      exact hr
  · have c := m_nmN (S := S) (m := 6) (a := 115) (b := 119) (c := 105) (d := 116) hw (by decide) (by decide) k
    refine Rn.cal rfl (X_ald rfl <| X_i <| X_i <| X_i <| X_i <| X_i <| X_nil) (vs := [_, _, _, _, _, _]) (rest := []) rfl rfl rfl (rcv_v hM.ob (by decide)) (c) ?_
    refine Rn.ieq rfl (X_nil) (by first | omega | (simp (disch := omega) only [um_eq, um_na, um_ni, Int.toNat_natCast]; omega)) (fun hc => ?_) (fun hc => absurd hc (by first | omega | decide | (simp (disch := omega) only [um_eq, um_na, um_ni, Int.toNat_natCast]; omega)))
    exact hr
theorem y_4 (hw : AtW T N n f s e) (w : wm 4 f s e) : Rn S 142 18 ([], [some (vR 76)], T, N) (some (vI 1), (T, N)) := by
  have hM := hw.1
  have b4 := m_at (S := S) (k := 4) hw (by decide)
  have b5 := m_at (S := S) (k := 5) hw (by decide)
  obtain ⟨q0, q1, q2, q3, q4, q5, q6⟩ := wm_4.mp w
  have c := m_nmY (S := S) (m := 6) (a := 115) (b := 119) (c := 105) (d := 116) hw (by decide) (by decide) ⟨q0, q1, q2, Or.inr q3, Or.inr q4⟩
  refine Rn.cal rfl (X_ald rfl <| X_i <| X_i <| X_i <| X_i <| X_i <| X_nil) (vs := [_, _, _, _, _, _]) (rest := []) rfl rfl rfl (rcv_v hM.ob (by decide)) (c) ?_
  refine Rn.ieq rfl (X_nil) (by first | omega | (simp (disch := omega) only [um_eq, um_na, um_ni, Int.toNat_natCast]; omega)) (fun hc => absurd hc (by first | omega | decide | (simp (disch := omega) only [um_eq, um_na, um_ni, Int.toNat_natCast]; omega))) (fun hc => ?_)
  refine Rn.cal rfl (X_ald rfl <| X_ald rfl <| X_gi 8 8 8 hM.ob ⟨rfl, rfl, rfl⟩ (Or.inl rfl) <| X_i <| X_add <| X_nil) (vs := [_, _]) (rest := []) rfl rfl rfl (rcv_v hM.ob (by decide)) (b4) ?_
  refine Rn.cne rfl (X_i <| X_nil) (by first | omega | (simp (disch := omega) only [um_eq, um_na, um_ni, Int.toNat_natCast]; omega)) (by first | omega | (simp (disch := omega) only [um_eq, um_na, um_ni, Int.toNat_natCast]; omega)) (fun hc => absurd hc (by first | omega | decide | (simp (disch := omega) only [um_eq, um_na, um_ni, Int.toNat_natCast]; omega))) (fun hc => ?_)
  refine Rn.cal rfl (X_ald rfl <| X_ald rfl <| X_gi 8 8 8 hM.ob ⟨rfl, rfl, rfl⟩ (Or.inl rfl) <| X_i <| X_add <| X_nil) (vs := [_, _]) (rest := []) rfl rfl rfl (rcv_v hM.ob (by decide)) (b5) ?_
  refine Rn.cne rfl (X_i <| X_nil) (by first | omega | (simp (disch := omega) only [um_eq, um_na, um_ni, Int.toNat_natCast]; omega)) (by first | omega | (simp (disch := omega) only [um_eq, um_na, um_ni, Int.toNat_natCast]; omega)) (fun hc => absurd hc (by first | omega | decide | (simp (disch := omega) only [um_eq, um_na, um_ni, Int.toNat_natCast]; omega))) (fun hc => ?_)
  refine Rn.ri rfl (X_i <| X_nil) rfl
theorem x_5 {r : Option AV × Hp} (hw : AtW T N n f s e) (w : ¬ wm 5 f s e) (hr : Rn S 142 84 ([], [some (vR 76)], T, N) r) : Rn S 142 67 ([], [some (vR 76)], T, N) r := by
  have hM := hw.1
  have c := m_nmN (S := S) (m := 3) (a := 98) (b := 101) (c := 100) (d := 0) hw (by decide) (by decide) (fun ⟨q0, q1, q2, q3, q4⟩ => w (wm_5.mpr ⟨q0, q1, q2, by omega⟩))
  refine Rn.cal rfl (X_ald rfl <| X_i <| X_i <| X_i <| X_i <| X_i <| X_nil) (vs := [_, _, _, _, _, _]) (rest := []) rfl rfl rfl (rcv_v hM.ob (by decide)) (c) ?_
  refine Rn.ieq rfl (X_nil) (by first | omega | (simp (disch := omega) only [um_eq, um_na, um_ni, Int.toNat_natCast]; omega)) (fun hc => ?_) (fun hc => absurd hc (by first | omega | decide | (simp (disch := omega) only [um_eq, um_na, um_ni, Int.toNat_natCast]; omega)))
  exact hr
theorem y_5 (hw : AtW T N n f s e) (w : wm 5 f s e) : Rn S 142 67 ([], [some (vR 76)], T, N) (some (vI 2), (T, N)) := by
  have hM := hw.1
  obtain ⟨q0, q1, q2, q3⟩ := wm_5.mp w
  have c := m_nmY (S := S) (m := 3) (a := 98) (b := 101) (c := 100) (d := 0) hw (by decide) (by decide) ⟨q0, q1, q2, Or.inr q3, Or.inl (by decide)⟩
  refine Rn.cal rfl (X_ald rfl <| X_i <| X_i <| X_i <| X_i <| X_i <| X_nil) (vs := [_, _, _, _, _, _]) (rest := []) rfl rfl rfl (rcv_v hM.ob (by decide)) (c) ?_
  refine Rn.ieq rfl (X_nil) (by first | omega | (simp (disch := omega) only [um_eq, um_na, um_ni, Int.toNat_natCast]; omega)) (fun hc => absurd hc (by first | omega | decide | (simp (disch := omega) only [um_eq, um_na, um_ni, Int.toNat_natCast]; omega))) (fun hc => ?_)
  refine Rn.ri rfl (X_i <| X_nil) rfl
theorem x_6 {r : Option AV × Hp} (hw : AtW T N n f s e) (w : ¬ wm 6 f s e) (hr : Rn S 142 117 ([], [some (vR 76)], T, N) r) : Rn S 142 84 ([], [some (vR 76)], T, N) r := by
  have hM := hw.1
  have b4 := m_at (S := S) (k := 4) hw (by decide)
  have f4 := hw.2.1.2.1.i (s + 4)
  by_cases k : NmC f s e 5 116 104 105 110
  · have c := m_nmY (S := S) (m := 5) (a := 116) (b := 104) (c := 105) (d := 110) hw (by decide) (by decide) k
    have k5 : f (s + 4) ≠ 103 := fun q => by
      obtain ⟨q0, q1, q2, q3, q4⟩ := k
      exact w (wm_6.mpr ⟨q0, q1, q2, by omega, by omega, q⟩)
    refine Rn.cal rfl (X_ald rfl <| X_i <| X_i <| X_i <| X_i <| X_i <| X_nil) (vs := [_, _, _, _, _, _]) (rest := []) rfl rfl rfl (rcv_v hM.ob (by decide)) (c) ?_
    refine Rn.ieq rfl (X_nil) (by first | omega | (simp (disch := omega) only [um_eq, um_na, um_ni, Int.toNat_natCast]; omega)) (fun hc => absurd hc (by first | omega | decide | (simp (disch := omega) only [um_eq, um_na, um_ni, Int.toNat_natCast]; omega))) (fun hc => ?_)
    refine Rn.cal rfl (X_ald rfl <| X_ald rfl <| X_gi 8 8 8 hM.ob ⟨rfl, rfl, rfl⟩ (Or.inl rfl) <| X_i <| X_add <| X_nil) (vs := [_, _]) (rest := []) rfl rfl rfl (rcv_v hM.ob (by decide)) (b4) ?_
    refine Rn.cne rfl (X_i <| X_nil) (by first | omega | (simp (disch := omega) only [um_eq, um_na, um_ni, Int.toNat_natCast]; omega)) (by first | omega | (simp (disch := omega) only [um_eq, um_na, um_ni, Int.toNat_natCast]; omega)) (fun hc => ?_) (fun hc => absurd hc (by first | omega | decide | (simp (disch := omega) only [um_eq, um_na, um_ni, Int.toNat_natCast]; omega)))
    exact hr
  · have c := m_nmN (S := S) (m := 5) (a := 116) (b := 104) (c := 105) (d := 110) hw (by decide) (by decide) k
    refine Rn.cal rfl (X_ald rfl <| X_i <| X_i <| X_i <| X_i <| X_i <| X_nil) (vs := [_, _, _, _, _, _]) (rest := []) rfl rfl rfl (rcv_v hM.ob (by decide)) (c) ?_
    refine Rn.ieq rfl (X_nil) (by first | omega | (simp (disch := omega) only [um_eq, um_na, um_ni, Int.toNat_natCast]; omega)) (fun hc => ?_) (fun hc => absurd hc (by first | omega | decide | (simp (disch := omega) only [um_eq, um_na, um_ni, Int.toNat_natCast]; omega)))
    exact hr
theorem y_6 (hw : AtW T N n f s e) (w : wm 6 f s e) : Rn S 142 84 ([], [some (vR 76)], T, N) (some (vI 3), (T, N)) := by
  have hM := hw.1
  have b4 := m_at (S := S) (k := 4) hw (by decide)
  obtain ⟨q0, q1, q2, q3, q4, q5⟩ := wm_6.mp w
  have c := m_nmY (S := S) (m := 5) (a := 116) (b := 104) (c := 105) (d := 110) hw (by decide) (by decide) ⟨q0, q1, q2, Or.inr q3, Or.inr q4⟩
  refine Rn.cal rfl (X_ald rfl <| X_i <| X_i <| X_i <| X_i <| X_i <| X_nil) (vs := [_, _, _, _, _, _]) (rest := []) rfl rfl rfl (rcv_v hM.ob (by decide)) (c) ?_
  refine Rn.ieq rfl (X_nil) (by first | omega | (simp (disch := omega) only [um_eq, um_na, um_ni, Int.toNat_natCast]; omega)) (fun hc => absurd hc (by first | omega | decide | (simp (disch := omega) only [um_eq, um_na, um_ni, Int.toNat_natCast]; omega))) (fun hc => ?_)
  refine Rn.cal rfl (X_ald rfl <| X_ald rfl <| X_gi 8 8 8 hM.ob ⟨rfl, rfl, rfl⟩ (Or.inl rfl) <| X_i <| X_add <| X_nil) (vs := [_, _]) (rest := []) rfl rfl rfl (rcv_v hM.ob (by decide)) (b4) ?_
  refine Rn.cne rfl (X_i <| X_nil) (by first | omega | (simp (disch := omega) only [um_eq, um_na, um_ni, Int.toNat_natCast]; omega)) (by first | omega | (simp (disch := omega) only [um_eq, um_na, um_ni, Int.toNat_natCast]; omega)) (fun hc => absurd hc (by first | omega | decide | (simp (disch := omega) only [um_eq, um_na, um_ni, Int.toNat_natCast]; omega))) (fun hc => ?_)
  refine Rn.ri rfl (X_i <| X_nil) rfl
theorem x_7 {r : Option AV × Hp} (hw : AtW T N n f s e) (w : ¬ wm 7 f s e) (hr : Rn S 142 135 ([], [some (vR 76)], T, N) r) : Rn S 142 117 ([], [some (vR 76)], T, N) r := by
  have hM := hw.1
  have c := m_nmN (S := S) (m := 4) (a := 109) (b := 111) (c := 111) (d := 110) hw (by decide) (by decide) (fun ⟨q0, q1, q2, q3, q4⟩ => w (wm_7.mpr ⟨q0, q1, q2, by omega, by omega⟩))
  refine Rn.cal rfl (X_ald rfl <| X_i <| X_i <| X_i <| X_i <| X_i <| X_nil) (vs := [_, _, _, _, _, _]) (rest := []) rfl rfl rfl (rcv_v hM.ob (by decide)) (c) ?_
  refine Rn.ieq rfl (X_nil) (by first | omega | (simp (disch := omega) only [um_eq, um_na, um_ni, Int.toNat_natCast]; omega)) (fun hc => ?_) (fun hc => absurd hc (by first | omega | decide | (simp (disch := omega) only [um_eq, um_na, um_ni, Int.toNat_natCast]; omega)))
  exact hr
theorem y_7 (hw : AtW T N n f s e) (w : wm 7 f s e) : Rn S 142 117 ([], [some (vR 76)], T, N) (some (vI 4), (T, N)) := by
  have hM := hw.1
  obtain ⟨q0, q1, q2, q3, q4⟩ := wm_7.mp w
  have c := m_nmY (S := S) (m := 4) (a := 109) (b := 111) (c := 111) (d := 110) hw (by decide) (by decide) ⟨q0, q1, q2, Or.inr q3, Or.inr q4⟩
  refine Rn.cal rfl (X_ald rfl <| X_i <| X_i <| X_i <| X_i <| X_i <| X_nil) (vs := [_, _, _, _, _, _]) (rest := []) rfl rfl rfl (rcv_v hM.ob (by decide)) (c) ?_
  refine Rn.ieq rfl (X_nil) (by first | omega | (simp (disch := omega) only [um_eq, um_na, um_ni, Int.toNat_natCast]; omega)) (fun hc => absurd hc (by first | omega | decide | (simp (disch := omega) only [um_eq, um_na, um_ni, Int.toNat_natCast]; omega))) (fun hc => ?_)
  refine Rn.ri rfl (X_i <| X_nil) rfl
theorem x_8 {r : Option AV × Hp} (hw : AtW T N n f s e) (w : ¬ wm 8 f s e) (hr : Rn S 142 153 ([], [some (vR 76)], T, N) r) : Rn S 142 135 ([], [some (vR 76)], T, N) r := by
  have hM := hw.1
  have c := m_nmN (S := S) (m := 4) (a := 99) (b := 111) (c := 114) (d := 100) hw (by decide) (by decide) (fun ⟨q0, q1, q2, q3, q4⟩ => w (wm_8.mpr ⟨q0, q1, q2, by omega, by omega⟩))
  refine Rn.cal rfl (X_ald rfl <| X_i <| X_i <| X_i <| X_i <| X_i <| X_nil) (vs := [_, _, _, _, _, _]) (rest := []) rfl rfl rfl (rcv_v hM.ob (by decide)) (c) ?_
  refine Rn.ieq rfl (X_nil) (by first | omega | (simp (disch := omega) only [um_eq, um_na, um_ni, Int.toNat_natCast]; omega)) (fun hc => ?_) (fun hc => absurd hc (by first | omega | decide | (simp (disch := omega) only [um_eq, um_na, um_ni, Int.toNat_natCast]; omega)))
  exact hr
theorem y_8 (hw : AtW T N n f s e) (w : wm 8 f s e) : Rn S 142 135 ([], [some (vR 76)], T, N) (some (vI 5), (T, N)) := by
  have hM := hw.1
  obtain ⟨q0, q1, q2, q3, q4⟩ := wm_8.mp w
  have c := m_nmY (S := S) (m := 4) (a := 99) (b := 111) (c := 114) (d := 100) hw (by decide) (by decide) ⟨q0, q1, q2, Or.inr q3, Or.inr q4⟩
  refine Rn.cal rfl (X_ald rfl <| X_i <| X_i <| X_i <| X_i <| X_i <| X_nil) (vs := [_, _, _, _, _, _]) (rest := []) rfl rfl rfl (rcv_v hM.ob (by decide)) (c) ?_
  refine Rn.ieq rfl (X_nil) (by first | omega | (simp (disch := omega) only [um_eq, um_na, um_ni, Int.toNat_natCast]; omega)) (fun hc => absurd hc (by first | omega | decide | (simp (disch := omega) only [um_eq, um_na, um_ni, Int.toNat_natCast]; omega))) (fun hc => ?_)
  refine Rn.ri rfl (X_i <| X_nil) rfl
theorem x_9 {r : Option AV × Hp} (hw : AtW T N n f s e) (w : ¬ wm 9 f s e) (hr : Rn S 142 219 ([], [some (vR 76)], T, N) r) : Rn S 142 153 ([], [some (vR 76)], T, N) r := by
  have hM := hw.1
  have b4 := m_at (S := S) (k := 4) hw (by decide)
  have b5 := m_at (S := S) (k := 5) hw (by decide)
  have b6 := m_at (S := S) (k := 6) hw (by decide)
  have f4 := hw.2.1.2.1.i (s + 4)
  have f5 := hw.2.1.2.1.i (s + 5)
  have f6 := hw.2.1.2.1.i (s + 6)
  by_cases k : NmC f s e 7 115 108 101 101
  · have c := m_nmY (S := S) (m := 7) (a := 115) (b := 108) (c := 101) (d := 101) hw (by decide) (by decide) k
    by_cases k4 : f (s + 4) = 112
    · by_cases k5 : f (s + 5) = 101
      · have k6 : f (s + 6) ≠ 114 := fun q => by
          obtain ⟨q0, q1, q2, q3, q4⟩ := k
          exact w (wm_9.mpr ⟨q0, q1, q2, by omega, by omega, k4, k5, q⟩)
        refine Rn.cal rfl (X_ald rfl <| X_i <| X_i <| X_i <| X_i <| X_i <| X_nil) (vs := [_, _, _, _, _, _]) (rest := []) rfl rfl rfl (rcv_v hM.ob (by decide)) (c) ?_
        refine Rn.ieq rfl (X_nil) (by first | omega | (simp (disch := omega) only [um_eq, um_na, um_ni, Int.toNat_natCast]; omega)) (fun hc => absurd hc (by first | omega | decide | (simp (disch := omega) only [um_eq, um_na, um_ni, Int.toNat_natCast]; omega))) (fun hc => ?_)
        refine Rn.cal rfl (X_ald rfl <| X_ald rfl <| X_gi 8 8 8 hM.ob ⟨rfl, rfl, rfl⟩ (Or.inl rfl) <| X_i <| X_add <| X_nil) (vs := [_, _]) (rest := []) rfl rfl rfl (rcv_v hM.ob (by decide)) (b4) ?_
        refine Rn.cne rfl (X_i <| X_nil) (by first | omega | (simp (disch := omega) only [um_eq, um_na, um_ni, Int.toNat_natCast]; omega)) (by first | omega | (simp (disch := omega) only [um_eq, um_na, um_ni, Int.toNat_natCast]; omega)) (fun hc => absurd hc (by first | omega | decide | (simp (disch := omega) only [um_eq, um_na, um_ni, Int.toNat_natCast]; omega))) (fun hc => ?_)
        refine Rn.cal rfl (X_ald rfl <| X_ald rfl <| X_gi 8 8 8 hM.ob ⟨rfl, rfl, rfl⟩ (Or.inl rfl) <| X_i <| X_add <| X_nil) (vs := [_, _]) (rest := []) rfl rfl rfl (rcv_v hM.ob (by decide)) (b5) ?_
        refine Rn.cne rfl (X_i <| X_nil) (by first | omega | (simp (disch := omega) only [um_eq, um_na, um_ni, Int.toNat_natCast]; omega)) (by first | omega | (simp (disch := omega) only [um_eq, um_na, um_ni, Int.toNat_natCast]; omega)) (fun hc => absurd hc (by first | omega | decide | (simp (disch := omega) only [um_eq, um_na, um_ni, Int.toNat_natCast]; omega))) (fun hc => ?_)
        refine Rn.cal rfl (X_ald rfl <| X_ald rfl <| X_gi 8 8 8 hM.ob ⟨rfl, rfl, rfl⟩ (Or.inl rfl) <| X_i <| X_add <| X_nil) (vs := [_, _]) (rest := []) rfl rfl rfl (rcv_v hM.ob (by decide)) (b6) ?_
        refine Rn.cne rfl (X_i <| X_nil) (by first | omega | (simp (disch := omega) only [um_eq, um_na, um_ni, Int.toNat_natCast]; omega)) (by first | omega | (simp (disch := omega) only [um_eq, um_na, um_ni, Int.toNat_natCast]; omega)) (fun hc => ?_) (fun hc => absurd hc (by first | omega | decide | (simp (disch := omega) only [um_eq, um_na, um_ni, Int.toNat_natCast]; omega)))
        exact hr
      · refine Rn.cal rfl (X_ald rfl <| X_i <| X_i <| X_i <| X_i <| X_i <| X_nil) (vs := [_, _, _, _, _, _]) (rest := []) rfl rfl rfl (rcv_v hM.ob (by decide)) (c) ?_
        refine Rn.ieq rfl (X_nil) (by first | omega | (simp (disch := omega) only [um_eq, um_na, um_ni, Int.toNat_natCast]; omega)) (fun hc => absurd hc (by first | omega | decide | (simp (disch := omega) only [um_eq, um_na, um_ni, Int.toNat_natCast]; omega))) (fun hc => ?_)
        refine Rn.cal rfl (X_ald rfl <| X_ald rfl <| X_gi 8 8 8 hM.ob ⟨rfl, rfl, rfl⟩ (Or.inl rfl) <| X_i <| X_add <| X_nil) (vs := [_, _]) (rest := []) rfl rfl rfl (rcv_v hM.ob (by decide)) (b4) ?_
        refine Rn.cne rfl (X_i <| X_nil) (by first | omega | (simp (disch := omega) only [um_eq, um_na, um_ni, Int.toNat_natCast]; omega)) (by first | omega | (simp (disch := omega) only [um_eq, um_na, um_ni, Int.toNat_natCast]; omega)) (fun hc => absurd hc (by first | omega | decide | (simp (disch := omega) only [um_eq, um_na, um_ni, Int.toNat_natCast]; omega))) (fun hc => ?_)
        refine Rn.cal rfl (X_ald rfl <| X_ald rfl <| X_gi 8 8 8 hM.ob ⟨rfl, rfl, rfl⟩ (Or.inl rfl) <| X_i <| X_add <| X_nil) (vs := [_, _]) (rest := []) rfl rfl rfl (rcv_v hM.ob (by decide)) (b5) ?_
        refine Rn.cne rfl (X_i <| X_nil) (by first | omega | (simp (disch := omega) only [um_eq, um_na, um_ni, Int.toNat_natCast]; omega)) (by first | omega | (simp (disch := omega) only [um_eq, um_na, um_ni, Int.toNat_natCast]; omega)) (fun hc => ?_) (fun hc => absurd hc (by first | omega | decide | (simp (disch := omega) only [um_eq, um_na, um_ni, Int.toNat_natCast]; omega)))
        exact hr
    · refine Rn.cal rfl (X_ald rfl <| X_i <| X_i <| X_i <| X_i <| X_i <| X_nil) (vs := [_, _, _, _, _, _]) (rest := []) rfl rfl rfl (rcv_v hM.ob (by decide)) (c) ?_
      refine Rn.ieq rfl (X_nil) (by first | omega | (simp (disch := omega) only [um_eq, um_na, um_ni, Int.toNat_natCast]; omega)) (fun hc => absurd hc (by first | omega | decide | (simp (disch := omega) only [um_eq, um_na, um_ni, Int.toNat_natCast]; omega))) (fun hc => ?_)
      refine Rn.cal rfl (X_ald rfl <| X_ald rfl <| X_gi 8 8 8 hM.ob ⟨rfl, rfl, rfl⟩ (Or.inl rfl) <| X_i <| X_add <| X_nil) (vs := [_, _]) (rest := []) rfl rfl rfl (rcv_v hM.ob (by decide)) (b4) ?_
      refine Rn.cne rfl (X_i <| X_nil) (by first | omega | (simp (disch := omega) only [um_eq, um_na, um_ni, Int.toNat_natCast]; omega)) (by first | omega | (simp (disch := omega) only [um_eq, um_na, um_ni, Int.toNat_natCast]; omega)) (fun hc => ?_) (fun hc => absurd hc (by first | omega | decide | (simp (disch := omega) only [um_eq, um_na, um_ni, Int.toNat_natCast]; omega)))
      exact hr
  · have c := m_nmN (S := S) (m := 7) (a := 115) (b := 108) (c := 101) (d := 101) hw (by decide) (by decide) k
    refine Rn.cal rfl (X_ald rfl <| X_i <| X_i <| X_i <| X_i <| X_i <| X_nil) (vs := [_, _, _, _, _, _]) (rest := []) rfl rfl rfl (rcv_v hM.ob (by decide)) (c) ?_
    refine Rn.ieq rfl (X_nil) (by first | omega | (simp (disch := omega) only [um_eq, um_na, um_ni, Int.toNat_natCast]; omega)) (fun hc => ?_) (fun hc => absurd hc (by first | omega | decide | (simp (disch := omega) only [um_eq, um_na, um_ni, Int.toNat_natCast]; omega)))
    exact hr
theorem y_9 (hw : AtW T N n f s e) (w : wm 9 f s e) : Rn S 142 153 ([], [some (vR 76)], T, N) (some (vI 6), (T, N)) := by
  have hM := hw.1
  have b4 := m_at (S := S) (k := 4) hw (by decide)
  have b5 := m_at (S := S) (k := 5) hw (by decide)
  have b6 := m_at (S := S) (k := 6) hw (by decide)
  obtain ⟨q0, q1, q2, q3, q4, q5, q6, q7⟩ := wm_9.mp w
  have c := m_nmY (S := S) (m := 7) (a := 115) (b := 108) (c := 101) (d := 101) hw (by decide) (by decide) ⟨q0, q1, q2, Or.inr q3, Or.inr q4⟩
  refine Rn.cal rfl (X_ald rfl <| X_i <| X_i <| X_i <| X_i <| X_i <| X_nil) (vs := [_, _, _, _, _, _]) (rest := []) rfl rfl rfl (rcv_v hM.ob (by decide)) (c) ?_
  refine Rn.ieq rfl (X_nil) (by first | omega | (simp (disch := omega) only [um_eq, um_na, um_ni, Int.toNat_natCast]; omega)) (fun hc => absurd hc (by first | omega | decide | (simp (disch := omega) only [um_eq, um_na, um_ni, Int.toNat_natCast]; omega))) (fun hc => ?_)
  refine Rn.cal rfl (X_ald rfl <| X_ald rfl <| X_gi 8 8 8 hM.ob ⟨rfl, rfl, rfl⟩ (Or.inl rfl) <| X_i <| X_add <| X_nil) (vs := [_, _]) (rest := []) rfl rfl rfl (rcv_v hM.ob (by decide)) (b4) ?_
  refine Rn.cne rfl (X_i <| X_nil) (by first | omega | (simp (disch := omega) only [um_eq, um_na, um_ni, Int.toNat_natCast]; omega)) (by first | omega | (simp (disch := omega) only [um_eq, um_na, um_ni, Int.toNat_natCast]; omega)) (fun hc => absurd hc (by first | omega | decide | (simp (disch := omega) only [um_eq, um_na, um_ni, Int.toNat_natCast]; omega))) (fun hc => ?_)
  refine Rn.cal rfl (X_ald rfl <| X_ald rfl <| X_gi 8 8 8 hM.ob ⟨rfl, rfl, rfl⟩ (Or.inl rfl) <| X_i <| X_add <| X_nil) (vs := [_, _]) (rest := []) rfl rfl rfl (rcv_v hM.ob (by decide)) (b5) ?_
  refine Rn.cne rfl (X_i <| X_nil) (by first | omega | (simp (disch := omega) only [um_eq, um_na, um_ni, Int.toNat_natCast]; omega)) (by first | omega | (simp (disch := omega) only [um_eq, um_na, um_ni, Int.toNat_natCast]; omega)) (fun hc => absurd hc (by first | omega | decide | (simp (disch := omega) only [um_eq, um_na, um_ni, Int.toNat_natCast]; omega))) (fun hc => ?_)
  refine Rn.cal rfl (X_ald rfl <| X_ald rfl <| X_gi 8 8 8 hM.ob ⟨rfl, rfl, rfl⟩ (Or.inl rfl) <| X_i <| X_add <| X_nil) (vs := [_, _]) (rest := []) rfl rfl rfl (rcv_v hM.ob (by decide)) (b6) ?_
  refine Rn.cne rfl (X_i <| X_nil) (by first | omega | (simp (disch := omega) only [um_eq, um_na, um_ni, Int.toNat_natCast]; omega)) (by first | omega | (simp (disch := omega) only [um_eq, um_na, um_ni, Int.toNat_natCast]; omega)) (fun hc => absurd hc (by first | omega | decide | (simp (disch := omega) only [um_eq, um_na, um_ni, Int.toNat_natCast]; omega))) (fun hc => ?_)
  refine Rn.ri rfl (X_i <| X_nil) rfl
theorem x_10 (hw : AtW T N n f s e) (w : ¬ wm 10 f s e) : Rn S 142 219 ([], [some (vR 76)], T, N) (some (vI (-1)), (T, N)) := by
  have hM := hw.1
  have c := m_nmN (S := S) (m := 2) (a := 117) (b := 112) (c := 0) (d := 0) hw (by decide) (by decide) (fun ⟨q0, q1, q2, q3, q4⟩ => w (wm_10.mpr ⟨q0, q1, q2⟩))
  refine Rn.cal rfl (X_ald rfl <| X_i <| X_i <| X_i <| X_i <| X_i <| X_nil) (vs := [_, _, _, _, _, _]) (rest := []) rfl rfl rfl (rcv_v hM.ob (by decide)) (c) ?_
  refine Rn.ieq rfl (X_nil) (by first | omega | (simp (disch := omega) only [um_eq, um_na, um_ni, Int.toNat_natCast]; omega)) (fun hc => ?_) (fun hc => absurd hc (by first | omega | decide | (simp (disch := omega) only [um_eq, um_na, um_ni, Int.toNat_natCast]; omega)))
  refine Rn.fal rfl (X_i <| X_nil) ?_
  refine Rn.ri rfl (X_nil) rfl
theorem y_10 (hw : AtW T N n f s e) (w : wm 10 f s e) : Rn S 142 219 ([], [some (vR 76)], T, N) (some (vI 7), (T, N)) := by
  have hM := hw.1
  obtain ⟨q0, q1, q2⟩ := wm_10.mp w
  have c := m_nmY (S := S) (m := 2) (a := 117) (b := 112) (c := 0) (d := 0) hw (by decide) (by decide) ⟨q0, q1, q2, Or.inl (by decide), Or.inl (by decide)⟩
  refine Rn.cal rfl (X_ald rfl <| X_i <| X_i <| X_i <| X_i <| X_i <| X_nil) (vs := [_, _, _, _, _, _]) (rest := []) rfl rfl rfl (rcv_v hM.ob (by decide)) (c) ?_
  refine Rn.ieq rfl (X_nil) (by first | omega | (simp (disch := omega) only [um_eq, um_na, um_ni, Int.toNat_natCast]; omega)) (fun hc => absurd hc (by first | omega | decide | (simp (disch := omega) only [um_eq, um_na, um_ni, Int.toNat_natCast]; omega))) (fun hc => ?_)
  refine Rn.jto rfl (X_i <| X_nil) ?_
  refine Rn.ri rfl (X_nil) rfl
theorem m_wordNow {it : Int} (hw : AtW T N n f s e) (hi : WdI f s e it) : Cl S 142 [vR 76] (T, N) (some (vI it), (T, N)) := by
  refine ⟨_, rfl, ?_⟩
  show Rn S 142 0 ([], [some (vR 76)], T, N) (some (vI it), (T, N))
  rcases hi.cases with ⟨rfl, w3⟩ | ⟨w3, ⟨rfl, w4⟩ | ⟨w4, ⟨rfl, w5⟩ | ⟨w5, ⟨rfl, w6⟩ | ⟨w6, ⟨rfl, w7⟩ | ⟨w7, ⟨rfl, w8⟩ | ⟨w8, ⟨rfl, w9⟩ | ⟨w9, ⟨rfl, w10⟩ | ⟨w10, rfl⟩⟩⟩⟩⟩⟩⟩⟩
  · exact y_3 hw w3
  · exact x_3 hw w3 (y_4 hw w4)
  · exact x_3 hw w3 (x_4 hw w4 (y_5 hw w5))
  · exact x_3 hw w3 (x_4 hw w4 (x_5 hw w5 (y_6 hw w6)))
  · exact x_3 hw w3 (x_4 hw w4 (x_5 hw w5 (x_6 hw w6 (y_7 hw w7))))
  · exact x_3 hw w3 (x_4 hw w4 (x_5 hw w5 (x_6 hw w6 (x_7 hw w7 (y_8 hw w8)))))
  · exact x_3 hw w3 (x_4 hw w4 (x_5 hw w5 (x_6 hw w6 (x_7 hw w7 (x_8 hw w8 (y_9 hw w9))))))
  · exact x_3 hw w3 (x_4 hw w4 (x_5 hw w5 (x_6 hw w6 (x_7 hw w7 (x_8 hw w8 (x_9 hw w9 (y_10 hw w10)))))))
  · exact x_3 hw w3 (x_4 hw w4 (x_5 hw w5 (x_6 hw w6 (x_7 hw w7 (x_8 hw w8 (x_9 hw w9 (x_10 hw w10)))))))
theorem m_namedN {m a b c d : Int} (hM : isM T) (h10 : N 76 10 = 0) : Cl S 141 [vR 76, vI m, vI a, vI b, vI c, vI d] (T, N) (some (vI 0), (T, N)) := by
  refine ⟨_, rfl, ?_⟩
  refine Rn.ieq rfl (X_ald rfl <| X_gi 8 10 10 hM.ob ⟨rfl, rfl, rfl⟩ (Or.inr rfl) <| X_nil) (by first | omega | (simp (disch := omega) only [um_eq, um_na, um_ni, Int.toNat_natCast]; omega)) (fun hc => ?_) (fun hc => absurd hc (by first | omega | decide | (simp (disch := omega) only [um_eq, um_na, um_ni, Int.toNat_natCast]; omega)))
  refine Rn.fal rfl (X_i <| X_nil) ?_
  refine Rn.ieq rfl (X_ist rfl (L' := [_, _, _, _, _, _, _]) rfl <| X_ild rfl <| X_nil) (by first | omega | (simp (disch := omega) only [um_eq, um_na, um_ni, Int.toNat_natCast]; omega)) (fun hc => ?_) (fun hc => absurd hc (by first | omega | decide | (simp (disch := omega) only [um_eq, um_na, um_ni, Int.toNat_natCast]; omega)))
  refine Rn.fal rfl (X_i <| X_nil) ?_
  refine Rn.rz rfl (X_nil) rfl (by first | exact Or.inl rfl | exact Or.inr rfl | omega)
theorem m_wordNot (hM : isM T) (h10 : N 76 10 = 0) : Cl S 142 [vR 76] (T, N) (some (vI (-1)), (T, N)) := by
  refine ⟨_, rfl, ?_⟩
  refine Rn.cal rfl (X_ald rfl <| X_i <| X_i <| X_i <| X_i <| X_i <| X_nil) (vs := [_, _, _, _, _, _]) (rest := []) rfl rfl rfl (rcv_v hM.ob (by decide)) (m_namedN hM h10) ?_
  refine Rn.ieq rfl (X_nil) (by first | omega | (simp (disch := omega) only [um_eq, um_na, um_ni, Int.toNat_natCast]; omega)) (fun hc => ?_) (fun hc => absurd hc (by first | omega | decide | (simp (disch := omega) only [um_eq, um_na, um_ni, Int.toNat_natCast]; omega)))
  refine Rn.cal rfl (X_ald rfl <| X_i <| X_i <| X_i <| X_i <| X_i <| X_nil) (vs := [_, _, _, _, _, _]) (rest := []) rfl rfl rfl (rcv_v hM.ob (by decide)) (m_namedN hM h10) ?_
  refine Rn.ieq rfl (X_nil) (by first | omega | (simp (disch := omega) only [um_eq, um_na, um_ni, Int.toNat_natCast]; omega)) (fun hc => ?_) (fun hc => absurd hc (by first | omega | decide | (simp (disch := omega) only [um_eq, um_na, um_ni, Int.toNat_natCast]; omega)))
  refine Rn.cal rfl (X_ald rfl <| X_i <| X_i <| X_i <| X_i <| X_i <| X_nil) (vs := [_, _, _, _, _, _]) (rest := []) rfl rfl rfl (rcv_v hM.ob (by decide)) (m_namedN hM h10) ?_
  refine Rn.ieq rfl (X_nil) (by first | omega | (simp (disch := omega) only [um_eq, um_na, um_ni, Int.toNat_natCast]; omega)) (fun hc => ?_) (fun hc => absurd hc (by first | omega | decide | (simp (disch := omega) only [um_eq, um_na, um_ni, Int.toNat_natCast]; omega)))
  refine Rn.cal rfl (X_ald rfl <| X_i <| X_i <| X_i <| X_i <| X_i <| X_nil) (vs := [_, _, _, _, _, _]) (rest := []) rfl rfl rfl (rcv_v hM.ob (by decide)) (m_namedN hM h10) ?_
  refine Rn.ieq rfl (X_nil) (by first | omega | (simp (disch := omega) only [um_eq, um_na, um_ni, Int.toNat_natCast]; omega)) (fun hc => ?_) (fun hc => absurd hc (by first | omega | decide | (simp (disch := omega) only [um_eq, um_na, um_ni, Int.toNat_natCast]; omega)))
  refine Rn.cal rfl (X_ald rfl <| X_i <| X_i <| X_i <| X_i <| X_i <| X_nil) (vs := [_, _, _, _, _, _]) (rest := []) rfl rfl rfl (rcv_v hM.ob (by decide)) (m_namedN hM h10) ?_
  refine Rn.ieq rfl (X_nil) (by first | omega | (simp (disch := omega) only [um_eq, um_na, um_ni, Int.toNat_natCast]; omega)) (fun hc => ?_) (fun hc => absurd hc (by first | omega | decide | (simp (disch := omega) only [um_eq, um_na, um_ni, Int.toNat_natCast]; omega)))
  refine Rn.cal rfl (X_ald rfl <| X_i <| X_i <| X_i <| X_i <| X_i <| X_nil) (vs := [_, _, _, _, _, _]) (rest := []) rfl rfl rfl (rcv_v hM.ob (by decide)) (m_namedN hM h10) ?_
  refine Rn.ieq rfl (X_nil) (by first | omega | (simp (disch := omega) only [um_eq, um_na, um_ni, Int.toNat_natCast]; omega)) (fun hc => ?_) (fun hc => absurd hc (by first | omega | decide | (simp (disch := omega) only [um_eq, um_na, um_ni, Int.toNat_natCast]; omega)))
  refine Rn.cal rfl (X_ald rfl <| X_i <| X_i <| X_i <| X_i <| X_i <| X_nil) (vs := [_, _, _, _, _, _]) (rest := []) rfl rfl rfl (rcv_v hM.ob (by decide)) (m_namedN hM h10) ?_
  refine Rn.ieq rfl (X_nil) (by first | omega | (simp (disch := omega) only [um_eq, um_na, um_ni, Int.toNat_natCast]; omega)) (fun hc => ?_) (fun hc => absurd hc (by first | omega | decide | (simp (disch := omega) only [um_eq, um_na, um_ni, Int.toNat_natCast]; omega)))
  refine Rn.cal rfl (X_ald rfl <| X_i <| X_i <| X_i <| X_i <| X_i <| X_nil) (vs := [_, _, _, _, _, _]) (rest := []) rfl rfl rfl (rcv_v hM.ob (by decide)) (m_namedN hM h10) ?_
  refine Rn.ieq rfl (X_nil) (by first | omega | (simp (disch := omega) only [um_eq, um_na, um_ni, Int.toNat_natCast]; omega)) (fun hc => ?_) (fun hc => absurd hc (by first | omega | decide | (simp (disch := omega) only [um_eq, um_na, um_ni, Int.toNat_natCast]; omega)))
  refine Rn.fal rfl (X_i <| X_nil) ?_
  refine Rn.ri rfl (X_nil) rfl
end Mtok
