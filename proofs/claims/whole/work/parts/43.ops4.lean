/-! SLEEPER, BECOME -/
section Ops4
variable {S : List Int} {T : List Sh} {M N C C' : Nat → Int → Int} {b : Nat} {W W' : Int → Int} {r : Int} {K K' : Nat} {h : Hp}
theorem most_at {k : Int} (k0 : 0 ≤ k) (k5 : k ≤ 5) : (roL S 1).getD k.toNat 0 = mostV k := by
  rcases (show k = 0 ∨ k = 1 ∨ k = 2 ∨ k = 3 ∨ k = 4 ∨ k = 5 by omega) with rfl | rfl | rfl | rfl | rfl | rfl <;> rfl
theorem mostV_in {k : Int} : 5 ≤ mostV k ∧ mostV k ≤ 120 := by
  unfold mostV
  split
  · decide
  · split
    · decide
    · split
      · decide
      · split <;> decide
theorem c_fits {k v : Int} (k0 : 0 ≤ k) (k5 : k ≤ 5) (iv : I32 v) : Cl S 104 [vI k, vI v] h (some (vI (if (if k = 5 then -1 else 0) ≤ v ∧ v ≤ mostV k then 1 else 0)), h) := by
  have hm := mostV_in (k := k)
  have hl : ((roL S 1).length : Int) = 6 := rfl
  refine ⟨_, rfl, ?_⟩
  by_cases e : k = 5
  · rw [if_pos (c := k = 5) e, ← most_at (S := S) k0 k5]
    rw [← most_at (S := S) k0 k5] at hm
    refine Rn.cne rfl (X_ild rfl <| X_ild rfl <| X_i <| X_nil) (by first | omega | (simp (disch := omega) only [um_eq, um_na, um_ni, Int.toNat_natCast]; omega)) (by first | omega | (simp (disch := omega) only [um_eq, um_na, um_ni, Int.toNat_natCast]; omega)) (fun hc => absurd hc (by first | omega | decide | (simp (disch := omega) only [um_eq, um_na, um_ni, Int.toNat_natCast]; omega))) (fun hc => ?_)
    refine Rn.jto rfl (X_i <| X_nil) ?_
    refine Rn.cal rfl (X_o <| X_ild rfl <| X_io rfl (by first | omega | (simp (disch := omega) only [um_eq, um_na, um_ni, Int.toNat_natCast]; omega)) (by show k < ((roL S 1).length : Int); rw [hl]; omega) (by first | omega | (simp (disch := omega) only [um_eq, um_na, um_ni, Int.toNat_natCast]; omega)) <| X_nil) (vs := [_, _, _]) (rest := []) rfl rfl rfl rfl (c_within (hi := (roL S 1).getD k.toNat 0) (by omega) (by decide) (by omega)) ?_
    refine Rn.rz rfl (X_nil) rfl (by split <;> simp)
  · rw [if_neg (c := k = 5) e, ← most_at (S := S) k0 k5]
    rw [← most_at (S := S) k0 k5] at hm
    refine Rn.cne rfl (X_ild rfl <| X_ild rfl <| X_i <| X_nil) (by first | omega | (simp (disch := omega) only [um_eq, um_na, um_ni, Int.toNat_natCast]; omega)) (by first | omega | (simp (disch := omega) only [um_eq, um_na, um_ni, Int.toNat_natCast]; omega)) (fun hc => ?_) (fun hc => absurd hc (by first | omega | decide | (simp (disch := omega) only [um_eq, um_na, um_ni, Int.toNat_natCast]; omega)))
    refine Rn.fal rfl (X_i <| X_nil) ?_
    refine Rn.cal rfl (X_o <| X_ild rfl <| X_io rfl (by first | omega | (simp (disch := omega) only [um_eq, um_na, um_ni, Int.toNat_natCast]; omega)) (by show k < ((roL S 1).length : Int); rw [hl]; omega) (by first | omega | (simp (disch := omega) only [um_eq, um_na, um_ni, Int.toNat_natCast]; omega)) <| X_nil) (vs := [_, _, _]) (rest := []) rfl rfl rfl rfl (c_within (hi := (roL S 1).getD k.toNat 0) (by omega) (by decide) (by omega)) ?_
    refine Rn.rz rfl (X_nil) rfl (by split <;> simp)
theorem c_fY {k v : Int} (k0 : 0 ≤ k) (k5 : k ≤ 5) (iv : I32 v) (hc : (if k = 5 then -1 else 0) ≤ v ∧ v ≤ mostV k) : Cl S 104 [vI k, vI v] h (some (vI 1), h) := by
  have := c_fits (S := S) (h := h) k0 k5 iv
  rw [if_pos hc] at this
  exact this
theorem c_fN {k v : Int} (k0 : 0 ≤ k) (k5 : k ≤ 5) (iv : I32 v) (hc : ¬ ((if k = 5 then -1 else 0) ≤ v ∧ v ≤ mostV k)) : Cl S 104 [vI k, vI v] h (some (vI 0), h) := by
  have := c_fits (S := S) (h := h) k0 k5 iv
  rw [if_neg hc] at this
  exact this
/-- comes: the model's next sleeper -/
theorem c_comes {k rd ht cd pt : Int} (hM : isM T) (r0 : 0 ≤ r) (r1 : r + 187 ≤ 748) (s0 : 0 ≤ M 77 (r + 6)) (s3 : M 77 (r + 6) ≤ 3) : ∃ M', Cl S 127 [vR 76, vI r, vI k, vI rd, vI ht, vI cd, vI pt] (T, M) (none, (T, M')) ∧ M' 77 (r + 6) = M 77 (r + 6) + 1 ∧ (M' 77 (r + 59 + M 77 (r + 6)) = k ∧ M' 77 (r + 63 + M 77 (r + 6)) = rd ∧ M' 77 (r + 67 + M 77 (r + 6)) = ht ∧ M' 77 (r + 71 + M 77 (r + 6)) = cd ∧ M' 77 (r + 75 + M 77 (r + 6)) = pt ∧ M' 77 (r + 79 + M 77 (r + 6)) = -1 ∧ M' 77 (r + 83 + M 77 (r + 6)) = 0 ∧ M' 77 (r + 87 + M 77 (r + 6)) = 0) ∧ (∀ j, j ≠ r + 6 → (∀ k, 0 ≤ k → k < 8 → j ≠ r + 59 + 4 * k + M 77 (r + 6)) → M' 77 j = M 77 j) ∧ (∀ a, a ≠ 77 → M' a = M a) := by
  generalize hs : M 77 (r + 6) = s at *
  refine ⟨um (um (um (um (um (um (um (um (um M 77 (r + 59 + s) k) 77 (r + 63 + s) rd) 77 (r + 67 + s) ht) 77 (r + 71 + s) cd) 77 (r + 75 + s) pt) 77 (r + 79 + s) (-1)) 77 (r + 83 + s) 0) 77 (r + 87 + s) 0) 77 (r + 6) (s + 1), ⟨_, rfl, ?_⟩, um_eq, ?_, fun j hj hk => ?_, fun a ha => ?_⟩
  · obtain ⟨N, hN, eN⟩ : ∃ N, Rn S 127 0 ([], [some (vR 76), some (vI r), some (vI k), some (vI rd), some (vI ht), some (vI cd), some (vI pt), none], T, M) (none, (T, N)) ∧ N = um (um (um (um (um (um (um (um (um M 77 (r + 59 + s) k) 77 (r + 63 + s) rd) 77 (r + 67 + s) ht) 77 (r + 71 + s) cd) 77 (r + 75 + s) pt) 77 (r + 79 + s) (-1)) 77 (r + 83 + s) 0) 77 (r + 87 + s) 0) 77 (r + 6) (s + 1) := by
      subst hs
      refine ⟨_, (Rn.rv rfl (X_ald rfl <| X_gr 8 0 hM.ob ⟨rfl, rfl⟩ rfl rfl <| X_ild rfl <| X_i <| X_add <| X_ia hM.w (by first | omega | (simp (disch := omega) only [um_eq, um_na, um_ni, Int.toNat_natCast]; omega)) (by first | omega | (simp (disch := omega) only [um_eq, um_na, um_ni, Int.toNat_natCast]; omega)) rfl <| X_ist rfl (L' := [_, _, _, _, _, _, _, _]) rfl <| X_ald rfl <| X_gr 8 0 hM.ob ⟨rfl, rfl⟩ rfl rfl <| X_ild rfl <| X_i <| X_add <| X_ild rfl <| X_add <| X_ild rfl <| X_is hM.w (by first | omega | (simp (disch := omega) only [um_eq, um_na, um_ni, Int.toNat_natCast]; omega)) (by first | omega | (simp (disch := omega) only [um_eq, um_na, um_ni, Int.toNat_natCast]; omega)) rfl <| X_ald rfl <| X_gr 8 0 hM.ob ⟨rfl, rfl⟩ rfl rfl <| X_ild rfl <| X_i <| X_add <| X_ild rfl <| X_add <| X_ild rfl <| X_is hM.w (by first | omega | (simp (disch := omega) only [um_eq, um_na, um_ni, Int.toNat_natCast]; omega)) (by first | omega | (simp (disch := omega) only [um_eq, um_na, um_ni, Int.toNat_natCast]; omega)) rfl <| X_ald rfl <| X_gr 8 0 hM.ob ⟨rfl, rfl⟩ rfl rfl <| X_ild rfl <| X_i <| X_add <| X_ild rfl <| X_add <| X_ild rfl <| X_is hM.w (by first | omega | (simp (disch := omega) only [um_eq, um_na, um_ni, Int.toNat_natCast]; omega)) (by first | omega | (simp (disch := omega) only [um_eq, um_na, um_ni, Int.toNat_natCast]; omega)) rfl <| X_ald rfl <| X_gr 8 0 hM.ob ⟨rfl, rfl⟩ rfl rfl <| X_ild rfl <| X_i <| X_add <| X_ild rfl <| X_add <| X_ild rfl <| X_is hM.w (by first | omega | (simp (disch := omega) only [um_eq, um_na, um_ni, Int.toNat_natCast]; omega)) (by first | omega | (simp (disch := omega) only [um_eq, um_na, um_ni, Int.toNat_natCast]; omega)) rfl <| X_ald rfl <| X_gr 8 0 hM.ob ⟨rfl, rfl⟩ rfl rfl <| X_ild rfl <| X_i <| X_add <| X_ild rfl <| X_add <| X_ild rfl <| X_is hM.w (by first | omega | (simp (disch := omega) only [um_eq, um_na, um_ni, Int.toNat_natCast]; omega)) (by first | omega | (simp (disch := omega) only [um_eq, um_na, um_ni, Int.toNat_natCast]; omega)) rfl <| X_ald rfl <| X_gr 8 0 hM.ob ⟨rfl, rfl⟩ rfl rfl <| X_ild rfl <| X_i <| X_add <| X_ild rfl <| X_add <| X_i <| X_is hM.w (by first | omega | (simp (disch := omega) only [um_eq, um_na, um_ni, Int.toNat_natCast]; omega)) (by first | omega | (simp (disch := omega) only [um_eq, um_na, um_ni, Int.toNat_natCast]; omega)) rfl <| X_ald rfl <| X_gr 8 0 hM.ob ⟨rfl, rfl⟩ rfl rfl <| X_ild rfl <| X_i <| X_add <| X_ild rfl <| X_add <| X_i <| X_is hM.w (by first | omega | (simp (disch := omega) only [um_eq, um_na, um_ni, Int.toNat_natCast]; omega)) (by first | omega | (simp (disch := omega) only [um_eq, um_na, um_ni, Int.toNat_natCast]; omega)) rfl <| X_ald rfl <| X_gr 8 0 hM.ob ⟨rfl, rfl⟩ rfl rfl <| X_ild rfl <| X_i <| X_add <| X_ild rfl <| X_add <| X_i <| X_is hM.w (by first | omega | (simp (disch := omega) only [um_eq, um_na, um_ni, Int.toNat_natCast]; omega)) (by first | omega | (simp (disch := omega) only [um_eq, um_na, um_ni, Int.toNat_natCast]; omega)) rfl <| X_ald rfl <| X_gr 8 0 hM.ob ⟨rfl, rfl⟩ rfl rfl <| X_ild rfl <| X_i <| X_add <| X_du2 <| X_ia hM.w (by first | omega | (simp (disch := omega) only [um_eq, um_na, um_ni, Int.toNat_natCast]; omega)) (by first | omega | (simp (disch := omega) only [um_eq, um_na, um_ni, Int.toNat_natCast]; omega)) rfl <| X_i <| X_add <| X_is hM.w (by first | omega | (simp (disch := omega) only [um_eq, um_na, um_ni, Int.toNat_natCast]; omega)) (by first | omega | (simp (disch := omega) only [um_eq, um_na, um_ni, Int.toNat_natCast]; omega)) rfl <| X_nil) rfl), ?_⟩
      simp (disch := omega) only [um_ni, ne_eq]
    rw [eN] at hN
    exact hN
  · simp (disch := omega) only [um_eq, um_ni, ne_eq, and_self]
  · have g0 := hk 0 (by decide) (by decide)
    have g1 := hk 1 (by decide) (by decide)
    have g2 := hk 2 (by decide) (by decide)
    have g3 := hk 3 (by decide) (by decide)
    have g4 := hk 4 (by decide) (by decide)
    have g5 := hk 5 (by decide) (by decide)
    have g6 := hk 6 (by decide) (by decide)
    have g7 := hk 7 (by decide) (by decide)
    rw [um_ni hj, um_ni (by omega), um_ni (by omega), um_ni (by omega), um_ni (by omega), um_ni (by omega), um_ni (by omega), um_ni (by omega), um_ni (by omega)]
  · simp only [um_fn ha]
theorem Rg.bed (h : Rg C b W r K) (hK : K ≤ K') (hc : ∀ a, (a = b + 1 ∨ a = b + 2 ∨ (b + 7 ≤ a ∧ a < b + 15) ∨ (b + 23 ≤ a ∧ a < b + 26)) → C' a = C a) (h2 : C' (b + 4) 2 = C (b + 4) 2) (h3 : C' (b + 4) 3 = C (b + 4) 3) (hw : ∀ k, (0 ≤ k ∧ k < 6) ∨ (7 ≤ k ∧ k < 59) ∨ (91 ≤ k ∧ k < 187) → W' (r + k) = W (r + k)) (z : C' (b + 4) 1 = W' (r + 6)) (z4 : 0 ≤ C' (b + 4) 1 ∧ C' (b + 4) 1 ≤ 4) (s : ∀ i : Nat, (i : Int) < C' (b + 4) 1 → ∀ k, 0 ≤ k → k < 8 → C' (b + 16 + 2 * i) k = W' (r + 59 + 4 * k + (i : Int))) (tr : ∀ i : Nat, (i : Int) < C' (b + 4) 1 → TrB C' (b + 16 + 2 * i) K') : Rg C' b W' r K' := by
  have u8 := h.u8
  have m8 := h.m8
  have n4 := h.n4
  have e1 := hc (b + 1) (by omega)
  have e2 := hc (b + 2) (by omega)
  have e23 := hc (b + 23) (by omega)
  have e24 := hc (b + 24) (by omega)
  have e25 := hc (b + 25) (by omega)
  have hw' : ∀ j : Int, (r ≤ j ∧ j < r + 6) ∨ (r + 7 ≤ j ∧ j < r + 59) ∨ (r + 91 ≤ j ∧ j < r + 187) → W' j = W j := fun j hj => by
    have := hw (j - r) (by omega)
    rw [show r + (j - r) = j by omega] at this
    exact this
  unfold Rg
  rw [e1, e2, e23, e24, e25, h2, h3]
  refine ⟨fun k k0 k6 => ?_, fun c c0 c1 => ?_, z, ?_, ?_, ?_, s, ?_, ?_, ?_, z4, by omega, u8, m8, tr⟩
  · rw [hw' _ (by omega)]; exact h.f k k0 k6
  · rw [hw' _ (by omega)]; exact h.t c c0 c1
  · rw [hw' _ (by omega)]; exact h.m
  · rw [hw' _ (by omega)]; exact h.n
  · rw [hw' _ (by omega)]; exact h.u
  · intro i i0 i1
    rw [hw' (r + 91 + i) (by omega), hw' (r + 99 + i) (by omega)]
    exact h.no i i0 i1
  · intro i hi
    have e := h.p i hi
    have ea : rowA C' b i = rowA C b i := by unfold rowA; rw [h2, h3]
    have hk : ((C (b + 4) 2 - C (b + 4) 3 + (i : Int)) % 8).toNat < 8 := by omega
    rw [ea]
    have er : C' (rowA C b i) = C (rowA C b i) := hc _ (by unfold rowA; omega)
    unfold RowOk at e ⊢
    rw [er, h2, h3, hw' (r + 107 + 10 * (i : Int) + 9) (by omega), hw' (r + 107 + 10 * (i : Int) + 8) (by omega)]
    obtain ⟨q1, q2, q3, q4⟩ := e
    refine ⟨q1, q2, q3, fun s hs => ?_⟩
    rw [hw' (r + 107 + 10 * (i : Int) + s) (by omega), hw' (r + 107 + 10 * (i : Int) + 4 + s) (by omega)]
    obtain ⟨p1, p2, p3⟩ := q4 s hs
    exact ⟨p1, by omega, by omega⟩
  · exact FlNo_pw (C := C) (o := b) (by rw [e1]) (by rw [e1]) (by rw [e1]) (by rw [e1]) (by rw [e1]) (by rw [e1]) (by rw [e1]) (fun _ _ _ => by rw [e2]) h.fl
/-- one more in both -/
theorem Rg.one {k rd ht cd pt : Int} (h : Rg C b W r K) (hK : K ≤ K') (hz : C (b + 4) 1 < 4) (b1 : C' (b + 4) 1 = C (b + 4) 1 + 1) (bj : ∀ j, j ≠ 1 → C' (b + 4) j = C (b + 4) j) (bt : C' (b + 16 + 2 * (C (b + 4) 1).toNat) 0 = k ∧ C' (b + 16 + 2 * (C (b + 4) 1).toNat) 1 = rd ∧ C' (b + 16 + 2 * (C (b + 4) 1).toNat) 2 = ht ∧ C' (b + 16 + 2 * (C (b + 4) 1).toNat) 3 = cd ∧ C' (b + 16 + 2 * (C (b + 4) 1).toNat) 4 = pt ∧ C' (b + 16 + 2 * (C (b + 4) 1).toNat) 5 = -1 ∧ C' (b + 16 + 2 * (C (b + 4) 1).toNat) 6 = 0 ∧ C' (b + 16 + 2 * (C (b + 4) 1).toNat) 7 = 0) (bf : ∀ a, b + 1 ≤ a → a < b + 26 → a ≠ b + 3 → a ≠ b + 4 → a ≠ b + 16 + 2 * (C (b + 4) 1).toNat → C' a = C a) (w6 : W' (r + 6) = W (r + 6) + 1) (wt : W' (r + 59 + W (r + 6)) = k ∧ W' (r + 63 + W (r + 6)) = rd ∧ W' (r + 67 + W (r + 6)) = ht ∧ W' (r + 71 + W (r + 6)) = cd ∧ W' (r + 75 + W (r + 6)) = pt ∧ W' (r + 79 + W (r + 6)) = -1 ∧ W' (r + 83 + W (r + 6)) = 0 ∧ W' (r + 87 + W (r + 6)) = 0) (wf : ∀ j, r ≤ j → j < r + 187 → j ≠ r + 6 → (∀ k, 0 ≤ k → k < 8 → j ≠ r + 59 + 4 * k + W (r + 6)) → W' j = W j) (hk : 0 ≤ k ∧ k ≤ 5) (hrd : 0 ≤ rd ∧ rd ≤ 120) (hht : 0 ≤ ht ∧ ht ≤ 9) (hcd : 0 ≤ cd ∧ cd ≤ 20) (hpt : 0 ≤ pt ∧ pt ≤ 60) : Rg C' b W' r K' := by
  have z4 := h.z4
  have hz' := h.z
  rw [← hz'] at w6 wt wf
  generalize hs : C (b + 4) 1 = s at *
  have es : ((s.toNat : Nat) : Int) = s := by omega
  refine h.bed hK (fun a ha => bf a (by omega) (by omega) (by omega) (by omega) (by omega)) (bj 2 (by decide)) (bj 3 (by decide)) (fun j hj => wf _ (by omega) (by omega) (by omega) (fun k k0 k8 => by omega)) (by rw [b1, w6]) (by omega) (fun i hi j j0 j8 => ?_) (fun i hi => ?_)
  · by_cases ei : i = s.toNat
    · subst ei
      rw [es]
      obtain ⟨t0, t1, t2, t3, t4, t5, t6, t7⟩ := bt
      obtain ⟨u0, u1, u2, u3, u4, u5, u6, u7⟩ := wt
      rcases (show j = 0 ∨ j = 1 ∨ j = 2 ∨ j = 3 ∨ j = 4 ∨ j = 5 ∨ j = 6 ∨ j = 7 by omega) with rfl | rfl | rfl | rfl | rfl | rfl | rfl | rfl
      · rw [t0, ← u0]; congr 1
        omega
      · rw [t1, ← u1]; congr 1
        omega
      · rw [t2, ← u2]; congr 1
        omega
      · rw [t3, ← u3]; congr 1
        omega
      · rw [t4, ← u4]; congr 1
        omega
      · rw [t5, ← u5]; congr 1
        omega
      · rw [t6, ← u6]; congr 1
        omega
      · rw [t7, ← u7]; congr 1
        omega
    · rw [bf _ (by omega) (by omega) (by omega) (by omega) (by omega), wf _ (by omega) (by omega) (by omega) (fun k k0 k8 => by omega)]
      exact h.s i (by omega) j j0 j8
  · by_cases ei : i = s.toNat
    · subst ei
      obtain ⟨t0, t1, t2, t3, t4, t5, t6, t7⟩ := bt
      unfold TrB
      rw [t0, t1, t2, t3, t4, t5, t6, t7]
      omega
    · exact TrB_pw hK (fun k _ _ => by rw [bf _ (by omega) (by omega) (by omega) (by omega) (by omega)]) (h.tr i (by omega))
end Ops4
