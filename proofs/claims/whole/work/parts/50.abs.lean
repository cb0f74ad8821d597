/-! THE SAME NIGHTS: whoever keeps the sleepers, and where -/
section Abs
variable {S : List Int} {T : List Sh} {M M' N : Nat → Int → Int} {a a' b b' n : Nat} {l : Int} {K : Nat} {h : Hp}
theorem waitC_pw (h : ∀ k, 0 ≤ k → k < 8 → M a k = M' a' k) : waitC M a l = waitC M' a' l := by
  unfold waitC
  rw [h 0 (by decide) (by decide), h 1 (by decide) (by decide), h 4 (by decide) (by decide), h 6 (by decide) (by decide)]
theorem lightC_pw {t : Int} (h : ∀ k, 0 ≤ k → k < 8 → M a k = M' a' k) : lightC M a t = lightC M' a' t := by
  unfold lightC
  rw [h 1 (by decide) (by decide), h 2 (by decide) (by decide)]
/-- n sleepers are the same at b and at b' -/
def SmB (n : Nat) (M : Nat → Int → Int) (b : Nat) (M' : Nat → Int → Int) (b' : Nat) : Prop := ∀ i, i < n → ∀ k, 0 ≤ k → k < 8 → M (b + 16 + 2 * i) k = M' (b' + 16 + 2 * i) k
theorem SmB.refl : SmB n M b M b := fun _ _ _ _ _ => rfl
theorem SmB.symm (h : SmB n M b M' b') : SmB n M' b' M b := fun i hi k k0 k8 => (h i hi k k0 k8).symm
theorem SmB.trans {M'' : Nat → Int → Int} {b'' : Nat} (h : SmB n M b M' b') (h' : SmB n M' b' M'' b'') : SmB n M b M'' b'' := fun i hi k k0 k8 => (h i hi k k0 k8).trans (h' i hi k k0 k8)
theorem lstC_pw : ∀ n : Nat, SmB n M b M' b' → lstC M b n = lstC M' b' n
  | 0, _ => rfl
  | n + 1, h => by
    unfold lstC
    rw [lstC_pw n (fun i hi => h i (by omega)), h n (by omega) 6 (by decide) (by decide)]
theorem nightF_pw : ∀ n : Nat, SmB n M b M' b' → nightF M b l n = nightF M' b' l n
  | 0, _ => rfl
  | n + 1, h => by
    have e := nightF_pw n (fun i hi => h i (by omega))
    have h5 := h n (by omega) 5 (by decide) (by decide)
    have h1 := h n (by omega) 1 (by decide) (by decide)
    have hw := waitC_pw (l := l) (h n (by omega))
    unfold nightF upA
    rw [e, h5, h1, hw]
theorem TrOk_pw (h : ∀ k, 0 ≤ k → k < 8 → M a k = M' a' k) (t : TrOk M' a') : TrOk M a := by
  unfold TrOk
  rw [h 0 (by decide) (by decide), h 1 (by decide) (by decide), h 2 (by decide) (by decide), h 3 (by decide) (by decide), h 4 (by decide) (by decide), h 5 (by decide) (by decide), h 6 (by decide) (by decide), h 7 (by decide) (by decide)]
  exact t
/-- layNow -/
theorem c_layNow {w hh s e : Nat} (hM : isM T) (e0 : M 77 0 = (w : Int)) (e1 : M 77 1 = (hh : Int)) (hw : 1 ≤ w ∧ w ≤ 7) (hh7 : 1 ≤ hh ∧ hh ≤ 7) (ht : ∀ c : Int, 0 ≤ c → c < 49 → 0 ≤ M 77 (10 + c) ∧ M 77 (10 + c) ≤ 9) (es : M 77 3 = (s : Int)) (ee : M 77 2 = (e : Int)) (hs : s < w * hh) (he : e < w * hh) : ∃ M' F, Cl S 156 [vR 76] (T, M) (none, (T, M')) ∧ (∀ i : Nat, i < 4 → M' 82 (i : Int) = M 77 (79 + (i : Int)) ∧ M' 83 (i : Int) = M 77 (83 + (i : Int)) ∧ M' 84 (i : Int) = M 77 (87 + (i : Int))) ∧ (M' 76 17 = F e ∧ M' 76 18 = M 77 5 ∧ ∀ k, k ≠ 17 → k ≠ 18 → M' 76 k = M 76 k) ∧ (Rf (w * hh) (AdjC w) (qM M w) s F ∧ Ff (w * hh) (AdjC w) (qM M w) F) ∧ (∀ a, a ≠ 76 → a ≠ 81 → a ≠ 82 → a ≠ 83 → a ≠ 84 → M' a = M a) := by
  have loop : ∀ (k i : Nat) (N : Nat → Int → Int), i + k = 4 → (∀ a, a ≠ 82 → a ≠ 83 → a ≠ 84 → N a = M a) → (∀ j : Nat, j < i → N 82 (j : Int) = M 77 (79 + (j : Int)) ∧ N 83 (j : Int) = M 77 (83 + (j : Int)) ∧ N 84 (j : Int) = M 77 (87 + (j : Int))) → ∃ N', (∀ r, Rn S 156 58 ([], [some (vR 76), some (vI 4)], T, N') r → Rn S 156 2 ([], [some (vR 76), some (vI (i : Int))], T, N) r) ∧ (∀ a, a ≠ 82 → a ≠ 83 → a ≠ 84 → N' a = M a) ∧ (∀ j : Nat, j < 4 → N' 82 (j : Int) = M 77 (79 + (j : Int)) ∧ N' 83 (j : Int) = M 77 (83 + (j : Int)) ∧ N' 84 (j : Int) = M 77 (87 + (j : Int))) := by
    intro k
    induction k with
    | zero =>
      intro i N hi h1 h2
      have ei : i = 4 := by omega
      subst ei
      refine ⟨N, fun r hr => ?_, h1, h2⟩
      refine Rn.cge rfl (X_ild rfl <| X_i <| X_nil) (by first | omega | (simp (disch := omega) only [um_eq, um_na, um_ni, Int.toNat_natCast]; omega)) (by first | omega | (simp (disch := omega) only [um_eq, um_na, um_ni, Int.toNat_natCast]; omega)) (fun hc => ?_) (fun hc => absurd hc (by first | omega | decide | (simp (disch := omega) only [um_eq, um_na, um_ni, Int.toNat_natCast]; omega)))
      exact hr
    | succ k ih =>
      intro i N hi h1 h2
      have n77 : N 77 = M 77 := h1 77 (by decide) (by decide) (by decide)
      obtain ⟨N', r1, r2, r3⟩ := ih (i + 1) (um (um (um N 82 (i : Int) (M 77 (79 + (i : Int)))) 83 (i : Int) (M 77 (83 + (i : Int)))) 84 (i : Int) (M 77 (87 + (i : Int)))) (by omega) (fun a a1 a2 a3 => by rw [um_fn a3, um_fn a2, um_fn a1]; exact h1 a a1 a2 a3) (fun j hj => by
        by_cases ej : j = i
        · subst ej
          rw [um_na (by decide), um_na (by decide), um_eq, um_na (by decide), um_eq, um_eq]
          exact ⟨rfl, rfl, rfl⟩
        · have hne : (j : Int) ≠ (i : Int) := by omega
          simp only [um_ni hne]
          exact h2 j (by omega))
      refine ⟨N', fun r hr => ?_, r2, r3⟩
      have r1' := r1 r hr
      refine Rn.cge rfl (X_ild rfl <| X_i <| X_nil) (by first | omega | (simp (disch := omega) only [um_eq, um_na, um_ni, Int.toNat_natCast]; omega)) (by first | omega | (simp (disch := omega) only [um_eq, um_na, um_ni, Int.toNat_natCast]; omega)) (fun hc => absurd hc (by first | omega | decide | (simp (disch := omega) only [um_eq, um_na, um_ni, Int.toNat_natCast]; omega))) (fun hc => ?_)
      refine Rn.jto rfl (X_ald rfl <| X_gr 8 14 hM.ob ⟨rfl, rfl⟩ rfl rfl <| X_ild rfl <| X_ald rfl <| X_gr 8 0 hM.ob ⟨rfl, rfl⟩ rfl rfl <| X_i <| X_ild rfl <| X_add <| X_ia hM.w (by first | omega | (simp (disch := omega) only [um_eq, um_na, um_ni, Int.toNat_natCast]; omega)) (by first | omega | (simp (disch := omega) only [um_eq, um_na, um_ni, Int.toNat_natCast]; omega)) rfl <| X_is hM.up (by first | omega | (simp (disch := omega) only [um_eq, um_na, um_ni, Int.toNat_natCast]; omega)) (by first | omega | (simp (disch := omega) only [um_eq, um_na, um_ni, Int.toNat_natCast]; omega)) rfl <| X_ald rfl <| X_gr 8 15 hM.ob ⟨rfl, rfl⟩ rfl rfl <| X_ild rfl <| X_ald rfl <| X_gr 8 0 hM.ob ⟨rfl, rfl⟩ rfl rfl <| X_i <| X_ild rfl <| X_add <| X_ia hM.w (by first | omega | (simp (disch := omega) only [um_eq, um_na, um_ni, Int.toNat_natCast]; omega)) (by first | omega | (simp (disch := omega) only [um_eq, um_na, um_ni, Int.toNat_natCast]; omega)) rfl <| X_is hM.co (by first | omega | (simp (disch := omega) only [um_eq, um_na, um_ni, Int.toNat_natCast]; omega)) (by first | omega | (simp (disch := omega) only [um_eq, um_na, um_ni, Int.toNat_natCast]; omega)) rfl <| X_ald rfl <| X_gr 8 16 hM.ob ⟨rfl, rfl⟩ rfl rfl <| X_ild rfl <| X_ald rfl <| X_gr 8 0 hM.ob ⟨rfl, rfl⟩ rfl rfl <| X_i <| X_ild rfl <| X_add <| X_ia hM.w (by first | omega | (simp (disch := omega) only [um_eq, um_na, um_ni, Int.toNat_natCast]; omega)) (by first | omega | (simp (disch := omega) only [um_eq, um_na, um_ni, Int.toNat_natCast]; omega)) rfl <| X_is hM.pa (by first | omega | (simp (disch := omega) only [um_eq, um_na, um_ni, Int.toNat_natCast]; omega)) (by first | omega | (simp (disch := omega) only [um_eq, um_na, um_ni, Int.toNat_natCast]; omega)) rfl <| X_inc rfl (L' := [_, _]) rfl <| X_nil) ?_
      simp (disch := omega) only [um_na, ne_eq, n77]
      exact r1'
  obtain ⟨N, r1, r2, r3⟩ := loop 4 0 M (by omega) (fun _ _ _ _ => rfl) (fun j hj => by omega)
  have n77 : N 77 = M 77 := r2 77 (by decide) (by decide) (by decide)
  obtain ⟨P, c2, fP, hR, hF⟩ := c_wayOf (S := S) (M := N) (w := w) (hh := hh) (s := s) (e := e) hM (by rw [n77]; exact e0) (by rw [n77]; exact e1) hw hh7 (by rw [n77]; exact ht) hs he
  have hq : ∀ d, d < w * hh → qM N w d = qM M w d := fun d _ => by unfold qM; rw [n77]
  have p77 : P 77 = M 77 := by rw [fP 77 (by decide)]; exact n77
  refine ⟨um (um P 76 17 (P 81 (e : Int))) 76 18 (M 77 5), fun x => P 81 (x : Int), ⟨_, rfl, ?_⟩, fun i hi => ?_, ⟨?_, um_eq, fun k k1 k2 => ?_⟩, ⟨Rf_q hq hR, Ff_q hq hF⟩, fun a a1 a2 a3 a4 a5 => ?_⟩
  · refine Rn.fal rfl (X_i <| X_ist rfl (L' := [_, _]) rfl <| X_nil) ?_
    refine r1 _ ?_
    have c2' : Cl S 153 [vR 76, vI (N 77 3), vI (N 77 2)] (T, N) (some (vI (P 81 (e : Int))), (T, P)) := by
      rw [n77, es, ee]
      exact c2
    refine Rn.cal rfl (X_ald rfl <| X_ald rfl <| X_ald rfl <| X_gr 8 0 hM.ob ⟨rfl, rfl⟩ rfl rfl <| X_i <| X_ia hM.w (by first | omega | (simp (disch := omega) only [um_eq, um_na, um_ni, Int.toNat_natCast]; omega)) (by first | omega | (simp (disch := omega) only [um_eq, um_na, um_ni, Int.toNat_natCast]; omega)) rfl <| X_ald rfl <| X_gr 8 0 hM.ob ⟨rfl, rfl⟩ rfl rfl <| X_i <| X_ia hM.w (by first | omega | (simp (disch := omega) only [um_eq, um_na, um_ni, Int.toNat_natCast]; omega)) (by first | omega | (simp (disch := omega) only [um_eq, um_na, um_ni, Int.toNat_natCast]; omega)) rfl <| X_nil) (vs := [_, _, _]) (rest := [_]) rfl rfl rfl (rcv_v hM.ob (by decide)) (c2') ?_
    obtain ⟨Q, hQ, eQ⟩ : ∃ Q, Rn S 156 75 ([vI (P 81 (e : Int)), vR 76], [some (vR 76), some (vI 4)], T, P) (none, (T, Q)) ∧ Q = um (um P 76 17 (P 81 (e : Int))) 76 18 (M 77 5) := by
      refine ⟨_, (Rn.rv rfl (X_pi 8 17 17 hM.ob ⟨rfl, rfl, rfl⟩ (Or.inl rfl) <| X_ald rfl <| X_ald rfl <| X_gr 8 0 hM.ob ⟨rfl, rfl⟩ rfl rfl <| X_i <| X_ia hM.w (by first | omega | (simp (disch := omega) only [um_eq, um_na, um_ni, Int.toNat_natCast]; omega)) (by first | omega | (simp (disch := omega) only [um_eq, um_na, um_ni, Int.toNat_natCast]; omega)) rfl <| X_pi 8 18 18 hM.ob ⟨rfl, rfl, rfl⟩ (Or.inl rfl) <| X_nil) rfl), ?_⟩
      simp (disch := omega) only [um_na, ne_eq, p77]
    rw [eQ] at hQ
    exact hQ
  · simp (disch := omega) only [um_na, ne_eq]
    rw [fP 82 (by decide), fP 83 (by decide), fP 84 (by decide)]
    exact r3 i hi
  · rw [um_ni (by decide), um_eq]
  · rw [um_ni k2, um_ni k1, fP 76 (by decide), r2 76 (by decide) (by decide) (by decide)]
  · rw [um_fn a1, um_fn a1, fP a a2, r2 a a3 a4 a5]
end Abs
