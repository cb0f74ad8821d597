/-! DRAWN -/
section Drawn
variable {S : List Int} {T : List Sh} {M M1 N C C' D X : Nat → Int → Int} {a b b' K j : Nat} {v x : Int} {h : Hp}
def drw (x : Int) : Nat → Int
  | 0 => x
  | s + 1 => (drw x s * 1103515245 + 12345) % 2147483648
theorem drw_in (hx : 0 ≤ x ∧ x < 2147483648) : ∀ s : Nat, 0 ≤ drw x s ∧ drw x s < 2147483648
  | 0 => hx
  | s + 1 => by
    unfold drw
    omega
def upDr (x : Int) (s : Nat) : Int := if 120 < drw x (s + 1) / 65536 % 180 then -1 else drw x (s + 1) / 65536 % 180
theorem upDr_in (hx : 0 ≤ x ∧ x < 2147483648) (s : Nat) : -1 ≤ upDr x s ∧ upDr x s ≤ 120 := by
  have := drw_in hx (s + 1)
  unfold upDr
  split <;> omega
def xqD (z : Nat) (x : Int) : Nat → Int
  | 0 => x
  | i + 1 => drw (xqD z x i) z
theorem xqD_in {z : Nat} (hx : 0 ≤ x ∧ x < 2147483648) : ∀ i : Nat, 0 ≤ xqD z x i ∧ xqD z x i < 2147483648
  | 0 => hx
  | i + 1 => drw_in (xqD_in hx i) z
/-- the class draws -/
theorem c_drawUps {z : Nat} (hS : isSt T b) (hz : C (b + 4) 1 = (z : Int)) (z4 : z ≤ 4) (hx : 0 ≤ x ∧ x < 2147483648) : ∃ C', Cl S 11 [vR (b + 4), vL x] (T, C) (some (vL (drw x z)), (T, C')) ∧ (∀ s : Nat, s < z → C' (b + 16 + 2 * s) 5 = upDr x s) ∧ (∀ a k, k ≠ 5 → C' a k = C a k) ∧ (∀ a, (∀ s : Nat, s < z → a ≠ b + 16 + 2 * s) → C' a = C a) := by
  have loop : ∀ (d s : Nat) (D : Nat → Int → Int) (w : Option AV), s + d = z → (∀ i : Nat, i < s → D (b + 16 + 2 * i) 5 = upDr x i) → (∀ a k, k ≠ 5 → D a k = C a k) → (∀ a, (∀ i : Nat, i < z → a ≠ b + 16 + 2 * i) → D a = C a) → ∃ C', Rn S 11 5 ([], [some (vR (b + 4)), some (vL x), none, some (vL (drw x s)), none, some (vI (s : Int)), w], T, D) (some (vL (drw x z)), (T, C')) ∧ (∀ s : Nat, s < z → C' (b + 16 + 2 * s) 5 = upDr x s) ∧ (∀ a k, k ≠ 5 → C' a k = C a k) ∧ (∀ a, (∀ s : Nat, s < z → a ≠ b + 16 + 2 * s) → C' a = C a) := by
    intro d
    induction d with
    | zero =>
      intro s D w hs h1 h2 h3
      have es : s = z := by omega
      subst es
      have e1 : D (b + 4) 1 = (s : Int) := by rw [h2 _ _ (by decide)]; exact hz
      refine ⟨D, ?_, h1, h2, h3⟩
      refine Rn.cge rfl (X_ild rfl <| X_ald rfl <| X_gi 0 1 1 hS.be ⟨rfl, rfl, rfl⟩ (Or.inl rfl) <| X_nil) (by first | omega | (simp (disch := omega) only [um_eq, um_na, um_ni, Int.toNat_natCast]; omega)) (by first | omega | (simp (disch := omega) only [um_eq, um_na, um_ni, Int.toNat_natCast]; omega)) (fun hc => ?_) (fun hc => absurd hc (by first | omega | decide | (simp (disch := omega) only [um_eq, um_na, um_ni, Int.toNat_natCast]; omega)))
      refine Rn.rl rfl (X_lld rfl <| X_nil) rfl
    | succ d ih =>
      intro s D w hs h1 h2 h3
      have e1 : D (b + 4) 1 = (z : Int) := by rw [h2 _ _ (by decide)]; exact hz
      have s4 : s < 4 := by omega
      have di := drw_in hx s
      have d2 := drw_in hx (s + 1)
      obtain ⟨C', r1, r2, r3, r4⟩ := ih (s + 1) (um D (b + 16 + 2 * s) 5 (upDr x s)) (some (vI (drw x (s + 1) / 65536 % 180))) (by omega) (fun i hi => by
        by_cases ei : i = s
        · subst ei
          exact um_eq
        · rw [um_na (by omega)]
          exact h1 i (by omega)) (fun a k hk => by rw [um_ni hk]; exact h2 a k hk) (fun a ha => by rw [um_fn (ha s (by omega))]; exact h3 a ha)
      refine ⟨C', ?_, r2, r3, r4⟩
      have e2 : (drw x s * 1103515245 + 12345) % 2147483648 = drw x (s + 1) := rfl
      by_cases hu : 120 < drw x (s + 1) / 65536 % 180
      · rw [show upDr x s = -1 from if_pos hu] at r1
        rw [← e2] at hu r1 d2
        refine Rn.cge rfl (X_ild rfl <| X_ald rfl <| X_gi 0 1 1 hS.be ⟨rfl, rfl, rfl⟩ (Or.inl rfl) <| X_nil) (by first | omega | (simp (disch := omega) only [um_eq, um_na, um_ni, Int.toNat_natCast]; omega)) (by first | omega | (simp (disch := omega) only [um_eq, um_na, um_ni, Int.toNat_natCast]; omega)) (fun hc => absurd hc (by first | omega | decide | (simp (disch := omega) only [um_eq, um_na, um_ni, Int.toNat_natCast]; omega))) (fun hc => ?_)
        refine Rn.cle rfl (X_lld rfl <| X_l <| X_lmu <| X_l <| X_lad <| X_l <| X_lre (by first | omega | (simp (disch := omega) only [um_eq, um_na, um_ni, Int.toNat_natCast]; omega)) (by first | omega | (simp (disch := omega) only [um_eq, um_na, um_ni, Int.toNat_natCast]; omega)) <| X_lst rfl (L' := [_, _, _, _, _, _, _]) rfl <| X_lld rfl <| X_l <| X_ldi (by first | omega | (simp (disch := omega) only [um_eq, um_na, um_ni, Int.toNat_natCast]; omega)) (by first | omega | (simp (disch := omega) only [um_eq, um_na, um_ni, Int.toNat_natCast]; omega)) <| X_l <| X_lre (by first | omega | (simp (disch := omega) only [um_eq, um_na, um_ni, Int.toNat_natCast]; omega)) (by first | omega | (simp (disch := omega) only [um_eq, um_na, um_ni, Int.toNat_natCast]; omega)) <| X_l2i <| X_ist rfl (L' := [_, _, _, _, _, _, _]) rfl <| X_ald rfl <| X_gr 0 0 hS.be ⟨rfl, rfl⟩ rfl rfl <| X_ild rfl <| X_aa hS.sl (by decide) (by first | omega | (simp (disch := omega) only [um_eq, um_na, um_ni, Int.toNat_natCast]; omega)) (by first | omega | (simp (disch := omega) only [um_eq, um_na, um_ni, Int.toNat_natCast]; omega)) rfl (rSl_at (by omega)) <| X_gr 5 0 (hS.se (by omega)) ⟨rfl, rfl⟩ rfl rfl <| X_i <| X_ild rfl <| X_i <| X_nil) (by first | omega | (simp (disch := omega) only [um_eq, um_na, um_ni, Int.toNat_natCast]; omega)) (by first | omega | (simp (disch := omega) only [um_eq, um_na, um_ni, Int.toNat_natCast]; omega)) (fun hc => absurd hc (by first | omega | decide | (simp (disch := omega) only [um_eq, um_na, um_ni, Int.toNat_natCast]; omega))) (fun hc => ?_)
        refine Rn.jto rfl (X_i <| X_nil) ?_
        refine Rn.jto rfl (X_is (hS.tr (by omega)) (by first | omega | (simp (disch := omega) only [um_eq, um_na, um_ni, Int.toNat_natCast]; omega)) (by first | omega | (simp (disch := omega) only [um_eq, um_na, um_ni, Int.toNat_natCast]; omega)) rfl <| X_inc rfl (L' := [_, _, _, _, _, _, _]) rfl <| X_nil) ?_
        exact r1
      · rw [show upDr x s = drw x (s + 1) / 65536 % 180 from if_neg hu] at r1
        rw [← e2] at hu r1 d2
        refine Rn.cge rfl (X_ild rfl <| X_ald rfl <| X_gi 0 1 1 hS.be ⟨rfl, rfl, rfl⟩ (Or.inl rfl) <| X_nil) (by first | omega | (simp (disch := omega) only [um_eq, um_na, um_ni, Int.toNat_natCast]; omega)) (by first | omega | (simp (disch := omega) only [um_eq, um_na, um_ni, Int.toNat_natCast]; omega)) (fun hc => absurd hc (by first | omega | decide | (simp (disch := omega) only [um_eq, um_na, um_ni, Int.toNat_natCast]; omega))) (fun hc => ?_)
        refine Rn.cle rfl (X_lld rfl <| X_l <| X_lmu <| X_l <| X_lad <| X_l <| X_lre (by first | omega | (simp (disch := omega) only [um_eq, um_na, um_ni, Int.toNat_natCast]; omega)) (by first | omega | (simp (disch := omega) only [um_eq, um_na, um_ni, Int.toNat_natCast]; omega)) <| X_lst rfl (L' := [_, _, _, _, _, _, _]) rfl <| X_lld rfl <| X_l <| X_ldi (by first | omega | (simp (disch := omega) only [um_eq, um_na, um_ni, Int.toNat_natCast]; omega)) (by first | omega | (simp (disch := omega) only [um_eq, um_na, um_ni, Int.toNat_natCast]; omega)) <| X_l <| X_lre (by first | omega | (simp (disch := omega) only [um_eq, um_na, um_ni, Int.toNat_natCast]; omega)) (by first | omega | (simp (disch := omega) only [um_eq, um_na, um_ni, Int.toNat_natCast]; omega)) <| X_l2i <| X_ist rfl (L' := [_, _, _, _, _, _, _]) rfl <| X_ald rfl <| X_gr 0 0 hS.be ⟨rfl, rfl⟩ rfl rfl <| X_ild rfl <| X_aa hS.sl (by decide) (by first | omega | (simp (disch := omega) only [um_eq, um_na, um_ni, Int.toNat_natCast]; omega)) (by first | omega | (simp (disch := omega) only [um_eq, um_na, um_ni, Int.toNat_natCast]; omega)) rfl (rSl_at (by omega)) <| X_gr 5 0 (hS.se (by omega)) ⟨rfl, rfl⟩ rfl rfl <| X_i <| X_ild rfl <| X_i <| X_nil) (by first | omega | (simp (disch := omega) only [um_eq, um_na, um_ni, Int.toNat_natCast]; omega)) (by first | omega | (simp (disch := omega) only [um_eq, um_na, um_ni, Int.toNat_natCast]; omega)) (fun hc => ?_) (fun hc => absurd hc (by first | omega | decide | (simp (disch := omega) only [um_eq, um_na, um_ni, Int.toNat_natCast]; omega)))
        refine Rn.fal rfl (X_ild rfl <| X_nil) ?_
        refine Rn.jto rfl (X_is (hS.tr (by omega)) (by first | omega | (simp (disch := omega) only [um_eq, um_na, um_ni, Int.toNat_natCast]; omega)) (by first | omega | (simp (disch := omega) only [um_eq, um_na, um_ni, Int.toNat_natCast]; omega)) rfl <| X_inc rfl (L' := [_, _, _, _, _, _, _]) rfl <| X_nil) ?_
        exact r1
  obtain ⟨C', r1, r2, r3, r4⟩ := loop z 0 C none (by omega) (fun i hi => by omega) (fun _ _ _ => rfl) (fun _ _ => rfl)
  refine ⟨C', ⟨_, rfl, ?_⟩, r2, r3, r4⟩
  refine Rn.fal rfl (X_lld rfl <| X_lst rfl (L' := [_, _, _, _, _, _, _]) rfl <| X_i <| X_ist rfl (L' := [_, _, _, _, _, _, _]) rfl <| X_nil) ?_
  exact r1
/-- .. and so does the model -/
theorem c_mdraw {z : Nat} {e n t f k : Int} (hM : isM T) (hz : N 77 6 = (z : Int)) (z4 : z ≤ 4) (hx : 0 ≤ x ∧ x < 2147483648) : ∃ U, (∀ w, ∃ w', ∀ r, Rn S 187 132 ([], [some (vR 76), some (vI e), some (vI n), some (vI t), some (vL (drw x z)), none, some (vI f), some (vI k), some (vI (z : Int)), w'], T, U) r → Rn S 187 65 ([], [some (vR 76), some (vI e), some (vI n), some (vI t), some (vL x), none, some (vI f), some (vI k), some (vI 0), w], T, N) r) ∧ (∀ s : Nat, s < z → U 82 (s : Int) = upDr x s) ∧ (∀ a, a ≠ 82 → U a = N a) := by
  have loop : ∀ (d s : Nat) (P : Nat → Int → Int), s + d = z → (∀ i : Nat, i < s → P 82 (i : Int) = upDr x i) → (∀ a, a ≠ 82 → P a = N a) → ∃ U, (∀ w, ∃ w', ∀ r, Rn S 187 132 ([], [some (vR 76), some (vI e), some (vI n), some (vI t), some (vL (drw x z)), none, some (vI f), some (vI k), some (vI (z : Int)), w'], T, U) r → Rn S 187 65 ([], [some (vR 76), some (vI e), some (vI n), some (vI t), some (vL (drw x s)), none, some (vI f), some (vI k), some (vI (s : Int)), w], T, P) r) ∧ (∀ s : Nat, s < z → U 82 (s : Int) = upDr x s) ∧ (∀ a, a ≠ 82 → U a = N a) := by
    intro d
    induction d with
    | zero =>
      intro s P hs h1 h2
      have es : s = z := by omega
      subst es
      have e77 := h2 77 (by decide)
      have e6 : P 77 6 = (s : Int) := by rw [e77]; exact hz
      refine ⟨P, fun w => ⟨w, fun r hr => ?_⟩, h1, h2⟩
      refine Rn.cge rfl (X_ild rfl <| X_ald rfl <| X_gr 8 0 hM.ob ⟨rfl, rfl⟩ rfl rfl <| X_i <| X_ia hM.w (by first | omega | (simp (disch := omega) only [um_eq, um_na, um_ni, Int.toNat_natCast]; omega)) (by first | omega | (simp (disch := omega) only [um_eq, um_na, um_ni, Int.toNat_natCast]; omega)) rfl <| X_nil) (by first | omega | (simp (disch := omega) only [um_eq, um_na, um_ni, Int.toNat_natCast]; omega)) (by first | omega | (simp (disch := omega) only [um_eq, um_na, um_ni, Int.toNat_natCast]; omega)) (fun hc => ?_) (fun hc => absurd hc (by first | omega | decide | (simp (disch := omega) only [um_eq, um_na, um_ni, Int.toNat_natCast]; omega)))
      exact hr
    | succ d ih =>
      intro s P hs h1 h2
      have e77 := h2 77 (by decide)
      have e6 : P 77 6 = (z : Int) := by rw [e77]; exact hz
      have di := drw_in hx s
      have d2 := drw_in hx (s + 1)
      obtain ⟨U, r1, r2, r3⟩ := ih (s + 1) (um P 82 (s : Int) (upDr x s)) (by omega) (fun i hi => by
        by_cases ei : i = s
        · subst ei
          exact um_eq
        · rw [um_ni (by omega)]
          exact h1 i (by omega)) (fun a ha => by rw [um_fn ha]; exact h2 a ha)
      obtain ⟨w', r1⟩ := r1 (some (vI (drw x (s + 1) / 65536 % 180)))
      refine ⟨U, fun w => ⟨w', fun r hr => ?_⟩, r2, r3⟩
      have nx := r1 r hr
      have e2 : (drw x s * 1103515245 + 12345) % 2147483648 = drw x (s + 1) := rfl
      by_cases hu : 120 < drw x (s + 1) / 65536 % 180
      · rw [show upDr x s = -1 from if_pos hu] at nx
        rw [← e2] at hu nx d2
        refine Rn.cge rfl (X_ild rfl <| X_ald rfl <| X_gr 8 0 hM.ob ⟨rfl, rfl⟩ rfl rfl <| X_i <| X_ia hM.w (by first | omega | (simp (disch := omega) only [um_eq, um_na, um_ni, Int.toNat_natCast]; omega)) (by first | omega | (simp (disch := omega) only [um_eq, um_na, um_ni, Int.toNat_natCast]; omega)) rfl <| X_nil) (by first | omega | (simp (disch := omega) only [um_eq, um_na, um_ni, Int.toNat_natCast]; omega)) (by first | omega | (simp (disch := omega) only [um_eq, um_na, um_ni, Int.toNat_natCast]; omega)) (fun hc => absurd hc (by first | omega | decide | (simp (disch := omega) only [um_eq, um_na, um_ni, Int.toNat_natCast]; omega))) (fun hc => ?_)
        refine Rn.cle rfl (X_lld rfl <| X_l <| X_lmu <| X_l <| X_lad <| X_l <| X_lre (by first | omega | (simp (disch := omega) only [um_eq, um_na, um_ni, Int.toNat_natCast]; omega)) (by first | omega | (simp (disch := omega) only [um_eq, um_na, um_ni, Int.toNat_natCast]; omega)) <| X_lst rfl (L' := [_, _, _, _, _, _, _, _, _, _]) rfl <| X_lld rfl <| X_l <| X_ldi (by first | omega | (simp (disch := omega) only [um_eq, um_na, um_ni, Int.toNat_natCast]; omega)) (by first | omega | (simp (disch := omega) only [um_eq, um_na, um_ni, Int.toNat_natCast]; omega)) <| X_l <| X_lre (by first | omega | (simp (disch := omega) only [um_eq, um_na, um_ni, Int.toNat_natCast]; omega)) (by first | omega | (simp (disch := omega) only [um_eq, um_na, um_ni, Int.toNat_natCast]; omega)) <| X_l2i <| X_ist rfl (L' := [_, _, _, _, _, _, _, _, _, _]) rfl <| X_ald rfl <| X_gr 8 14 hM.ob ⟨rfl, rfl⟩ rfl rfl <| X_ild rfl <| X_ild rfl <| X_i <| X_nil) (by first | omega | (simp (disch := omega) only [um_eq, um_na, um_ni, Int.toNat_natCast]; omega)) (by first | omega | (simp (disch := omega) only [um_eq, um_na, um_ni, Int.toNat_natCast]; omega)) (fun hc => absurd hc (by first | omega | decide | (simp (disch := omega) only [um_eq, um_na, um_ni, Int.toNat_natCast]; omega))) (fun hc => ?_)
        refine Rn.jto rfl (X_i <| X_nil) ?_
        refine Rn.jto rfl (X_is hM.up (by first | omega | (simp (disch := omega) only [um_eq, um_na, um_ni, Int.toNat_natCast]; omega)) (by first | omega | (simp (disch := omega) only [um_eq, um_na, um_ni, Int.toNat_natCast]; omega)) rfl <| X_inc rfl (L' := [_, _, _, _, _, _, _, _, _, _]) rfl <| X_nil) ?_
        exact nx
      · rw [show upDr x s = drw x (s + 1) / 65536 % 180 from if_neg hu] at nx
        rw [← e2] at hu nx d2
        refine Rn.cge rfl (X_ild rfl <| X_ald rfl <| X_gr 8 0 hM.ob ⟨rfl, rfl⟩ rfl rfl <| X_i <| X_ia hM.w (by first | omega | (simp (disch := omega) only [um_eq, um_na, um_ni, Int.toNat_natCast]; omega)) (by first | omega | (simp (disch := omega) only [um_eq, um_na, um_ni, Int.toNat_natCast]; omega)) rfl <| X_nil) (by first | omega | (simp (disch := omega) only [um_eq, um_na, um_ni, Int.toNat_natCast]; omega)) (by first | omega | (simp (disch := omega) only [um_eq, um_na, um_ni, Int.toNat_natCast]; omega)) (fun hc => absurd hc (by first | omega | decide | (simp (disch := omega) only [um_eq, um_na, um_ni, Int.toNat_natCast]; omega))) (fun hc => ?_)
        refine Rn.cle rfl (X_lld rfl <| X_l <| X_lmu <| X_l <| X_lad <| X_l <| X_lre (by first | omega | (simp (disch := omega) only [um_eq, um_na, um_ni, Int.toNat_natCast]; omega)) (by first | omega | (simp (disch := omega) only [um_eq, um_na, um_ni, Int.toNat_natCast]; omega)) <| X_lst rfl (L' := [_, _, _, _, _, _, _, _, _, _]) rfl <| X_lld rfl <| X_l <| X_ldi (by first | omega | (simp (disch := omega) only [um_eq, um_na, um_ni, Int.toNat_natCast]; omega)) (by first | omega | (simp (disch := omega) only [um_eq, um_na, um_ni, Int.toNat_natCast]; omega)) <| X_l <| X_lre (by first | omega | (simp (disch := omega) only [um_eq, um_na, um_ni, Int.toNat_natCast]; omega)) (by first | omega | (simp (disch := omega) only [um_eq, um_na, um_ni, Int.toNat_natCast]; omega)) <| X_l2i <| X_ist rfl (L' := [_, _, _, _, _, _, _, _, _, _]) rfl <| X_ald rfl <| X_gr 8 14 hM.ob ⟨rfl, rfl⟩ rfl rfl <| X_ild rfl <| X_ild rfl <| X_i <| X_nil) (by first | omega | (simp (disch := omega) only [um_eq, um_na, um_ni, Int.toNat_natCast]; omega)) (by first | omega | (simp (disch := omega) only [um_eq, um_na, um_ni, Int.toNat_natCast]; omega)) (fun hc => ?_) (fun hc => absurd hc (by first | omega | decide | (simp (disch := omega) only [um_eq, um_na, um_ni, Int.toNat_natCast]; omega)))
        refine Rn.fal rfl (X_ild rfl <| X_nil) ?_
        refine Rn.jto rfl (X_is hM.up (by first | omega | (simp (disch := omega) only [um_eq, um_na, um_ni, Int.toNat_natCast]; omega)) (by first | omega | (simp (disch := omega) only [um_eq, um_na, um_ni, Int.toNat_natCast]; omega)) rfl <| X_inc rfl (L' := [_, _, _, _, _, _, _, _, _, _]) rfl <| X_nil) ?_
        exact nx
  obtain ⟨U, r1, r2, r3⟩ := loop z 0 N (by omega) (fun i hi => by omega) (fun _ _ => rfl)
  exact ⟨U, r1, r2, r3⟩
theorem op_drawn {e n t : Int} (g : Gl T M K) (hK : K ≤ 100) (ie : I32 e) (inn : I32 n) (it : I32 t) : Op S 96 187 [vI e, vI n, vI t] T M K := by
  have hX := g.x
  have hM := g.m
  have hz := g.sz
  have b77 : um M 59 0 (M 59 0 + 1) 77 = M 77 := um_fn (by decide)
  by_cases h1 : 0 ≤ e ∧ e ≤ 999999
  case neg =>
    refine Op.bad1 (v := -2) (k := 0) g (by decide) (by decide) (by decide) ⟨_, rfl, ?_⟩ ⟨_, rfl, ?_⟩
    · refine Rn.cal rfl (X_ild rfl <| X_i <| X_i <| X_nil) (vs := [_, _, _]) (rest := []) rfl rfl rfl rfl (c_wN (by omega) (by decide) (by decide) h1) ?_
      refine Rn.ieq rfl (X_nil) (by first | omega | (simp (disch := omega) only [um_eq, um_na, um_ni, Int.toNat_natCast]; omega)) (fun hc => ?_) (fun hc => absurd hc (by first | omega | decide | (simp (disch := omega) only [um_eq, um_na, um_ni, Int.toNat_natCast]; omega)))
      refine Rn.cal rfl (X_ald rfl <| X_i <| X_nil) (vs := [_, _]) (rest := []) rfl rfl rfl (rcv_v hX.ob (by decide)) (c_bad hX) ?_
      refine Rn.ri rfl (X_nil) rfl
    · refine Rn.cal rfl (X_ild rfl <| X_i2l (by first | omega | (simp (disch := omega) only [um_eq, um_na, um_ni, Int.toNat_natCast]; omega)) <| X_l <| X_l <| X_nil) (vs := [_, _, _]) (rest := []) rfl rfl rfl rfl (c_iN (by omega) (by decide) (by decide) h1) ?_
      refine Rn.ieq rfl (X_nil) (by first | omega | (simp (disch := omega) only [um_eq, um_na, um_ni, Int.toNat_natCast]; omega)) (fun hc => ?_) (fun hc => absurd hc (by first | omega | decide | (simp (disch := omega) only [um_eq, um_na, um_ni, Int.toNat_natCast]; omega)))
      refine Rn.cal rfl (X_ald rfl <| X_nil) (vs := [_]) (rest := []) rfl rfl rfl (rcv_v hM.ob (by decide)) (c_mbad hM) ?_
      refine Rn.ri rfl (X_nil) rfl
  by_cases h2 : 0 ≤ n ∧ n ≤ 60
  case neg =>
    refine Op.bad1 (v := -2) (k := 0) g (by decide) (by decide) (by decide) ⟨_, rfl, ?_⟩ ⟨_, rfl, ?_⟩
    · refine Rn.cal rfl (X_ild rfl <| X_i <| X_i <| X_nil) (vs := [_, _, _]) (rest := []) rfl rfl rfl rfl (c_wY (by omega) (by decide) (by decide) h1) ?_
      refine Rn.ieq rfl (X_nil) (by first | omega | (simp (disch := omega) only [um_eq, um_na, um_ni, Int.toNat_natCast]; omega)) (fun hc => absurd hc (by first | omega | decide | (simp (disch := omega) only [um_eq, um_na, um_ni, Int.toNat_natCast]; omega))) (fun hc => ?_)
      refine Rn.cal rfl (X_ild rfl <| X_i <| X_i <| X_nil) (vs := [_, _, _]) (rest := []) rfl rfl rfl rfl (c_wN (by omega) (by decide) (by decide) h2) ?_
      refine Rn.ieq rfl (X_nil) (by first | omega | (simp (disch := omega) only [um_eq, um_na, um_ni, Int.toNat_natCast]; omega)) (fun hc => ?_) (fun hc => absurd hc (by first | omega | decide | (simp (disch := omega) only [um_eq, um_na, um_ni, Int.toNat_natCast]; omega)))
      refine Rn.cal rfl (X_ald rfl <| X_i <| X_nil) (vs := [_, _]) (rest := []) rfl rfl rfl (rcv_v hX.ob (by decide)) (c_bad hX) ?_
      refine Rn.ri rfl (X_nil) rfl
    · refine Rn.cal rfl (X_ild rfl <| X_i2l (by first | omega | (simp (disch := omega) only [um_eq, um_na, um_ni, Int.toNat_natCast]; omega)) <| X_l <| X_l <| X_nil) (vs := [_, _, _]) (rest := []) rfl rfl rfl rfl (c_iY (by omega) (by decide) (by decide) h1) ?_
      refine Rn.ieq rfl (X_nil) (by first | omega | (simp (disch := omega) only [um_eq, um_na, um_ni, Int.toNat_natCast]; omega)) (fun hc => absurd hc (by first | omega | decide | (simp (disch := omega) only [um_eq, um_na, um_ni, Int.toNat_natCast]; omega))) (fun hc => ?_)
      refine Rn.cal rfl (X_ild rfl <| X_i2l (by first | omega | (simp (disch := omega) only [um_eq, um_na, um_ni, Int.toNat_natCast]; omega)) <| X_l <| X_l <| X_nil) (vs := [_, _, _]) (rest := []) rfl rfl rfl rfl (c_iN (by omega) (by decide) (by decide) h2) ?_
      refine Rn.ieq rfl (X_nil) (by first | omega | (simp (disch := omega) only [um_eq, um_na, um_ni, Int.toNat_natCast]; omega)) (fun hc => ?_) (fun hc => absurd hc (by first | omega | decide | (simp (disch := omega) only [um_eq, um_na, um_ni, Int.toNat_natCast]; omega)))
      refine Rn.cal rfl (X_ald rfl <| X_nil) (vs := [_]) (rest := []) rfl rfl rfl (rcv_v hM.ob (by decide)) (c_mbad hM) ?_
      refine Rn.ri rfl (X_nil) rfl
  by_cases h3 : 0 ≤ t ∧ t ≤ M 5 1 - 1
  case neg =>
    refine Op.bad1 (v := -2) (k := 0) g (by decide) (by decide) (by decide) ⟨_, rfl, ?_⟩ ⟨_, rfl, ?_⟩
    · refine Rn.cal rfl (X_ild rfl <| X_i <| X_i <| X_nil) (vs := [_, _, _]) (rest := []) rfl rfl rfl rfl (c_wY (by omega) (by decide) (by decide) h1) ?_
      refine Rn.ieq rfl (X_nil) (by first | omega | (simp (disch := omega) only [um_eq, um_na, um_ni, Int.toNat_natCast]; omega)) (fun hc => absurd hc (by first | omega | decide | (simp (disch := omega) only [um_eq, um_na, um_ni, Int.toNat_natCast]; omega))) (fun hc => ?_)
      refine Rn.cal rfl (X_ild rfl <| X_i <| X_i <| X_nil) (vs := [_, _, _]) (rest := []) rfl rfl rfl rfl (c_wY (by omega) (by decide) (by decide) h2) ?_
      refine Rn.ieq rfl (X_nil) (by first | omega | (simp (disch := omega) only [um_eq, um_na, um_ni, Int.toNat_natCast]; omega)) (fun hc => absurd hc (by first | omega | decide | (simp (disch := omega) only [um_eq, um_na, um_ni, Int.toNat_natCast]; omega))) (fun hc => ?_)
      refine Rn.cal rfl (X_ald rfl <| X_gr 7 0 hX.ob ⟨rfl, rfl⟩ rfl rfl <| X_gr 6 1 hX.s1.st ⟨rfl, rfl⟩ rfl rfl <| X_ild rfl <| X_nil) (vs := [_, _]) (rest := []) rfl rfl rfl (rcv_v hX.s1.be (by decide)) (c_bhN hX hz.2 it h3) ?_
      refine Rn.ine rfl (X_nil) (by first | omega | (simp (disch := omega) only [um_eq, um_na, um_ni, Int.toNat_natCast]; omega)) (fun hc => absurd hc (by first | omega | decide | (simp (disch := omega) only [um_eq, um_na, um_ni, Int.toNat_natCast]; omega))) (fun hc => ?_)
      refine Rn.cal rfl (X_ald rfl <| X_i <| X_nil) (vs := [_, _]) (rest := []) rfl rfl rfl (rcv_v hX.ob (by decide)) (c_bad hX) ?_
      refine Rn.ri rfl (X_nil) rfl
    · refine Rn.cal rfl (X_ild rfl <| X_i2l (by first | omega | (simp (disch := omega) only [um_eq, um_na, um_ni, Int.toNat_natCast]; omega)) <| X_l <| X_l <| X_nil) (vs := [_, _, _]) (rest := []) rfl rfl rfl rfl (c_iY (by omega) (by decide) (by decide) h1) ?_
      refine Rn.ieq rfl (X_nil) (by first | omega | (simp (disch := omega) only [um_eq, um_na, um_ni, Int.toNat_natCast]; omega)) (fun hc => absurd hc (by first | omega | decide | (simp (disch := omega) only [um_eq, um_na, um_ni, Int.toNat_natCast]; omega))) (fun hc => ?_)
      refine Rn.cal rfl (X_ild rfl <| X_i2l (by first | omega | (simp (disch := omega) only [um_eq, um_na, um_ni, Int.toNat_natCast]; omega)) <| X_l <| X_l <| X_nil) (vs := [_, _, _]) (rest := []) rfl rfl rfl rfl (c_iY (by omega) (by decide) (by decide) h2) ?_
      refine Rn.ieq rfl (X_nil) (by first | omega | (simp (disch := omega) only [um_eq, um_na, um_ni, Int.toNat_natCast]; omega)) (fun hc => absurd hc (by first | omega | decide | (simp (disch := omega) only [um_eq, um_na, um_ni, Int.toNat_natCast]; omega))) (fun hc => ?_)
      refine Rn.cal rfl (X_ald rfl <| X_ild rfl <| X_nil) (vs := [_, _]) (rest := []) rfl rfl rfl (rcv_v hM.ob (by decide)) (c_ioN hM (by rw [b77]; exact hz.1) hz.2 it h3) ?_
      refine Rn.ine rfl (X_nil) (by first | omega | (simp (disch := omega) only [um_eq, um_na, um_ni, Int.toNat_natCast]; omega)) (fun hc => absurd hc (by first | omega | decide | (simp (disch := omega) only [um_eq, um_na, um_ni, Int.toNat_natCast]; omega))) (fun hc => ?_)
      refine Rn.cal rfl (X_ald rfl <| X_nil) (vs := [_]) (rest := []) rfl rfl rfl (rcv_v hM.ob (by decide)) (c_mbad hM) ?_
      refine Rn.ri rfl (X_nil) rfl
  obtain ⟨q, rfl⟩ : ∃ q : Nat, n = (q : Int) := ⟨n.toNat, by omega⟩
  obtain ⟨l, rfl⟩ : ∃ l : Nat, t = (l : Int) := ⟨t.toNat, by omega⟩
  have hl : (l : Int) < M 5 1 := by omega
  have hl4 : l < 4 := by omega
  obtain ⟨M1, c1, nt, hc, hw⟩ := trial_of (S := S) g
  obtain ⟨-, v, -, dv, v2, -, -⟩ := nights_of (S := S) hX.s2 hK 0 (by omega) nt
  have fr := hc.2.2.2.2.2.2.2
  have z1 : M1 (28 + 4) 1 = M 5 1 := hc.2.2.1.1
  have zz : M 5 1 = (((M 5 1).toNat : Nat) : Int) := by omega
  have xi := xqD_in (z := (M 5 1).toNat) (x := e) (by omega)
  obtain ⟨D, d0, dP, dR⟩ := seq_of (P := fun i D => NtOk D 28 K i ∧ Ngt M1 D 28) (R := fun i D D' => ∃ C, Cl S 11 [vR (28 + 4), vL (xqD (M 5 1).toNat e i)] (T, D) (some (vL (xqD (M 5 1).toNat e (i + 1))), (T, C)) ∧ ((∀ s : Nat, s < (M 5 1).toNat → C (28 + 16 + 2 * s) 5 = upDr (xqD (M 5 1).toNat e i) s) ∧ (∀ a k, k ≠ 5 → C a k = D a k) ∧ C (28 + 1) = D (28 + 1)) ∧ NtOk C 28 K i ∧ Cl S 57 [vR 28] (T, C) (some (vI (nightV C 28).2.1), (T, D')) ∧ SpendP C D' 28 v (nightV C 28)) (c := M1) ⟨nt, Ngt.refl⟩ q (fun i D hi hD => by
    obtain ⟨p1, p2⟩ := hD
    have zD : D (28 + 4) 1 = M 5 1 := by rw [p2.2.2.1]; exact z1
    obtain ⟨C, k1, k2, k3, k4⟩ := c_drawUps (S := S) (C := D) (b := 28) (z := (M 5 1).toNat) hX.s2 (by rw [zD]; exact zz) (by omega) (xi i)
    have ntC : NtOk C 28 K i := p1.cg (k4 _ (fun s hs => by omega)) (k4 _ (fun s hs => by omega)) (k4 _ (fun s hs => by omega)) (fun s hs => by
      rw [zD] at hs
      obtain ⟨⟨t0, t1, t2, t3, t4, t5⟩, t6, t7⟩ := p1.2.2.2.2 s (by rw [zD]; exact hs)
      have u := upDr_in (xi i) s
      unfold TrN
      rw [k3 _ 0 (by decide), k3 _ 1 (by decide), k3 _ 2 (by decide), k3 _ 3 (by decide), k3 _ 4 (by decide), k2 s (by omega), k3 _ 6 (by decide), k3 _ 7 (by decide)]
      exact ⟨⟨t0, t1, t2, t3, t4, u⟩, t6, t7⟩)
    have ngC : Ngt M1 C 28 := by
      obtain ⟨g1, g2, g3, g4⟩ := p2
      refine ⟨fun k hk => by rw [k4 (28 + 1) (fun s hs => by omega)]; exact g1 k hk, by rw [k4 (28 + 2) (fun s hs => by omega)]; exact g2, by rw [k4 (28 + 4) (fun s hs => by omega)]; exact g3, fun a ha => by rw [k4 a (fun s hs => by omega)]; exact g4 a ha⟩
    obtain ⟨D', v', s1, hv', sp⟩ := c_spend (S := S) hX.s2 ntC.1.1 ntC.1.2 (ntC.be hK (by omega))
    have hv2 : WayIs C 28 (C (28 + 1) 3).toNat (C (28 + 1) 2).toNat v := by
      rw [ngC.1 3 (by decide), ngC.1 2 (by decide), WayIs_cg (M := M1) (ngC.1 0 (by decide)) (ngC.1 1 (by decide)) (ngC.1 4 (by decide)) ngC.2.1]
      exact dv
    have f3 := ntC.1.1.2.2.2.1
    have ev : v' = v := WayIs.uniq ntC.1.1 (by omega) hv' hv2
    rw [ev] at sp
    exact ⟨D', ⟨ntC.spend hK (by omega) hv2 sp, ngC.spend ntC.2.1.2 sp⟩, C, k1, ⟨k2, k3, k4 _ (fun s hs => by omega)⟩, ntC, s1, sp⟩)
  have dz : ∀ i, i ≤ q → D i (28 + 4) 1 = M 5 1 := fun i hi => by rw [(dP i hi).2.2.2.1]; exact z1
  have df : ∀ i, i ≤ q → ∀ a, a < 28 ∨ 55 ≤ a → D i a = M a := fun i hi a ha => by
    rw [(dP i hi).2.2.2.2 a (by omega)]
    exact fr a ha
  have t0 := nt.2.2.2.2 l (by rw [z1]; exact hl)
  have tq := (dP q (Nat.le_refl q)).1.2.2.2.2 l (by rw [dz q (Nat.le_refl q)]; exact hl)
  have b6 := t0.2.1
  have q6 := tq.2.1
  have cloop : ∀ (k i : Nat), i + k = q → Rn S 96 79 ([], [some (vR 0), some (vI e), some (vI (q : Int)), some (vI (l : Int)), some (vI (M1 (28 + 16 + 2 * l) 6)), some (vL (xqD (M 5 1).toNat e i)), none, some (vI (i : Int))], T, D i) (some (vI (D q (28 + 16 + 2 * l) 6 - M1 (28 + 16 + 2 * l) 6)), (T, D q)) := by
    intro k
    induction k with
    | zero =>
      intro i hi
      have ei : i = q := by omega
      subst ei
      refine Rn.cge rfl (X_ild rfl <| X_ild rfl <| X_nil) (by first | omega | (simp (disch := omega) only [um_eq, um_na, um_ni, Int.toNat_natCast]; omega)) (by first | omega | (simp (disch := omega) only [um_eq, um_na, um_ni, Int.toNat_natCast]; omega)) (fun hc => ?_) (fun hc => absurd hc (by first | omega | decide | (simp (disch := omega) only [um_eq, um_na, um_ni, Int.toNat_natCast]; omega)))
      refine Rn.ri rfl (X_ald rfl <| X_gr 7 1 hX.ob ⟨rfl, rfl⟩ rfl rfl <| X_gr 6 1 hX.s2.st ⟨rfl, rfl⟩ rfl rfl <| X_gr 0 0 hX.s2.be ⟨rfl, rfl⟩ rfl rfl <| X_ild rfl <| X_aa hX.s2.sl (by decide) (by first | omega | (simp (disch := omega) only [um_eq, um_na, um_ni, Int.toNat_natCast]; omega)) (by first | omega | (simp (disch := omega) only [um_eq, um_na, um_ni, Int.toNat_natCast]; omega)) rfl (rSl_at (by omega)) <| X_gr 5 0 (hX.s2.se (by omega)) ⟨rfl, rfl⟩ rfl rfl <| X_i <| X_ia (hX.s2.tr (by omega)) (by first | omega | (simp (disch := omega) only [um_eq, um_na, um_ni, Int.toNat_natCast]; omega)) (by first | omega | (simp (disch := omega) only [um_eq, um_na, um_ni, Int.toNat_natCast]; omega)) rfl <| X_ild rfl <| X_sub <| X_nil) rfl
    | succ k ih =>
      intro i hi
      have nx := ih (i + 1) (by omega)
      obtain ⟨C, k1, -, -, k2, -⟩ := dR i (by omega)
      refine Rn.cge rfl (X_ild rfl <| X_ild rfl <| X_nil) (by first | omega | (simp (disch := omega) only [um_eq, um_na, um_ni, Int.toNat_natCast]; omega)) (by first | omega | (simp (disch := omega) only [um_eq, um_na, um_ni, Int.toNat_natCast]; omega)) (fun hc => absurd hc (by first | omega | decide | (simp (disch := omega) only [um_eq, um_na, um_ni, Int.toNat_natCast]; omega))) (fun hc => ?_)
      refine Rn.cal rfl (X_ald rfl <| X_gr 7 1 hX.ob ⟨rfl, rfl⟩ rfl rfl <| X_gr 6 1 hX.s2.st ⟨rfl, rfl⟩ rfl rfl <| X_lld rfl <| X_nil) (vs := [_, _]) (rest := []) rfl rfl rfl (rcv_v hX.s2.be (by decide)) (k1) ?_
      refine Rn.cal rfl (X_lst rfl (L' := [_, _, _, _, _, _, _, _]) rfl <| X_ald rfl <| X_gr 7 1 hX.ob ⟨rfl, rfl⟩ rfl rfl <| X_nil) (vs := [_]) (rest := []) rfl rfl rfl (rcv_v hX.s2.st (by decide)) (k2) ?_
      refine Rn.jto rfl (X_pop <| X_inc rfl (L' := [_, _, _, _, _, _, _, _]) rfl <| X_nil) ?_
      exact nx
  -- the model
  have dq77 : D q 77 = M 77 := df q (Nat.le_refl q) 77 (by omega)
  obtain ⟨M2, cl, ls, lw, lc, l76, lf⟩ := lay_of (S := S) (N := D q) g dq77
  have sm0 : SmB (M 5 1).toNat (V M2) 0 (D 0) 28 := by
    refine ls.trans (fun i hi k k0 k8 => ?_)
    rw [d0]
    exact (hc.2.2.2.1 i (by omega) k k0 k8).symm
  have p0 : MdOk M M2 (D 0) v (M 2 5) := ⟨sm0, by rw [lf 77 (by decide) (by decide) (by decide) (by decide) (by decide)]; exact dq77, lw v (hw v dv), lc, fun k hk => by rw [l76 k (by omega) (by omega), df q (Nat.le_refl q) 76 (by omega)], fun a a1 a2 a3 => by rw [lf a a2 (by omega) (by omega) (by omega) (by omega)]; exact df q (Nat.le_refl q) a a1⟩
  have had : M2 83 (l : Int) = M1 (28 + 16 + 2 * l) 6 := by
    have := sm0 l (by omega) 6 (by decide) (by decide)
    rw [V_6, d0] at this
    exact this
  obtain ⟨E, e0, eP, eR⟩ := seq_of (P := fun i N => MdOk M N (D i) v (M 2 5)) (R := fun i N N' => ∀ w9, ∃ w, ∀ r, Rn S 187 56 ([], [some (vR 76), some (vI e), some (vI (q : Int)), some (vI (l : Int)), some (vL (xqD (M 5 1).toNat e (i + 1))), none, some (vI (M1 (28 + 16 + 2 * l) 6)), some (vI ((i : Int) + 1)), some (vI (((M 5 1).toNat : Nat) : Int)), w], T, N') r → Rn S 187 65 ([], [some (vR 76), some (vI e), some (vI (q : Int)), some (vI (l : Int)), some (vL (xqD (M 5 1).toNat e i)), none, some (vI (M1 (28 + 16 + 2 * l) 6)), some (vI (i : Int)), some (vI 0), w9], T, N) r) p0 q (fun i N hi hN => by
    obtain ⟨n1, n2, n3, n4, n5, n6⟩ := hN
    obtain ⟨C, -, ⟨u1, u2, u3⟩, ntC, -, sp⟩ := dR i hi
    have zC : C (28 + 4) 1 = M 5 1 := by rw [u2 _ _ (by decide)]; exact dz i (by omega)
    obtain ⟨U, m1, m2, m3⟩ := c_mdraw (S := S) (T := T) (N := N) (z := (M 5 1).toNat) (e := e) (n := (q : Int)) (t := (l : Int)) (f := M1 (28 + 16 + 2 * l) 6) (k := (i : Int)) hM (by rw [n2, hz.1]; exact zz) (by omega) (xi i)
    have smU : SmB (M 5 1).toNat (V U) 0 C 28 := fun s hs k k0 k8 => by
      have n := n1 s hs k k0 k8
      rcases (show k < 5 ∨ k = 5 ∨ k = 6 ∨ k = 7 by omega) with hk | rfl | rfl | rfl
      · rw [u2 _ _ (by omega), ← n, V_k s k hk, V_k s k hk, m3 77 (by decide)]
      · rw [V_5, m2 s hs, u1 s hs]
      · rw [u2 _ _ (by omega), ← n, V_6, V_6, m3 83 (by decide)]
      · rw [u2 _ _ (by omega), ← n, V_7, V_7, m3 84 (by decide)]
    obtain ⟨P, N', k1, k2, k3, k4, k5, k6, k7⟩ := mstep (S := S) (C' := D (i + 1)) (K := K) (j := i) (v := v) hM hK (by omega) ntC (by rw [zC]; exact smU) (by rw [m3 77 (by decide), n2, zC]; exact hz.1) (by rw [m3 76 (by decide)]; exact n3) (by rw [m3 76 (by decide), n4, u3, (dP i (by omega)).2.1 5 (by decide)]; exact hc.1.2.2.2.2.2.1.symm) sp
    rw [zC] at k3
    refine ⟨N', ⟨k3, by rw [k6 77 (by decide) (by decide) (by decide), m3 77 (by decide)]; exact n2, by rw [k5 17 (by decide) (by decide) (by decide), m3 76 (by decide)]; exact n3, by rw [k5 18 (by decide) (by decide) (by decide), m3 76 (by decide)]; exact n4, fun k hk => by rw [k5 k (by omega) (by omega) (by omega), m3 76 (by decide)]; exact n5 k hk, fun a a1 a2 a3 => by rw [k6 a a2 (by omega) (by omega), m3 a (by omega)]; exact n6 a a1 a2 a3⟩, fun w9 => ?_⟩
    obtain ⟨w', m1⟩ := m1 w9
    refine ⟨w', fun r hr => m1 r ?_⟩
    refine Rn.cal rfl (X_ald rfl <| X_nil) (vs := [_]) (rest := []) rfl rfl rfl (rcv_v hM.ob (by decide)) (k1) ?_
    refine Rn.cal rfl (X_ald rfl <| X_nil) (vs := [_]) (rest := []) rfl rfl rfl (rcv_v hM.ob (by decide)) (k2) ?_
    refine Rn.jto rfl (X_inc rfl (L' := [_, _, _, _, _, _, _, _, _, _]) rfl <| X_nil) ?_
    exact hr)
  obtain ⟨n1, n2, n3, n4, n5, n6⟩ := eP q (Nat.le_refl q)
  have eq6 : E q 83 (l : Int) = D q (28 + 16 + 2 * l) 6 := by
    have := n1 l (by omega) 6 (by decide) (by decide)
    rw [V_6] at this
    exact this
  have mloop : ∀ (k i : Nat) (w8 w9 : Option AV), i + k = q → Rn S 187 56 ([], [some (vR 76), some (vI e), some (vI (q : Int)), some (vI (l : Int)), some (vL (xqD (M 5 1).toNat e i)), none, some (vI (M1 (28 + 16 + 2 * l) 6)), some (vI (i : Int)), w8, w9], T, E i) (some (vI (D q (28 + 16 + 2 * l) 6 - M1 (28 + 16 + 2 * l) 6)), (T, E q)) := by
    intro k
    induction k with
    | zero =>
      intro i w8 w9 hi
      have ei : i = q := by omega
      subst ei
      rw [← eq6]
      refine Rn.cge rfl (X_ild rfl <| X_ild rfl <| X_nil) (by first | omega | (simp (disch := omega) only [um_eq, um_na, um_ni, Int.toNat_natCast]; omega)) (by first | omega | (simp (disch := omega) only [um_eq, um_na, um_ni, Int.toNat_natCast]; omega)) (fun hc => ?_) (fun hc => absurd hc (by first | omega | decide | (simp (disch := omega) only [um_eq, um_na, um_ni, Int.toNat_natCast]; omega)))
      refine Rn.ri rfl (X_ald rfl <| X_gr 8 15 hM.ob ⟨rfl, rfl⟩ rfl rfl <| X_ild rfl <| X_ia hM.co (by first | omega | (simp (disch := omega) only [um_eq, um_na, um_ni, Int.toNat_natCast]; omega)) (by first | omega | (simp (disch := omega) only [um_eq, um_na, um_ni, Int.toNat_natCast]; omega)) rfl <| X_ild rfl <| X_sub <| X_nil) rfl
    | succ k ih =>
      intro i w8 w9 hi
      obtain ⟨w, st⟩ := eR i (by omega) w9
      have nx := ih (i + 1) (some (vI (((M 5 1).toNat : Nat) : Int))) w (by omega)
      have st := st _ nx
      refine Rn.cge rfl (X_ild rfl <| X_ild rfl <| X_nil) (by first | omega | (simp (disch := omega) only [um_eq, um_na, um_ni, Int.toNat_natCast]; omega)) (by first | omega | (simp (disch := omega) only [um_eq, um_na, um_ni, Int.toNat_natCast]; omega)) (fun hc => absurd hc (by first | omega | decide | (simp (disch := omega) only [um_eq, um_na, um_ni, Int.toNat_natCast]; omega))) (fun hc => ?_)
      refine Rn.fal rfl (X_i <| X_ist rfl (L' := [_, _, _, _, _, _, _, _, _, _]) rfl <| X_nil) ?_
      exact st
  refine ⟨D q (28 + 16 + 2 * l) 6 - M1 (28 + 16 + 2 * l) 6, T, D q, E q, by omega, ⟨_, rfl, ?_⟩, ⟨_, rfl, ?_⟩, g.tried (fun a a1 a2 a3 => n6 a a1 (by omega) (by omega)) n5⟩
  · have l0 := cloop q 0 (by omega)
    rw [d0] at l0
    refine Rn.cal rfl (X_ild rfl <| X_i <| X_i <| X_nil) (vs := [_, _, _]) (rest := []) rfl rfl rfl rfl (c_wY (by omega) (by decide) (by decide) h1) ?_
    refine Rn.ieq rfl (X_nil) (by first | omega | (simp (disch := omega) only [um_eq, um_na, um_ni, Int.toNat_natCast]; omega)) (fun hc => absurd hc (by first | omega | decide | (simp (disch := omega) only [um_eq, um_na, um_ni, Int.toNat_natCast]; omega))) (fun hc => ?_)
    refine Rn.cal rfl (X_ild rfl <| X_i <| X_i <| X_nil) (vs := [_, _, _]) (rest := []) rfl rfl rfl rfl (c_wY (by omega) (by decide) (by decide) h2) ?_
    refine Rn.ieq rfl (X_nil) (by first | omega | (simp (disch := omega) only [um_eq, um_na, um_ni, Int.toNat_natCast]; omega)) (fun hc => absurd hc (by first | omega | decide | (simp (disch := omega) only [um_eq, um_na, um_ni, Int.toNat_natCast]; omega))) (fun hc => ?_)
    refine Rn.cal rfl (X_ald rfl <| X_gr 7 0 hX.ob ⟨rfl, rfl⟩ rfl rfl <| X_gr 6 1 hX.s1.st ⟨rfl, rfl⟩ rfl rfl <| X_ild rfl <| X_nil) (vs := [_, _]) (rest := []) rfl rfl rfl (rcv_v hX.s1.be (by decide)) (c_bhY hX hz.2 it h3) ?_
    refine Rn.ine rfl (X_nil) (by first | omega | (simp (disch := omega) only [um_eq, um_na, um_ni, Int.toNat_natCast]; omega)) (fun hc => ?_) (fun hc => absurd hc (by first | omega | decide | (simp (disch := omega) only [um_eq, um_na, um_ni, Int.toNat_natCast]; omega)))
    refine Rn.cal rfl (X_ald rfl <| X_gr 7 1 hX.ob ⟨rfl, rfl⟩ rfl rfl <| X_ald rfl <| X_gr 7 0 hX.ob ⟨rfl, rfl⟩ rfl rfl <| X_nil) (vs := [_, _]) (rest := []) rfl rfl rfl (rcv_v hX.s2.st (by decide)) (c1) ?_
    refine Rn.fal rfl (X_ald rfl <| X_gr 7 1 hX.ob ⟨rfl, rfl⟩ rfl rfl <| X_gr 6 1 hX.s2.st ⟨rfl, rfl⟩ rfl rfl <| X_gr 0 0 hX.s2.be ⟨rfl, rfl⟩ rfl rfl <| X_ild rfl <| X_aa hX.s2.sl (by decide) (by first | omega | (simp (disch := omega) only [um_eq, um_na, um_ni, Int.toNat_natCast]; omega)) (by first | omega | (simp (disch := omega) only [um_eq, um_na, um_ni, Int.toNat_natCast]; omega)) rfl (rSl_at (by omega)) <| X_gr 5 0 (hX.s2.se (by omega)) ⟨rfl, rfl⟩ rfl rfl <| X_i <| X_ia (hX.s2.tr (by omega)) (by first | omega | (simp (disch := omega) only [um_eq, um_na, um_ni, Int.toNat_natCast]; omega)) (by first | omega | (simp (disch := omega) only [um_eq, um_na, um_ni, Int.toNat_natCast]; omega)) rfl <| X_ist rfl (L' := [_, _, _, _, _, _, _, _]) rfl <| X_ild rfl <| X_i2l (by first | omega | (simp (disch := omega) only [um_eq, um_na, um_ni, Int.toNat_natCast]; omega)) <| X_lst rfl (L' := [_, _, _, _, _, _, _, _]) rfl <| X_i <| X_ist rfl (L' := [_, _, _, _, _, _, _, _]) rfl <| X_nil) ?_
    exact l0
  · have l0 := mloop q 0 none none (by omega)
    rw [e0] at l0
    refine Rn.cal rfl (X_ild rfl <| X_i2l (by first | omega | (simp (disch := omega) only [um_eq, um_na, um_ni, Int.toNat_natCast]; omega)) <| X_l <| X_l <| X_nil) (vs := [_, _, _]) (rest := []) rfl rfl rfl rfl (c_iY (by omega) (by decide) (by decide) h1) ?_
    refine Rn.ieq rfl (X_nil) (by first | omega | (simp (disch := omega) only [um_eq, um_na, um_ni, Int.toNat_natCast]; omega)) (fun hc => absurd hc (by first | omega | decide | (simp (disch := omega) only [um_eq, um_na, um_ni, Int.toNat_natCast]; omega))) (fun hc => ?_)
    refine Rn.cal rfl (X_ild rfl <| X_i2l (by first | omega | (simp (disch := omega) only [um_eq, um_na, um_ni, Int.toNat_natCast]; omega)) <| X_l <| X_l <| X_nil) (vs := [_, _, _]) (rest := []) rfl rfl rfl rfl (c_iY (by omega) (by decide) (by decide) h2) ?_
    refine Rn.ieq rfl (X_nil) (by first | omega | (simp (disch := omega) only [um_eq, um_na, um_ni, Int.toNat_natCast]; omega)) (fun hc => absurd hc (by first | omega | decide | (simp (disch := omega) only [um_eq, um_na, um_ni, Int.toNat_natCast]; omega))) (fun hc => ?_)
    refine Rn.cal rfl (X_ald rfl <| X_ild rfl <| X_nil) (vs := [_, _]) (rest := []) rfl rfl rfl (rcv_v hM.ob (by decide)) (c_ioY hM (by rw [dq77]; exact hz.1) hz.2 it h3) ?_
    refine Rn.ine rfl (X_nil) (by first | omega | (simp (disch := omega) only [um_eq, um_na, um_ni, Int.toNat_natCast]; omega)) (fun hc => ?_) (fun hc => absurd hc (by first | omega | decide | (simp (disch := omega) only [um_eq, um_na, um_ni, Int.toNat_natCast]; omega)))
    refine Rn.cal rfl (X_ald rfl <| X_nil) (vs := [_]) (rest := []) rfl rfl rfl (rcv_v hM.ob (by decide)) (cl) ?_
    refine Rn.fal rfl (X_ild rfl <| X_i2l (by first | omega | (simp (disch := omega) only [um_eq, um_na, um_ni, Int.toNat_natCast]; omega)) <| X_lst rfl (L' := [_, _, _, _, _, _, _, _, _, _]) rfl <| X_ald rfl <| X_gr 8 15 hM.ob ⟨rfl, rfl⟩ rfl rfl <| X_ild rfl <| X_ia hM.co (by first | omega | (simp (disch := omega) only [um_eq, um_na, um_ni, Int.toNat_natCast]; omega)) (by first | omega | (simp (disch := omega) only [um_eq, um_na, um_ni, Int.toNat_natCast]; omega)) rfl <| X_ist rfl (L' := [_, _, _, _, _, _, _, _, _, _]) rfl <| X_i <| X_ist rfl (L' := [_, _, _, _, _, _, _, _, _, _]) rfl <| X_nil) ?_
    rw [had]
    exact l0
end Drawn
