/-! READ: an item, by the model -/
section Mitem
variable {S : List Int} {T : List Sh} {C P Q N : Nat → Int → Int} {n e K i : Nat} {f : Nat → Int} {W : Int → Int} {lo x : Int} {hi : Nat → Int} {h : Hp}
def AgW (N : Nat → Int → Int) (W : Int → Int) : Prop := ∀ k, 561 ≤ k → k < 748 → N 77 k = W k
def FrM (N P : Nat → Int → Int) : Prop := (∀ k, ¬ (7 ≤ k ∧ k ≤ 11) → P 76 k = N 76 k) ∧ (∀ k, k < 561 → P 77 k = N 77 k) ∧ (∀ a, a ≠ 76 → a ≠ 77 → P a = N a)
theorem FrM.refl : FrM N N := ⟨fun _ _ => rfl, fun _ _ => rfl, fun _ _ _ => rfl⟩
theorem FrM.trans (h1 : FrM N P) (h2 : FrM P Q) : FrM N Q := ⟨fun k hk => by rw [h2.1 k hk, h1.1 k hk], fun k hk => by rw [h2.2.1 k hk, h1.2.1 k hk], fun a a1 a2 => by rw [h2.2.2 a a1 a2, h1.2.2 a a1 a2]⟩
theorem FrM.put {k v : Int} (h1 : FrM N P) (hk : 561 ≤ k) : FrM N (um P 77 k v) := h1.trans ⟨fun _ _ => um_na (by decide), fun j hj => um_ni (by omega), fun a _ a2 => um_fn a2⟩
theorem MTx.fr (hc : MTx N n f) (h1 : FrM N P) : MTx P n f := hc.cg (h1.1 3 (by decide)) (h1.2.2 79 (by decide) (by decide))
theorem m_tkY (hM : isM T) (hc : MTx N n f) (he : e ≤ n) (h7 : N 76 7 = ((pE f n e i : Nat) : Int)) (hx : x = hi i) (il : I32 lo) (ih : I32 (hi i)) (g : gdN f n e lo hi i) : ∃ P, Cl S 140 [vR 76, vI lo, vI x] (T, N) (some (vI 1), (T, P)) ∧ P 76 11 = tV f n (pS f n e i) ∧ P 76 7 = ((pE f n e (i + 1) : Nat) : Int) ∧ FrM N P ∧ P 77 = N 77 := by
  subst hx
  obtain ⟨P, v, c, q, q7, q8, qk, qa⟩ := m_takes (S := S) (lo := lo) (hi := hi i) hM hc (pE_in hc.2.1 he i).2 h7 il ih
  rcases q with ⟨rfl, -, q⟩ | ⟨-, q⟩
  · exact ⟨P, c, q, q7, ⟨qk, fun k _ => by rw [qa 77 (by decide)], fun a a1 _ => qa a a1⟩, qa 77 (by decide)⟩
  · exact absurd g q
theorem m_tkN (hM : isM T) (hc : MTx N n f) (he : e ≤ n) (h7 : N 76 7 = ((pE f n e i : Nat) : Int)) (hx : x = hi i) (il : I32 lo) (ih : I32 (hi i)) (g : ¬ gdN f n e lo hi i) : ∃ P, Cl S 140 [vR 76, vI lo, vI x] (T, N) (some (vI 0), (T, P)) ∧ P 76 8 = ((pS f n e i : Nat) : Int) ∧ FrM N P ∧ P 77 = N 77 := by
  subst hx
  obtain ⟨P, v, c, q, q7, q8, qk, qa⟩ := m_takes (S := S) (lo := lo) (hi := hi i) hM hc (pE_in hc.2.1 he i).2 h7 il ih
  rcases q with ⟨-, q, -⟩ | ⟨rfl, -⟩
  · exact absurd q g
  · exact ⟨P, c, q8, ⟨qk, fun k _ => by rw [qa 77 (by decide)], fun a a1 _ => qa a a1⟩, qa 77 (by decide)⟩
/-- what the model meets at an item: the text, where it stands, the words so far -/
def AtI (T : List Sh) (N C : Nat → Int → Int) (W : Int → Int) (K n : Nat) (f : Nat → Int) (e it : Nat) : Prop := isM T ∧ MTx N n f ∧ e ≤ n ∧ N 76 7 = (e : Int) ∧ AgW N W ∧ (it ≠ 0 → Rg C 28 W 561 K)
def OkI (S : List Int) (T : List Sh) (N : Nat → Int → Int) (W : Int → Int) (n : Nat) (f : Nat → Int) (e it : Nat) : Prop := ∃ P, Cl S 148 [vR 76, vI (it : Int)] (T, N) (some (vI 1), (T, P)) ∧ AgW P (apW W it (fun i => tV f n (pS f n e i))) ∧ P 76 7 = ((pE f n e (cnI it) : Nat) : Int) ∧ FrM N P
def NoI (S : List Int) (T : List Sh) (N : Nat → Int → Int) (n : Nat) (f : Nat → Int) (e it j : Nat) : Prop := ∃ P, Cl S 148 [vR 76, vI (it : Int)] (T, N) (some (vI 0), (T, P)) ∧ P 76 8 = ((pS f n e j : Nat) : Int) ∧ FrM N P
theorem mi_0 (ha : AtI T N C W K n f e 0) : ((∀ i, i < 2 → gdN f n e 1 (hiI W 0) i) → OkI S T N W n f e 0) ∧ (∀ j, j < 2 → (∀ i, i < j → gdN f n e 1 (hiI W 0) i) → ¬ gdN f n e 1 (hiI W 0) j → NoI S T N n f e 0 j) := by
  obtain ⟨hM, hc, he, h7, hw, -⟩ := ha
  have out : ∀ v P, Cl S 143 [vR 76] (T, N) (some (vI v), (T, P)) → (v = 0 ∨ v = 1) → Cl S 148 [vR 76, vI ((0 : Nat) : Int)] (T, N) (some (vI v), (T, P)) := fun v P c hv => by
    refine ⟨_, rfl, ?_⟩
    show Rn S 148 0 ([], [some (vR 76), some (vI 0), none, none], T, N) (some (vI v), (T, P))
    refine Rn.swi (q' := 44) rfl (X_ild rfl <| X_nil) (by first | omega | (simp (disch := omega) only [um_eq, um_na, um_ni, Int.toNat_natCast]; omega)) (by first | rfl | (rw [e]; rfl)) ?_
    refine Rn.cal rfl (X_ald rfl <| X_nil) (vs := [_]) (rest := []) rfl rfl rfl (rcv_v hM.ob (by decide)) (c) ?_
    refine Rn.rz rfl (X_nil) rfl (by first | exact Or.inl rfl | exact Or.inr rfl | omega)
  refine ⟨fun hg => ?_, fun j hj hg hb => ?_⟩
  · obtain ⟨P, c1, p1, p7, fP, -⟩ := m_tkY (S := S) (i := 0) (lo := 1) (hi := hiI W 0) (x := 7) hM hc he h7 rfl (by decide) (by show I32 7; decide) (hg 0 (by decide))
    obtain ⟨Q, c2, q1, q7, fQ, -⟩ := m_tkY (S := S) (lo := 1) (hi := hiI W 0) (x := 7) hM (hc.fr fP) he p7 rfl (by decide) (by show I32 7; decide) (hg 1 (by decide))
    obtain ⟨R, c3, ⟨r0, r1, r3, rk⟩, ro, ra⟩ := c_begins (S := S) (M := Q) (r := 561) (w := P 76 11) (hh := Q 76 11) hM (by decide) (by decide)
    refine ⟨R, out 1 R ⟨_, rfl, ?_⟩ (Or.inr rfl), ?_, by rw [ra 76 (by decide)]; exact q7, (fP.trans fQ).trans ⟨fun k _ => by rw [ra 76 (by decide)], fun k hk => ro k (by omega), fun a _ a2 => ra a a2⟩⟩
    · refine Rn.cal rfl (X_ald rfl <| X_i <| X_i <| X_nil) (vs := [_, _, _]) (rest := []) rfl rfl rfl (rcv_v hM.ob (by decide)) (c1) ?_
      refine Rn.ine rfl (X_nil) (by first | omega | (simp (disch := omega) only [um_eq, um_na, um_ni, Int.toNat_natCast]; omega)) (fun hc => ?_) (fun hc => absurd hc (by first | omega | decide | (simp (disch := omega) only [um_eq, um_na, um_ni, Int.toNat_natCast]; omega)))
      refine Rn.cal rfl (X_ald rfl <| X_gi 8 11 11 hM.ob ⟨rfl, rfl, rfl⟩ (Or.inl rfl) <| X_ist rfl (L' := [_, _]) rfl <| X_ald rfl <| X_i <| X_i <| X_nil) (vs := [_, _, _]) (rest := []) rfl rfl rfl (rcv_v hM.ob (by decide)) (c2) ?_
      refine Rn.ine rfl (X_nil) (by first | omega | (simp (disch := omega) only [um_eq, um_na, um_ni, Int.toNat_natCast]; omega)) (fun hc => ?_) (fun hc => absurd hc (by first | omega | decide | (simp (disch := omega) only [um_eq, um_na, um_ni, Int.toNat_natCast]; omega)))
      refine Rn.cal rfl (X_ald rfl <| X_i <| X_ild rfl <| X_ald rfl <| X_gi 8 11 11 hM.ob ⟨rfl, rfl, rfl⟩ (Or.inl rfl) <| X_nil) (vs := [_, _, _, _]) (rest := []) rfl rfl rfl (rcv_v hM.ob (by decide)) (c3) ?_
      refine Rn.rz rfl (X_i <| X_nil) rfl (by first | exact Or.inl rfl | exact Or.inr rfl | omega)
    · intro k k0 k1
      show _ = roW (tV f n (pS f n e 0)) (tV f n (pS f n e 1)) k
      rw [← p1, ← q1]
      unfold roW
      by_cases e0 : k = 561
      · rw [if_pos e0, e0]; exact r0
      · rw [if_neg e0]
        by_cases e1 : k = 562
        · rw [if_pos e1, e1]; exact r1
        · rw [if_neg e1]
          by_cases e3 : k = 564
          · rw [if_pos e3, e3]; exact r3
          · rw [if_neg e3]
            have := rk (k - 561) (by omega) (by omega) (by omega) (by omega) (by omega)
            rw [show 561 + (k - 561) = k by omega] at this
            exact this
  · rcases (show j = 0 ∨ j = 1 by omega) with rfl | rfl
    · obtain ⟨P, c1, p8, fP, -⟩ := m_tkN (S := S) (i := 0) (lo := 1) (hi := hiI W 0) (x := 7) hM hc he h7 rfl (by decide) (by show I32 7; decide) hb
      refine ⟨P, out 0 P ⟨_, rfl, ?_⟩ (Or.inl rfl), p8, fP⟩
      refine Rn.cal rfl (X_ald rfl <| X_i <| X_i <| X_nil) (vs := [_, _, _]) (rest := []) rfl rfl rfl (rcv_v hM.ob (by decide)) (c1) ?_
      refine Rn.ine rfl (X_nil) (by first | omega | (simp (disch := omega) only [um_eq, um_na, um_ni, Int.toNat_natCast]; omega)) (fun hc => absurd hc (by first | omega | decide | (simp (disch := omega) only [um_eq, um_na, um_ni, Int.toNat_natCast]; omega))) (fun hc => ?_)
      refine Rn.rz rfl (X_i <| X_nil) rfl (by first | exact Or.inl rfl | exact Or.inr rfl | omega)
    · obtain ⟨P, c1, p1, p7, fP, -⟩ := m_tkY (S := S) (i := 0) (lo := 1) (hi := hiI W 0) (x := 7) hM hc he h7 rfl (by decide) (by show I32 7; decide) (hg 0 (by decide))
      obtain ⟨Q, c2, q8, fQ, -⟩ := m_tkN (S := S) (lo := 1) (hi := hiI W 0) (x := 7) hM (hc.fr fP) he p7 rfl (by decide) (by show I32 7; decide) hb
      refine ⟨Q, out 0 Q ⟨_, rfl, ?_⟩ (Or.inl rfl), q8, fP.trans fQ⟩
      refine Rn.cal rfl (X_ald rfl <| X_i <| X_i <| X_nil) (vs := [_, _, _]) (rest := []) rfl rfl rfl (rcv_v hM.ob (by decide)) (c1) ?_
      refine Rn.ine rfl (X_nil) (by first | omega | (simp (disch := omega) only [um_eq, um_na, um_ni, Int.toNat_natCast]; omega)) (fun hc => ?_) (fun hc => absurd hc (by first | omega | decide | (simp (disch := omega) only [um_eq, um_na, um_ni, Int.toNat_natCast]; omega)))
      refine Rn.cal rfl (X_ald rfl <| X_gi 8 11 11 hM.ob ⟨rfl, rfl, rfl⟩ (Or.inl rfl) <| X_ist rfl (L' := [_, _]) rfl <| X_ald rfl <| X_i <| X_i <| X_nil) (vs := [_, _, _]) (rest := []) rfl rfl rfl (rcv_v hM.ob (by decide)) (c2) ?_
      refine Rn.ine rfl (X_nil) (by first | omega | (simp (disch := omega) only [um_eq, um_na, um_ni, Int.toNat_natCast]; omega)) (fun hc => absurd hc (by first | omega | decide | (simp (disch := omega) only [um_eq, um_na, um_ni, Int.toNat_natCast]; omega))) (fun hc => ?_)
      refine Rn.rz rfl (X_i <| X_nil) rfl (by first | exact Or.inl rfl | exact Or.inr rfl | omega)
/-- a cell is taken -/
theorem m_cellY {it : Nat} (ha : AtI T N C W K n f e it) (h0 : it ≠ 0) (hx : hi 0 = W 561 * W 562 - 1) (g : gdN f n e 0 hi 0) : ∃ P, Cl S 144 [vR 76] (T, N) (some (vI 1), (T, P)) ∧ P 76 11 = tV f n (pS f n e 0) ∧ P 76 7 = ((pE f n e 1 : Nat) : Int) ∧ FrM N P ∧ P 77 = N 77 := by
  obtain ⟨hM, hc, he, h7, hw, hR⟩ := ha
  obtain ⟨-, -, -, -, -, w9, -⟩ := (hR h0).wds
  have w0 := hw 561 (by decide) (by decide)
  have w1 := hw 562 (by decide) (by decide)
  obtain ⟨P, c, p1, p2, p3, p4⟩ := m_tkY (S := S) (i := 0) (x := N 77 561 * N 77 562 - 1) hM hc he h7 (by rw [hx, w0, w1]) (by decide) (by rw [hx]; omega) g
  refine ⟨P, ⟨_, rfl, ?_⟩, p1, p2, p3, p4⟩
  refine Rn.cal rfl (X_ald rfl <| X_i <| X_ald rfl <| X_gr 8 0 hM.ob ⟨rfl, rfl⟩ rfl rfl <| X_i <| X_ia hM.w (by first | omega | (simp (disch := omega) only [um_eq, um_na, um_ni, Int.toNat_natCast]; omega)) (by first | omega | (simp (disch := omega) only [um_eq, um_na, um_ni, Int.toNat_natCast]; omega)) rfl <| X_ald rfl <| X_gr 8 0 hM.ob ⟨rfl, rfl⟩ rfl rfl <| X_i <| X_ia hM.w (by first | omega | (simp (disch := omega) only [um_eq, um_na, um_ni, Int.toNat_natCast]; omega)) (by first | omega | (simp (disch := omega) only [um_eq, um_na, um_ni, Int.toNat_natCast]; omega)) rfl <| X_mul <| X_i <| X_sub <| X_nil) (vs := [_, _, _]) (rest := []) rfl rfl rfl (rcv_v hM.ob (by decide)) (c) ?_
  refine Rn.rz rfl (X_nil) rfl (by first | exact Or.inl rfl | exact Or.inr rfl | omega)
theorem m_cellN {it : Nat} (ha : AtI T N C W K n f e it) (h0 : it ≠ 0) (hx : hi 0 = W 561 * W 562 - 1) (g : ¬ gdN f n e 0 hi 0) : ∃ P, Cl S 144 [vR 76] (T, N) (some (vI 0), (T, P)) ∧ P 76 8 = ((pS f n e 0 : Nat) : Int) ∧ FrM N P ∧ P 77 = N 77 := by
  obtain ⟨hM, hc, he, h7, hw, hR⟩ := ha
  obtain ⟨-, -, -, -, -, w9, -⟩ := (hR h0).wds
  have w0 := hw 561 (by decide) (by decide)
  have w1 := hw 562 (by decide) (by decide)
  obtain ⟨P, c, p1, p2, p3⟩ := m_tkN (S := S) (i := 0) (x := N 77 561 * N 77 562 - 1) hM hc he h7 (by rw [hx, w0, w1]) (by decide) (by rw [hx]; omega) g
  refine ⟨P, ⟨_, rfl, ?_⟩, p1, p2, p3⟩
  refine Rn.cal rfl (X_ald rfl <| X_i <| X_ald rfl <| X_gr 8 0 hM.ob ⟨rfl, rfl⟩ rfl rfl <| X_i <| X_ia hM.w (by first | omega | (simp (disch := omega) only [um_eq, um_na, um_ni, Int.toNat_natCast]; omega)) (by first | omega | (simp (disch := omega) only [um_eq, um_na, um_ni, Int.toNat_natCast]; omega)) rfl <| X_ald rfl <| X_gr 8 0 hM.ob ⟨rfl, rfl⟩ rfl rfl <| X_i <| X_ia hM.w (by first | omega | (simp (disch := omega) only [um_eq, um_na, um_ni, Int.toNat_natCast]; omega)) (by first | omega | (simp (disch := omega) only [um_eq, um_na, um_ni, Int.toNat_natCast]; omega)) rfl <| X_mul <| X_i <| X_sub <| X_nil) (vs := [_, _, _]) (rest := []) rfl rfl rfl (rcv_v hM.ob (by decide)) (c) ?_
  refine Rn.rz rfl (X_nil) rfl (by first | exact Or.inl rfl | exact Or.inr rfl | omega)
theorem AgW.put {k v : Int} (h1 : AgW N W) (h77 : P 77 = N 77) : AgW (um P 77 k v) (uw W k v) := by
  intro j j0 j1
  by_cases e : j = k
  · subst e
    rw [um_eq, uw_eq]
  · rw [um_ni e, uw_ne e, h77]
    exact h1 j j0 j1
theorem mi_12 {it : Nat} (ha : AtI T N C W K n f e it) (hit : it = 1 ∨ it = 2) : ((∀ i, i < 1 → gdN f n e 0 (hiI W it) i) → OkI S T N W n f e it) ∧ (∀ j, j < 1 → (∀ i, i < j → gdN f n e 0 (hiI W it) i) → ¬ gdN f n e 0 (hiI W it) j → NoI S T N n f e it j) := by
  have hM := ha.1
  have hx : hiI W it 0 = W 561 * W 562 - 1 := by rcases hit with rfl | rfl <;> rfl
  refine ⟨fun hg => ?_, fun j hj hg hb => ?_⟩
  · obtain ⟨P, c, p1, p7, fP, p77⟩ := m_cellY (S := S) ha (by omega) hx (hg 0 (by decide))
    rcases hit with rfl | rfl
    · refine ⟨um P 77 (563 + 1 - 1) (P 76 11), ⟨_, rfl, ?_⟩, ?_, by rw [um_na (by decide)]; exact p7, fP.put (by decide)⟩
      · show Rn S 148 0 ([], [some (vR 76), some (vI 1), none, none], T, N) (some (vI 1), (T, _))
        refine Rn.swi (q' := 49) rfl (X_ild rfl <| X_nil) (by first | omega | (simp (disch := omega) only [um_eq, um_na, um_ni, Int.toNat_natCast]; omega)) (by first | rfl | (rw [e]; rfl)) ?_
        refine Rn.cal rfl (X_ald rfl <| X_nil) (vs := [_]) (rest := []) rfl rfl rfl (rcv_v hM.ob (by decide)) (c) ?_
        refine Rn.rz rfl (X_ist rfl (L' := [_, _, _, _]) rfl <| X_ald rfl <| X_gr 8 0 hM.ob ⟨rfl, rfl⟩ rfl rfl <| X_i <| X_ild rfl <| X_add <| X_i <| X_sub <| X_ald rfl <| X_gi 8 11 11 hM.ob ⟨rfl, rfl, rfl⟩ (Or.inl rfl) <| X_is hM.w (by first | omega | (simp (disch := omega) only [um_eq, um_na, um_ni, Int.toNat_natCast]; omega)) (by first | omega | (simp (disch := omega) only [um_eq, um_na, um_ni, Int.toNat_natCast]; omega)) rfl <| X_ild rfl <| X_nil) rfl (by first | exact Or.inl rfl | exact Or.inr rfl | omega)
      · rw [p1]
        exact ha.2.2.2.2.1.put p77
    · refine ⟨um P 77 (563 + 2 - 1) (P 76 11), ⟨_, rfl, ?_⟩, ?_, by rw [um_na (by decide)]; exact p7, fP.put (by decide)⟩
      · show Rn S 148 0 ([], [some (vR 76), some (vI 2), none, none], T, N) (some (vI 1), (T, _))
        refine Rn.swi (q' := 49) rfl (X_ild rfl <| X_nil) (by first | omega | (simp (disch := omega) only [um_eq, um_na, um_ni, Int.toNat_natCast]; omega)) (by first | rfl | (rw [e]; rfl)) ?_
        refine Rn.cal rfl (X_ald rfl <| X_nil) (vs := [_]) (rest := []) rfl rfl rfl (rcv_v hM.ob (by decide)) (c) ?_
        refine Rn.rz rfl (X_ist rfl (L' := [_, _, _, _]) rfl <| X_ald rfl <| X_gr 8 0 hM.ob ⟨rfl, rfl⟩ rfl rfl <| X_i <| X_ild rfl <| X_add <| X_i <| X_sub <| X_ald rfl <| X_gi 8 11 11 hM.ob ⟨rfl, rfl, rfl⟩ (Or.inl rfl) <| X_is hM.w (by first | omega | (simp (disch := omega) only [um_eq, um_na, um_ni, Int.toNat_natCast]; omega)) (by first | omega | (simp (disch := omega) only [um_eq, um_na, um_ni, Int.toNat_natCast]; omega)) rfl <| X_ild rfl <| X_nil) rfl (by first | exact Or.inl rfl | exact Or.inr rfl | omega)
      · rw [p1]
        exact ha.2.2.2.2.1.put p77
  · have ej : j = 0 := by omega
    subst ej
    obtain ⟨P, c, p8, fP, p77⟩ := m_cellN (S := S) ha (by omega) hx hb
    rcases hit with rfl | rfl
    · refine ⟨um P 77 (563 + 1 - 1) (P 76 11), ⟨_, rfl, ?_⟩, by rw [um_na (by decide)]; exact p8, fP.put (by decide)⟩
      show Rn S 148 0 ([], [some (vR 76), some (vI 1), none, none], T, N) (some (vI 0), (T, _))
      refine Rn.swi (q' := 49) rfl (X_ild rfl <| X_nil) (by first | omega | (simp (disch := omega) only [um_eq, um_na, um_ni, Int.toNat_natCast]; omega)) (by first | rfl | (rw [e]; rfl)) ?_
      refine Rn.cal rfl (X_ald rfl <| X_nil) (vs := [_]) (rest := []) rfl rfl rfl (rcv_v hM.ob (by decide)) (c) ?_
      refine Rn.rz rfl (X_ist rfl (L' := [_, _, _, _]) rfl <| X_ald rfl <| X_gr 8 0 hM.ob ⟨rfl, rfl⟩ rfl rfl <| X_i <| X_ild rfl <| X_add <| X_i <| X_sub <| X_ald rfl <| X_gi 8 11 11 hM.ob ⟨rfl, rfl, rfl⟩ (Or.inl rfl) <| X_is hM.w (by first | omega | (simp (disch := omega) only [um_eq, um_na, um_ni, Int.toNat_natCast]; omega)) (by first | omega | (simp (disch := omega) only [um_eq, um_na, um_ni, Int.toNat_natCast]; omega)) rfl <| X_ild rfl <| X_nil) rfl (by first | exact Or.inl rfl | exact Or.inr rfl | omega)
    · refine ⟨um P 77 (563 + 2 - 1) (P 76 11), ⟨_, rfl, ?_⟩, by rw [um_na (by decide)]; exact p8, fP.put (by decide)⟩
      show Rn S 148 0 ([], [some (vR 76), some (vI 2), none, none], T, N) (some (vI 0), (T, _))
      refine Rn.swi (q' := 49) rfl (X_ild rfl <| X_nil) (by first | omega | (simp (disch := omega) only [um_eq, um_na, um_ni, Int.toNat_natCast]; omega)) (by first | rfl | (rw [e]; rfl)) ?_
      refine Rn.cal rfl (X_ald rfl <| X_nil) (vs := [_]) (rest := []) rfl rfl rfl (rcv_v hM.ob (by decide)) (c) ?_
      refine Rn.rz rfl (X_ist rfl (L' := [_, _, _, _]) rfl <| X_ald rfl <| X_gr 8 0 hM.ob ⟨rfl, rfl⟩ rfl rfl <| X_i <| X_ild rfl <| X_add <| X_i <| X_sub <| X_ald rfl <| X_gi 8 11 11 hM.ob ⟨rfl, rfl, rfl⟩ (Or.inl rfl) <| X_is hM.w (by first | omega | (simp (disch := omega) only [um_eq, um_na, um_ni, Int.toNat_natCast]; omega)) (by first | omega | (simp (disch := omega) only [um_eq, um_na, um_ni, Int.toNat_natCast]; omega)) rfl <| X_ild rfl <| X_nil) rfl (by first | exact Or.inl rfl | exact Or.inr rfl | omega)
theorem mi_3 (ha : AtI T N C W K n f e 3) : ((∀ i, i < 2 → gdN f n e 0 (hiI W 3) i) → OkI S T N W n f e 3) ∧ (∀ j, j < 2 → (∀ i, i < j → gdN f n e 0 (hiI W 3) i) → ¬ gdN f n e 0 (hiI W 3) j → NoI S T N n f e 3 j) := by
  have hM := ha.1
  have hc := ha.2.1
  have he := ha.2.2.1
  obtain ⟨-, -, -, -, -, w9, -⟩ := (ha.2.2.2.2.2 (by decide)).wds
  have out : ∀ v P, Cl S 146 [vR 76] (T, N) (some (vI v), (T, P)) → (v = 0 ∨ v = 1) → Cl S 148 [vR 76, vI ((3 : Nat) : Int)] (T, N) (some (vI v), (T, P)) := fun v P c hv => by
    refine ⟨_, rfl, ?_⟩
    show Rn S 148 0 ([], [some (vR 76), some (vI 3), none, none], T, N) (some (vI v), (T, P))
    refine Rn.swi (q' := 72) rfl (X_ild rfl <| X_nil) (by first | omega | (simp (disch := omega) only [um_eq, um_na, um_ni, Int.toNat_natCast]; omega)) (by first | rfl | (rw [e]; rfl)) ?_
    refine Rn.cal rfl (X_ald rfl <| X_nil) (vs := [_]) (rest := []) rfl rfl rfl (rcv_v hM.ob (by decide)) (c) ?_
    refine Rn.rz rfl (X_nil) rfl (by first | exact Or.inl rfl | exact Or.inr rfl | omega)
  refine ⟨fun hg => ?_, fun j hj hg hb => ?_⟩
  · obtain ⟨P, c1, p1, p7, fP, p77⟩ := m_cellY (S := S) ha (by decide) rfl (hg 0 (by decide))
    obtain ⟨Q, c2, q1, q7, fQ, q77⟩ := m_tkY (S := S) (x := 9) hM (hc.fr fP) he p7 rfl (by decide) (by show I32 9; decide) (hg 1 (by decide))
    have g0 : 0 ≤ tV f n (pS f n e 0) ∧ tV f n (pS f n e 0) ≤ W 561 * W 562 - 1 := (hg 0 (by decide)).2
    refine ⟨um Q 77 (571 + P 76 11) (Q 76 11), out 1 _ ⟨_, rfl, ?_⟩ (Or.inr rfl), ?_, by rw [um_na (by decide)]; exact q7, (fP.trans fQ).put (by omega)⟩
    · refine Rn.cal rfl (X_ald rfl <| X_nil) (vs := [_]) (rest := []) rfl rfl rfl (rcv_v hM.ob (by decide)) (c1) ?_
      refine Rn.ine rfl (X_nil) (by first | omega | (simp (disch := omega) only [um_eq, um_na, um_ni, Int.toNat_natCast]; omega)) (fun hc => ?_) (fun hc => absurd hc (by first | omega | decide | (simp (disch := omega) only [um_eq, um_na, um_ni, Int.toNat_natCast]; omega)))
      refine Rn.cal rfl (X_ald rfl <| X_gi 8 11 11 hM.ob ⟨rfl, rfl, rfl⟩ (Or.inl rfl) <| X_ist rfl (L' := [_, _]) rfl <| X_ald rfl <| X_i <| X_i <| X_nil) (vs := [_, _, _]) (rest := []) rfl rfl rfl (rcv_v hM.ob (by decide)) (c2) ?_
      refine Rn.ine rfl (X_nil) (by first | omega | (simp (disch := omega) only [um_eq, um_na, um_ni, Int.toNat_natCast]; omega)) (fun hc => ?_) (fun hc => absurd hc (by first | omega | decide | (simp (disch := omega) only [um_eq, um_na, um_ni, Int.toNat_natCast]; omega)))
      refine Rn.rz rfl (X_ald rfl <| X_gr 8 0 hM.ob ⟨rfl, rfl⟩ rfl rfl <| X_i <| X_ild rfl <| X_add <| X_ald rfl <| X_gi 8 11 11 hM.ob ⟨rfl, rfl, rfl⟩ (Or.inl rfl) <| X_is hM.w (by first | omega | (simp (disch := omega) only [um_eq, um_na, um_ni, Int.toNat_natCast]; omega)) (by first | omega | (simp (disch := omega) only [um_eq, um_na, um_ni, Int.toNat_natCast]; omega)) rfl <| X_i <| X_nil) rfl (by first | exact Or.inl rfl | exact Or.inr rfl | omega)
    · rw [p1, q1]
      exact ha.2.2.2.2.1.put (q77.trans p77)
  · rcases (show j = 0 ∨ j = 1 by omega) with rfl | rfl
    · obtain ⟨P, c1, p8, fP, p77⟩ := m_cellN (S := S) ha (by decide) rfl hb
      refine ⟨P, out 0 P ⟨_, rfl, ?_⟩ (Or.inl rfl), p8, fP⟩
      refine Rn.cal rfl (X_ald rfl <| X_nil) (vs := [_]) (rest := []) rfl rfl rfl (rcv_v hM.ob (by decide)) (c1) ?_
      refine Rn.ine rfl (X_nil) (by first | omega | (simp (disch := omega) only [um_eq, um_na, um_ni, Int.toNat_natCast]; omega)) (fun hc => absurd hc (by first | omega | decide | (simp (disch := omega) only [um_eq, um_na, um_ni, Int.toNat_natCast]; omega))) (fun hc => ?_)
      refine Rn.rz rfl (X_i <| X_nil) rfl (by first | exact Or.inl rfl | exact Or.inr rfl | omega)
    · obtain ⟨P, c1, p1, p7, fP, p77⟩ := m_cellY (S := S) ha (by decide) rfl (hg 0 (by decide))
      obtain ⟨Q, c2, q8, fQ, q77⟩ := m_tkN (S := S) (x := 9) hM (hc.fr fP) he p7 rfl (by decide) (by show I32 9; decide) hb
      refine ⟨Q, out 0 Q ⟨_, rfl, ?_⟩ (Or.inl rfl), q8, fP.trans fQ⟩
      refine Rn.cal rfl (X_ald rfl <| X_nil) (vs := [_]) (rest := []) rfl rfl rfl (rcv_v hM.ob (by decide)) (c1) ?_
      refine Rn.ine rfl (X_nil) (by first | omega | (simp (disch := omega) only [um_eq, um_na, um_ni, Int.toNat_natCast]; omega)) (fun hc => ?_) (fun hc => absurd hc (by first | omega | decide | (simp (disch := omega) only [um_eq, um_na, um_ni, Int.toNat_natCast]; omega)))
      refine Rn.cal rfl (X_ald rfl <| X_gi 8 11 11 hM.ob ⟨rfl, rfl, rfl⟩ (Or.inl rfl) <| X_ist rfl (L' := [_, _]) rfl <| X_ald rfl <| X_i <| X_i <| X_nil) (vs := [_, _, _]) (rest := []) rfl rfl rfl (rcv_v hM.ob (by decide)) (c2) ?_
      refine Rn.ine rfl (X_nil) (by first | omega | (simp (disch := omega) only [um_eq, um_na, um_ni, Int.toNat_natCast]; omega)) (fun hc => absurd hc (by first | omega | decide | (simp (disch := omega) only [um_eq, um_na, um_ni, Int.toNat_natCast]; omega))) (fun hc => ?_)
      refine Rn.rz rfl (X_i <| X_nil) rfl (by first | exact Or.inl rfl | exact Or.inr rfl | omega)
theorem mi_4 (ha : AtI T N C W K n f e 4) : ((∀ i, i < 1 → gdN f n e 0 (hiI W 4) i) → OkI S T N W n f e 4) ∧ (∀ j, j < 1 → (∀ i, i < j → gdN f n e 0 (hiI W 4) i) → ¬ gdN f n e 0 (hiI W 4) j → NoI S T N n f e 4 j) := by
  obtain ⟨hM, hc, he, h7, hw, hR⟩ := ha
  obtain ⟨-, -, -, -, w7, -⟩ := (hR (by decide)).wds
  have w0 := hw 561 (by decide) (by decide)
  have w4 := hw 565 (by decide) (by decide)
  refine ⟨fun hg => ?_, fun j hj hg hb => ?_⟩
  · obtain ⟨P, c, p1, p7, fP, p77⟩ := m_tkY (S := S) (i := 0) (hi := hiI W 4) (x := N 77 561 - 1) hM hc he h7 (by rw [w0]; rfl) (by decide) (by show I32 (W 561 - 1); omega) (hg 0 (by decide))
    refine ⟨um P 77 565 (o_or (P 77 565) (o_shl 1 (P 76 11))), ⟨_, rfl, ?_⟩, ?_, by rw [um_na (by decide)]; exact p7, fP.put (by decide)⟩
    · show Rn S 148 0 ([], [some (vR 76), some (vI 4), none, none], T, N) (some (vI 1), (T, _))
      refine Rn.swi (q' := 77) rfl (X_ild rfl <| X_nil) (by first | omega | (simp (disch := omega) only [um_eq, um_na, um_ni, Int.toNat_natCast]; omega)) (by first | rfl | (rw [e]; rfl)) ?_
      refine Rn.cal rfl (X_ald rfl <| X_i <| X_ald rfl <| X_gr 8 0 hM.ob ⟨rfl, rfl⟩ rfl rfl <| X_i <| X_ia hM.w (by first | omega | (simp (disch := omega) only [um_eq, um_na, um_ni, Int.toNat_natCast]; omega)) (by first | omega | (simp (disch := omega) only [um_eq, um_na, um_ni, Int.toNat_natCast]; omega)) rfl <| X_i <| X_sub <| X_nil) (vs := [_, _, _]) (rest := []) rfl rfl rfl (rcv_v hM.ob (by decide)) (c) ?_
      refine Rn.ieq rfl (X_ist rfl (L' := [_, _, _, _]) rfl <| X_ald rfl <| X_gr 8 0 hM.ob ⟨rfl, rfl⟩ rfl rfl <| X_i <| X_du2 <| X_ia hM.w (by first | omega | (simp (disch := omega) only [um_eq, um_na, um_ni, Int.toNat_natCast]; omega)) (by first | omega | (simp (disch := omega) only [um_eq, um_na, um_ni, Int.toNat_natCast]; omega)) rfl <| X_ild rfl <| X_nil) (by first | omega | (simp (disch := omega) only [um_eq, um_na, um_ni, Int.toNat_natCast]; omega)) (fun hc => absurd hc (by first | omega | decide | (simp (disch := omega) only [um_eq, um_na, um_ni, Int.toNat_natCast]; omega))) (fun hc => ?_)
      refine Rn.jto rfl (X_i <| X_ald rfl <| X_gi 8 11 11 hM.ob ⟨rfl, rfl, rfl⟩ (Or.inl rfl) <| X_shl <| X_nil) ?_
      refine Rn.rz rfl (X_or <| X_is hM.w (by first | omega | (simp (disch := omega) only [um_eq, um_na, um_ni, Int.toNat_natCast]; omega)) (by first | omega | (simp (disch := omega) only [um_eq, um_na, um_ni, Int.toNat_natCast]; omega)) rfl <| X_ild rfl <| X_nil) rfl (by first | exact Or.inl rfl | exact Or.inr rfl | omega)
    · rw [p1, p77, w4]
      exact AgW.put hw p77
  · have ej : j = 0 := by omega
    subst ej
    obtain ⟨P, c, p8, fP, p77⟩ := m_tkN (S := S) (i := 0) (hi := hiI W 4) (x := N 77 561 - 1) hM hc he h7 (by rw [w0]; rfl) (by decide) (by show I32 (W 561 - 1); omega) hb
    refine ⟨um P 77 565 (o_or (P 77 565) 0), ⟨_, rfl, ?_⟩, by rw [um_na (by decide)]; exact p8, fP.put (by decide)⟩
    show Rn S 148 0 ([], [some (vR 76), some (vI 4), none, none], T, N) (some (vI 0), (T, _))
    refine Rn.swi (q' := 77) rfl (X_ild rfl <| X_nil) (by first | omega | (simp (disch := omega) only [um_eq, um_na, um_ni, Int.toNat_natCast]; omega)) (by first | rfl | (rw [e]; rfl)) ?_
    refine Rn.cal rfl (X_ald rfl <| X_i <| X_ald rfl <| X_gr 8 0 hM.ob ⟨rfl, rfl⟩ rfl rfl <| X_i <| X_ia hM.w (by first | omega | (simp (disch := omega) only [um_eq, um_na, um_ni, Int.toNat_natCast]; omega)) (by first | omega | (simp (disch := omega) only [um_eq, um_na, um_ni, Int.toNat_natCast]; omega)) rfl <| X_i <| X_sub <| X_nil) (vs := [_, _, _]) (rest := []) rfl rfl rfl (rcv_v hM.ob (by decide)) (c) ?_
    refine Rn.ieq rfl (X_ist rfl (L' := [_, _, _, _]) rfl <| X_ald rfl <| X_gr 8 0 hM.ob ⟨rfl, rfl⟩ rfl rfl <| X_i <| X_du2 <| X_ia hM.w (by first | omega | (simp (disch := omega) only [um_eq, um_na, um_ni, Int.toNat_natCast]; omega)) (by first | omega | (simp (disch := omega) only [um_eq, um_na, um_ni, Int.toNat_natCast]; omega)) rfl <| X_ild rfl <| X_nil) (by first | omega | (simp (disch := omega) only [um_eq, um_na, um_ni, Int.toNat_natCast]; omega)) (fun hc => ?_) (fun hc => absurd hc (by first | omega | decide | (simp (disch := omega) only [um_eq, um_na, um_ni, Int.toNat_natCast]; omega)))
    refine Rn.fal rfl (X_i <| X_nil) ?_
    refine Rn.rz rfl (X_or <| X_is hM.w (by first | omega | (simp (disch := omega) only [um_eq, um_na, um_ni, Int.toNat_natCast]; omega)) (by first | omega | (simp (disch := omega) only [um_eq, um_na, um_ni, Int.toNat_natCast]; omega)) rfl <| X_ild rfl <| X_nil) rfl (by first | exact Or.inl rfl | exact Or.inr rfl | omega)
theorem mi_5 (ha : AtI T N C W K n f e 5) : OkI S T N W n f e 5 := by
  obtain ⟨hM, hc, he, h7, hw, hR⟩ := ha
  refine ⟨um N 77 566 1, ⟨_, rfl, ?_⟩, hw.put rfl, by rw [um_na (by decide)]; exact h7, FrM.refl.put (by decide)⟩
  show Rn S 148 0 ([], [some (vR 76), some (vI 5), none, none], T, N) (some (vI 1), (T, _))
  refine Rn.swi (q' := 120) rfl (X_ild rfl <| X_nil) (by first | omega | (simp (disch := omega) only [um_eq, um_na, um_ni, Int.toNat_natCast]; omega)) (by first | rfl | (rw [e]; rfl)) ?_
  refine Rn.rz rfl (X_ald rfl <| X_gr 8 0 hM.ob ⟨rfl, rfl⟩ rfl rfl <| X_i <| X_i <| X_is hM.w (by first | omega | (simp (disch := omega) only [um_eq, um_na, um_ni, Int.toNat_natCast]; omega)) (by first | omega | (simp (disch := omega) only [um_eq, um_na, um_ni, Int.toNat_natCast]; omega)) rfl <| X_i <| X_nil) rfl (by first | exact Or.inl rfl | exact Or.inr rfl | omega)
theorem mi_7 (ha : AtI T N C W K n f e 7) : ((∀ i, i < 2 → gdN f n e 0 (hiI W 7) i) → OkI S T N W n f e 7) ∧ (∀ j, j < 2 → (∀ i, i < j → gdN f n e 0 (hiI W 7) i) → ¬ gdN f n e 0 (hiI W 7) j → NoI S T N n f e 7 j) := by
  obtain ⟨hM, hc, he, h7, hw, hR⟩ := ha
  obtain ⟨-, -, -, -, -, -, -, w8⟩ := (hR (by decide)).wds
  have w6 := hw 567 (by decide) (by decide)
  have out : ∀ v P, Cl S 147 [vR 76] (T, N) (some (vI v), (T, P)) → (v = 0 ∨ v = 1) → Cl S 148 [vR 76, vI ((7 : Nat) : Int)] (T, N) (some (vI v), (T, P)) := fun v P c hv => by
    refine ⟨_, rfl, ?_⟩
    show Rn S 148 0 ([], [some (vR 76), some (vI 7), none, none], T, N) (some (vI v), (T, P))
    refine Rn.swi (q' := 136) rfl (X_ild rfl <| X_nil) (by first | omega | (simp (disch := omega) only [um_eq, um_na, um_ni, Int.toNat_natCast]; omega)) (by first | rfl | (rw [e]; rfl)) ?_
    refine Rn.cal rfl (X_ald rfl <| X_nil) (vs := [_]) (rest := []) rfl rfl rfl (rcv_v hM.ob (by decide)) (c) ?_
    refine Rn.rz rfl (X_nil) rfl (by first | exact Or.inl rfl | exact Or.inr rfl | omega)
  refine ⟨fun hg => ?_, fun j hj hg hb => ?_⟩
  · obtain ⟨P, c1, p1, p7, fP, p77⟩ := m_tkY (S := S) (i := 0) (hi := hiI W 7) (x := N 77 567 - 1) hM hc he h7 (by rw [w6]; rfl) (by decide) (by show I32 (W 567 - 1); omega) (hg 0 (by decide))
    obtain ⟨Q, c2, q1, q7, fQ, q77⟩ := m_tkY (S := S) (x := 120) hM (hc.fr fP) he p7 rfl (by decide) (by show I32 120; decide) (hg 1 (by decide))
    have g0 : 0 ≤ tV f n (pS f n e 0) ∧ tV f n (pS f n e 0) ≤ W 567 - 1 := (hg 0 (by decide)).2
    refine ⟨um Q 77 (640 + P 76 11) (Q 76 11), out 1 _ ⟨_, rfl, ?_⟩ (Or.inr rfl), ?_, by rw [um_na (by decide)]; exact q7, (fP.trans fQ).put (by omega)⟩
    · refine Rn.cal rfl (X_ald rfl <| X_i <| X_ald rfl <| X_gr 8 0 hM.ob ⟨rfl, rfl⟩ rfl rfl <| X_i <| X_ia hM.w (by first | omega | (simp (disch := omega) only [um_eq, um_na, um_ni, Int.toNat_natCast]; omega)) (by first | omega | (simp (disch := omega) only [um_eq, um_na, um_ni, Int.toNat_natCast]; omega)) rfl <| X_i <| X_sub <| X_nil) (vs := [_, _, _]) (rest := []) rfl rfl rfl (rcv_v hM.ob (by decide)) (c1) ?_
      refine Rn.ine rfl (X_nil) (by first | omega | (simp (disch := omega) only [um_eq, um_na, um_ni, Int.toNat_natCast]; omega)) (fun hc => ?_) (fun hc => absurd hc (by first | omega | decide | (simp (disch := omega) only [um_eq, um_na, um_ni, Int.toNat_natCast]; omega)))
      refine Rn.cal rfl (X_ald rfl <| X_gi 8 11 11 hM.ob ⟨rfl, rfl, rfl⟩ (Or.inl rfl) <| X_ist rfl (L' := [_, _]) rfl <| X_ald rfl <| X_i <| X_i <| X_nil) (vs := [_, _, _]) (rest := []) rfl rfl rfl (rcv_v hM.ob (by decide)) (c2) ?_
      refine Rn.ine rfl (X_nil) (by first | omega | (simp (disch := omega) only [um_eq, um_na, um_ni, Int.toNat_natCast]; omega)) (fun hc => ?_) (fun hc => absurd hc (by first | omega | decide | (simp (disch := omega) only [um_eq, um_na, um_ni, Int.toNat_natCast]; omega)))
      refine Rn.rz rfl (X_ald rfl <| X_gr 8 0 hM.ob ⟨rfl, rfl⟩ rfl rfl <| X_i <| X_ild rfl <| X_add <| X_ald rfl <| X_gi 8 11 11 hM.ob ⟨rfl, rfl, rfl⟩ (Or.inl rfl) <| X_is hM.w (by first | omega | (simp (disch := omega) only [um_eq, um_na, um_ni, Int.toNat_natCast]; omega)) (by first | omega | (simp (disch := omega) only [um_eq, um_na, um_ni, Int.toNat_natCast]; omega)) rfl <| X_i <| X_nil) rfl (by first | exact Or.inl rfl | exact Or.inr rfl | omega)
    · rw [p1, q1]
      exact AgW.put hw (q77.trans p77)
  · rcases (show j = 0 ∨ j = 1 by omega) with rfl | rfl
    · obtain ⟨P, c1, p8, fP, p77⟩ := m_tkN (S := S) (i := 0) (hi := hiI W 7) (x := N 77 567 - 1) hM hc he h7 (by rw [w6]; rfl) (by decide) (by show I32 (W 567 - 1); omega) hb
      refine ⟨P, out 0 P ⟨_, rfl, ?_⟩ (Or.inl rfl), p8, fP⟩
      refine Rn.cal rfl (X_ald rfl <| X_i <| X_ald rfl <| X_gr 8 0 hM.ob ⟨rfl, rfl⟩ rfl rfl <| X_i <| X_ia hM.w (by first | omega | (simp (disch := omega) only [um_eq, um_na, um_ni, Int.toNat_natCast]; omega)) (by first | omega | (simp (disch := omega) only [um_eq, um_na, um_ni, Int.toNat_natCast]; omega)) rfl <| X_i <| X_sub <| X_nil) (vs := [_, _, _]) (rest := []) rfl rfl rfl (rcv_v hM.ob (by decide)) (c1) ?_
      refine Rn.ine rfl (X_nil) (by first | omega | (simp (disch := omega) only [um_eq, um_na, um_ni, Int.toNat_natCast]; omega)) (fun hc => absurd hc (by first | omega | decide | (simp (disch := omega) only [um_eq, um_na, um_ni, Int.toNat_natCast]; omega))) (fun hc => ?_)
      refine Rn.rz rfl (X_i <| X_nil) rfl (by first | exact Or.inl rfl | exact Or.inr rfl | omega)
    · obtain ⟨P, c1, p1, p7, fP, p77⟩ := m_tkY (S := S) (i := 0) (hi := hiI W 7) (x := N 77 567 - 1) hM hc he h7 (by rw [w6]; rfl) (by decide) (by show I32 (W 567 - 1); omega) (hg 0 (by decide))
      obtain ⟨Q, c2, q8, fQ, q77⟩ := m_tkN (S := S) (x := 120) hM (hc.fr fP) he p7 rfl (by decide) (by show I32 120; decide) hb
      refine ⟨Q, out 0 Q ⟨_, rfl, ?_⟩ (Or.inl rfl), q8, fP.trans fQ⟩
      refine Rn.cal rfl (X_ald rfl <| X_i <| X_ald rfl <| X_gr 8 0 hM.ob ⟨rfl, rfl⟩ rfl rfl <| X_i <| X_ia hM.w (by first | omega | (simp (disch := omega) only [um_eq, um_na, um_ni, Int.toNat_natCast]; omega)) (by first | omega | (simp (disch := omega) only [um_eq, um_na, um_ni, Int.toNat_natCast]; omega)) rfl <| X_i <| X_sub <| X_nil) (vs := [_, _, _]) (rest := []) rfl rfl rfl (rcv_v hM.ob (by decide)) (c1) ?_
      refine Rn.ine rfl (X_nil) (by first | omega | (simp (disch := omega) only [um_eq, um_na, um_ni, Int.toNat_natCast]; omega)) (fun hc => ?_) (fun hc => absurd hc (by first | omega | decide | (simp (disch := omega) only [um_eq, um_na, um_ni, Int.toNat_natCast]; omega)))
      refine Rn.cal rfl (X_ald rfl <| X_gi 8 11 11 hM.ob ⟨rfl, rfl, rfl⟩ (Or.inl rfl) <| X_ist rfl (L' := [_, _]) rfl <| X_ald rfl <| X_i <| X_i <| X_nil) (vs := [_, _, _]) (rest := []) rfl rfl rfl (rcv_v hM.ob (by decide)) (c2) ?_
      refine Rn.ine rfl (X_nil) (by first | omega | (simp (disch := omega) only [um_eq, um_na, um_ni, Int.toNat_natCast]; omega)) (fun hc => absurd hc (by first | omega | decide | (simp (disch := omega) only [um_eq, um_na, um_ni, Int.toNat_natCast]; omega))) (fun hc => ?_)
      refine Rn.rz rfl (X_i <| X_nil) rfl (by first | exact Or.inl rfl | exact Or.inr rfl | omega)
theorem mi_full (hM : isM T) (h4 : N 77 567 = 4) : Cl S 148 [vR 76, vI 6] (T, N) (some (vI 0), (T, N)) := by
  have c : Cl S 145 [vR 76] (T, N) (some (vI 0), (T, N)) := by
    refine ⟨_, rfl, ?_⟩
    refine Rn.cne rfl (X_ald rfl <| X_gr 8 0 hM.ob ⟨rfl, rfl⟩ rfl rfl <| X_i <| X_ia hM.w (by first | omega | (simp (disch := omega) only [um_eq, um_na, um_ni, Int.toNat_natCast]; omega)) (by first | omega | (simp (disch := omega) only [um_eq, um_na, um_ni, Int.toNat_natCast]; omega)) rfl <| X_i <| X_nil) (by first | omega | (simp (disch := omega) only [um_eq, um_na, um_ni, Int.toNat_natCast]; omega)) (by first | omega | (simp (disch := omega) only [um_eq, um_na, um_ni, Int.toNat_natCast]; omega)) (fun hc => absurd hc (by first | omega | decide | (simp (disch := omega) only [um_eq, um_na, um_ni, Int.toNat_natCast]; omega))) (fun hc => ?_)
    refine Rn.rz rfl (X_i <| X_nil) rfl (by first | exact Or.inl rfl | exact Or.inr rfl | omega)
  refine ⟨_, rfl, ?_⟩
  refine Rn.swi (q' := 131) rfl (X_ild rfl <| X_nil) (by first | omega | (simp (disch := omega) only [um_eq, um_na, um_ni, Int.toNat_natCast]; omega)) (by first | rfl | (rw [e]; rfl)) ?_
  refine Rn.cal rfl (X_ald rfl <| X_nil) (vs := [_]) (rest := []) rfl rfl rfl (rcv_v hM.ob (by decide)) (c) ?_
  refine Rn.rz rfl (X_nil) rfl (by first | exact Or.inl rfl | exact Or.inr rfl | omega)
theorem mi_6 (ha : AtI T N C W K n f e 6) (h4 : W 567 < 4) : ((∀ i, i < 5 → gdN f n e 0 (hiI W 6) i) → OkI S T N W n f e 6) ∧ (∀ j, j < 5 → (∀ i, i < j → gdN f n e 0 (hiI W 6) i) → ¬ gdN f n e 0 (hiI W 6) j → NoI S T N n f e 6 j) := by
  obtain ⟨hM, hc, he, h7, hw, hR⟩ := ha
  obtain ⟨-, -, -, -, -, -, -, w8⟩ := (hR (by decide)).wds
  have w6 := hw 567 (by decide) (by decide)
  have hI : ∀ i : Nat, I32 (hiI W 6 i) := fun i => by
    have := mostV_in (k := (i : Int))
    show I32 (mostV (i : Int))
    omega
  have out : ∀ v P, Cl S 145 [vR 76] (T, N) (some (vI v), (T, P)) → (v = 0 ∨ v = 1) → Cl S 148 [vR 76, vI ((6 : Nat) : Int)] (T, N) (some (vI v), (T, P)) := fun v P c hv => by
    refine ⟨_, rfl, ?_⟩
    show Rn S 148 0 ([], [some (vR 76), some (vI 6), none, none], T, N) (some (vI v), (T, P))
    refine Rn.swi (q' := 131) rfl (X_ild rfl <| X_nil) (by first | omega | (simp (disch := omega) only [um_eq, um_na, um_ni, Int.toNat_natCast]; omega)) (by first | rfl | (rw [e]; rfl)) ?_
    refine Rn.cal rfl (X_ald rfl <| X_nil) (vs := [_]) (rest := []) rfl rfl rfl (rcv_v hM.ob (by decide)) (c) ?_
    refine Rn.rz rfl (X_nil) rfl (by first | exact Or.inl rfl | exact Or.inr rfl | omega)
  obtain ⟨s, hs⟩ : ∃ s : Int, W 567 = s := ⟨_, rfl⟩
  rw [hs] at w6 h4 w8
  obtain ⟨R, cc, c6, ct, cf, ca⟩ := c_comes (S := S) (M := N) (r := 561) (k := 0) (rd := 0) (ht := 0) (cd := 0) (pt := 0) hM (by decide) (by decide) (by show 0 ≤ N 77 567; omega) (by show N 77 567 ≤ 3; omega)
  have c6 : R 77 567 = N 77 567 + 1 := c6
  have ct : R 77 (620 + N 77 567) = 0 ∧ R 77 (624 + N 77 567) = 0 ∧ R 77 (628 + N 77 567) = 0 ∧ R 77 (632 + N 77 567) = 0 ∧ R 77 (636 + N 77 567) = 0 ∧ R 77 (640 + N 77 567) = -1 ∧ R 77 (644 + N 77 567) = 0 ∧ R 77 (648 + N 77 567) = 0 := ct
  have cf : ∀ j, j ≠ 567 → (∀ k, 0 ≤ k → k < 8 → j ≠ 620 + 4 * k + N 77 567) → R 77 j = N 77 j := cf
  rw [w6] at c6 ct cf
  have fR : FrM N R := ⟨fun k _ => by rw [ca 76 (by decide)], fun k hk => cf k (by omega) (fun m m0 m1 => by omega), fun a _ a2 => ca a a2⟩
  have start : ∀ r, Rn S 145 39 ([], [some (vR 76), some (vI s), some (vI 1), some (vI 0)], T, R) r → Cl S 145 [vR 76] (T, N) r := fun r hr => by
    refine ⟨_, rfl, ?_⟩
    refine Rn.cne rfl (X_ald rfl <| X_gr 8 0 hM.ob ⟨rfl, rfl⟩ rfl rfl <| X_i <| X_ia hM.w (by first | omega | (simp (disch := omega) only [um_eq, um_na, um_ni, Int.toNat_natCast]; omega)) (by first | omega | (simp (disch := omega) only [um_eq, um_na, um_ni, Int.toNat_natCast]; omega)) rfl <| X_i <| X_nil) (by first | omega | (simp (disch := omega) only [um_eq, um_na, um_ni, Int.toNat_natCast]; omega)) (by first | omega | (simp (disch := omega) only [um_eq, um_na, um_ni, Int.toNat_natCast]; omega)) (fun hc => ?_) (fun hc => absurd hc (by first | omega | decide | (simp (disch := omega) only [um_eq, um_na, um_ni, Int.toNat_natCast]; omega)))
    refine Rn.cal rfl (X_ald rfl <| X_gr 8 0 hM.ob ⟨rfl, rfl⟩ rfl rfl <| X_i <| X_ia hM.w (by first | omega | (simp (disch := omega) only [um_eq, um_na, um_ni, Int.toNat_natCast]; omega)) (by first | omega | (simp (disch := omega) only [um_eq, um_na, um_ni, Int.toNat_natCast]; omega)) rfl <| X_ist rfl (L' := [_, _, _, _]) rfl <| X_ald rfl <| X_i <| X_i <| X_i <| X_i <| X_i <| X_i <| X_nil) (vs := [_, _, _, _, _, _, _]) (rest := []) rfl rfl rfl (rcv_v hM.ob (by decide)) (cc) ?_
    refine Rn.fal rfl (X_i <| X_ist rfl (L' := [_, _, _, _]) rfl <| X_i <| X_ist rfl (L' := [_, _, _, _]) rfl <| X_nil) ?_
    rw [w6]
    exact hr
  -- what is there when i are taken
  have upto : ∀ i : Nat, i ≤ 5 → (∀ j, j < i → gdN f n e 0 (hiI W 6) j) → ∃ P, (∀ r, Rn S 145 39 ([], [some (vR 76), some (vI s), some (vI 1), some (vI (i : Int))], T, P) r → Rn S 145 39 ([], [some (vR 76), some (vI s), some (vI 1), some (vI 0)], T, R) r) ∧ P 76 7 = ((pE f n e i : Nat) : Int) ∧ FrM N P ∧ (∀ j : Nat, j < i → P 77 (620 + 4 * (j : Int) + s) = tV f n (pS f n e j)) ∧ (∀ k, (∀ j : Nat, j < i → k ≠ 620 + 4 * (j : Int) + s) → P 77 k = R 77 k) := by
    intro i
    induction i with
    | zero => exact fun _ _ => ⟨R, fun r hr => hr, by rw [ca 76 (by decide)]; exact h7, fR, fun j hj => by omega, fun _ _ => rfl⟩
    | succ i ihi =>
      intro hi5 hg
      obtain ⟨P, r1, p7, fP, pv, pk⟩ := ihi (by omega) (fun j hj => hg j (by omega))
      obtain ⟨Q, c2, q1, q7, fQ, q77⟩ := m_tkY (S := S) (hi := hiI W 6) (x := mostV (i : Int)) hM (hc.fr fP) he p7 rfl (by decide) (hI i) (hg i (by omega))
      have cm := c_most (S := S) (h := (T, P)) (k := (i : Int)) (by omega)
      refine ⟨um Q 77 (620 + 4 * (i : Int) + s) (Q 76 11), fun r hr => r1 r ?_, by rw [um_na (by decide)]; exact q7, (fP.trans fQ).put (by omega), fun j hj => ?_, fun k hk => ?_⟩
      · refine Rn.cge rfl (X_ild rfl <| X_i <| X_nil) (by first | omega | (simp (disch := omega) only [um_eq, um_na, um_ni, Int.toNat_natCast]; omega)) (by first | omega | (simp (disch := omega) only [um_eq, um_na, um_ni, Int.toNat_natCast]; omega)) (fun hc => absurd hc (by first | omega | decide | (simp (disch := omega) only [um_eq, um_na, um_ni, Int.toNat_natCast]; omega))) (fun hc => ?_)
        refine Rn.ieq rfl (X_ild rfl <| X_nil) (by first | omega | (simp (disch := omega) only [um_eq, um_na, um_ni, Int.toNat_natCast]; omega)) (fun hc => absurd hc (by first | omega | decide | (simp (disch := omega) only [um_eq, um_na, um_ni, Int.toNat_natCast]; omega))) (fun hc => ?_)
        refine Rn.cal rfl (X_ald rfl <| X_i <| X_ild rfl <| X_nil) (vs := [_]) (rest := [_, _]) rfl rfl rfl rfl (cm) ?_
        refine Rn.cal rfl (X_nil) (vs := [_, _, _]) (rest := []) rfl rfl rfl (rcv_v hM.ob (by decide)) (c2) ?_
        refine Rn.jto rfl (X_ist rfl (L' := [_, _, _, _]) rfl <| X_ald rfl <| X_gr 8 0 hM.ob ⟨rfl, rfl⟩ rfl rfl <| X_i <| X_i <| X_ild rfl <| X_mul <| X_add <| X_ild rfl <| X_add <| X_ald rfl <| X_gi 8 11 11 hM.ob ⟨rfl, rfl, rfl⟩ (Or.inl rfl) <| X_is hM.w (by first | omega | (simp (disch := omega) only [um_eq, um_na, um_ni, Int.toNat_natCast]; omega)) (by first | omega | (simp (disch := omega) only [um_eq, um_na, um_ni, Int.toNat_natCast]; omega)) rfl <| X_inc rfl (L' := [_, _, _, _]) rfl <| X_nil) ?_
        exact hr
      · by_cases ej : j = i
        · subst ej
          rw [um_eq]; exact q1
        · rw [um_ni (by omega), q77]
          exact pv j (by omega)
      · rw [um_ni (hk i (by omega)), q77]
        exact pk k (fun j hj => hk j (by omega))
  refine ⟨fun hg => ?_, fun j hj hg hb => ?_⟩
  · obtain ⟨P, r1, p7, fP, pv, pk⟩ := upto 5 (Nat.le_refl 5) hg
    refine ⟨P, out 1 P (start _ (r1 _ ?_)) (Or.inr rfl), ?_, p7, fP⟩
    · refine Rn.cge rfl (X_ild rfl <| X_i <| X_nil) (by first | omega | (simp (disch := omega) only [um_eq, um_na, um_ni, Int.toNat_natCast]; omega)) (by first | omega | (simp (disch := omega) only [um_eq, um_na, um_ni, Int.toNat_natCast]; omega)) (fun hc => ?_) (fun hc => absurd hc (by first | omega | decide | (simp (disch := omega) only [um_eq, um_na, um_ni, Int.toNat_natCast]; omega)))
      refine Rn.rz rfl (X_ild rfl <| X_nil) rfl (by first | exact Or.inl rfl | exact Or.inr rfl | omega)
    · intro k k0 k1
      show _ = slW W (fun i => tV f n (pS f n e i)) k
      have v0 : P 77 (620 + 4 * 0 + s) = tV f n (pS f n e 0) := pv 0 (by decide)
      have v1 : P 77 (620 + 4 * 1 + s) = tV f n (pS f n e 1) := pv 1 (by decide)
      have v2 : P 77 (620 + 4 * 2 + s) = tV f n (pS f n e 2) := pv 2 (by decide)
      have v3 : P 77 (620 + 4 * 3 + s) = tV f n (pS f n e 3) := pv 3 (by decide)
      have v4 : P 77 (620 + 4 * 4 + s) = tV f n (pS f n e 4) := pv 4 (by decide)
      unfold slW
      rw [hs]
      by_cases e0 : k = 567
      · rw [if_pos e0, pk k (fun j hj => by omega), e0]; exact c6
      rw [if_neg e0]
      by_cases e1 : k = 620 + s
      · rw [if_pos e1, e1, show 620 + s = 620 + 4 * 0 + s by omega]; exact v0
      rw [if_neg e1]
      by_cases e2 : k = 624 + s
      · rw [if_pos e2, e2, show 624 + s = 620 + 4 * 1 + s by omega]; exact v1
      rw [if_neg e2]
      by_cases e3 : k = 628 + s
      · rw [if_pos e3, e3, show 628 + s = 620 + 4 * 2 + s by omega]; exact v2
      rw [if_neg e3]
      by_cases e4 : k = 632 + s
      · rw [if_pos e4, e4, show 632 + s = 620 + 4 * 3 + s by omega]; exact v3
      rw [if_neg e4]
      by_cases e5 : k = 636 + s
      · rw [if_pos e5, e5, show 636 + s = 620 + 4 * 4 + s by omega]; exact v4
      rw [if_neg e5]
      have pk' := pk k (fun j hj => by omega)
      by_cases e6 : k = 640 + s
      · rw [if_pos e6, pk', e6]; exact ct.2.2.2.2.2.1
      rw [if_neg e6]
      by_cases e7 : k = 644 + s
      · rw [if_pos e7, pk', e7]; exact ct.2.2.2.2.2.2.1
      rw [if_neg e7]
      by_cases e8 : k = 648 + s
      · rw [if_pos e8, pk', e8]; exact ct.2.2.2.2.2.2.2
      rw [if_neg e8, pk', cf k e0 (fun m m0 m1 => by omega)]
      exact hw k k0 k1
  · obtain ⟨P, r1, p7, fP, pv, pk⟩ := upto j (by omega) hg
    obtain ⟨Q, c2, q8, fQ, q77⟩ := m_tkN (S := S) (hi := hiI W 6) (x := mostV (j : Int)) hM (hc.fr fP) he p7 rfl (by decide) (hI j) hb
    have cm := c_most (S := S) (h := (T, P)) (k := (j : Int)) (by omega)
    refine ⟨um Q 77 (620 + 4 * (j : Int) + s) (Q 76 11), out 0 _ (start _ (r1 _ ?_)) (Or.inl rfl), by rw [um_na (by decide)]; exact q8, (fP.trans fQ).put (by omega)⟩
    by_cases c5 : j + 1 < 5
    · refine Rn.cge rfl (X_ild rfl <| X_i <| X_nil) (by first | omega | (simp (disch := omega) only [um_eq, um_na, um_ni, Int.toNat_natCast]; omega)) (by first | omega | (simp (disch := omega) only [um_eq, um_na, um_ni, Int.toNat_natCast]; omega)) (fun hc => absurd hc (by first | omega | decide | (simp (disch := omega) only [um_eq, um_na, um_ni, Int.toNat_natCast]; omega))) (fun hc => ?_)
      refine Rn.ieq rfl (X_ild rfl <| X_nil) (by first | omega | (simp (disch := omega) only [um_eq, um_na, um_ni, Int.toNat_natCast]; omega)) (fun hc => absurd hc (by first | omega | decide | (simp (disch := omega) only [um_eq, um_na, um_ni, Int.toNat_natCast]; omega))) (fun hc => ?_)
      refine Rn.cal rfl (X_ald rfl <| X_i <| X_ild rfl <| X_nil) (vs := [_]) (rest := [_, _]) rfl rfl rfl rfl (cm) ?_
      refine Rn.cal rfl (X_nil) (vs := [_, _, _]) (rest := []) rfl rfl rfl (rcv_v hM.ob (by decide)) (c2) ?_
      refine Rn.jto rfl (X_ist rfl (L' := [_, _, _, _]) rfl <| X_ald rfl <| X_gr 8 0 hM.ob ⟨rfl, rfl⟩ rfl rfl <| X_i <| X_i <| X_ild rfl <| X_mul <| X_add <| X_ild rfl <| X_add <| X_ald rfl <| X_gi 8 11 11 hM.ob ⟨rfl, rfl, rfl⟩ (Or.inl rfl) <| X_is hM.w (by first | omega | (simp (disch := omega) only [um_eq, um_na, um_ni, Int.toNat_natCast]; omega)) (by first | omega | (simp (disch := omega) only [um_eq, um_na, um_ni, Int.toNat_natCast]; omega)) rfl <| X_inc rfl (L' := [_, _, _, _]) rfl <| X_nil) ?_
      refine Rn.cge rfl (X_ild rfl <| X_i <| X_nil) (by first | omega | (simp (disch := omega) only [um_eq, um_na, um_ni, Int.toNat_natCast]; omega)) (by first | omega | (simp (disch := omega) only [um_eq, um_na, um_ni, Int.toNat_natCast]; omega)) (fun hc => absurd hc (by first | omega | decide | (simp (disch := omega) only [um_eq, um_na, um_ni, Int.toNat_natCast]; omega))) (fun hc => ?_)
      refine Rn.ieq rfl (X_ild rfl <| X_nil) (by first | omega | (simp (disch := omega) only [um_eq, um_na, um_ni, Int.toNat_natCast]; omega)) (fun hc => ?_) (fun hc => absurd hc (by first | omega | decide | (simp (disch := omega) only [um_eq, um_na, um_ni, Int.toNat_natCast]; omega)))
      refine Rn.rz rfl (X_ild rfl <| X_nil) rfl (by first | exact Or.inl rfl | exact Or.inr rfl | omega)
    · refine Rn.cge rfl (X_ild rfl <| X_i <| X_nil) (by first | omega | (simp (disch := omega) only [um_eq, um_na, um_ni, Int.toNat_natCast]; omega)) (by first | omega | (simp (disch := omega) only [um_eq, um_na, um_ni, Int.toNat_natCast]; omega)) (fun hc => absurd hc (by first | omega | decide | (simp (disch := omega) only [um_eq, um_na, um_ni, Int.toNat_natCast]; omega))) (fun hc => ?_)
      refine Rn.ieq rfl (X_ild rfl <| X_nil) (by first | omega | (simp (disch := omega) only [um_eq, um_na, um_ni, Int.toNat_natCast]; omega)) (fun hc => absurd hc (by first | omega | decide | (simp (disch := omega) only [um_eq, um_na, um_ni, Int.toNat_natCast]; omega))) (fun hc => ?_)
      refine Rn.cal rfl (X_ald rfl <| X_i <| X_ild rfl <| X_nil) (vs := [_]) (rest := [_, _]) rfl rfl rfl rfl (cm) ?_
      refine Rn.cal rfl (X_nil) (vs := [_, _, _]) (rest := []) rfl rfl rfl (rcv_v hM.ob (by decide)) (c2) ?_
      refine Rn.jto rfl (X_ist rfl (L' := [_, _, _, _]) rfl <| X_ald rfl <| X_gr 8 0 hM.ob ⟨rfl, rfl⟩ rfl rfl <| X_i <| X_i <| X_ild rfl <| X_mul <| X_add <| X_ild rfl <| X_add <| X_ald rfl <| X_gi 8 11 11 hM.ob ⟨rfl, rfl, rfl⟩ (Or.inl rfl) <| X_is hM.w (by first | omega | (simp (disch := omega) only [um_eq, um_na, um_ni, Int.toNat_natCast]; omega)) (by first | omega | (simp (disch := omega) only [um_eq, um_na, um_ni, Int.toNat_natCast]; omega)) rfl <| X_inc rfl (L' := [_, _, _, _]) rfl <| X_nil) ?_
      refine Rn.cge rfl (X_ild rfl <| X_i <| X_nil) (by first | omega | (simp (disch := omega) only [um_eq, um_na, um_ni, Int.toNat_natCast]; omega)) (by first | omega | (simp (disch := omega) only [um_eq, um_na, um_ni, Int.toNat_natCast]; omega)) (fun hc => ?_) (fun hc => absurd hc (by first | omega | decide | (simp (disch := omega) only [um_eq, um_na, um_ni, Int.toNat_natCast]; omega)))
      refine Rn.rz rfl (X_ild rfl <| X_nil) rfl (by first | exact Or.inl rfl | exact Or.inr rfl | omega)
theorem m_item {it : Nat} (ha : AtI T N C W K n f e it) (hit : it < 8) (h6 : it = 6 → W 567 < 4) : ((∀ i, i < cnI it → gdN f n e (loI it) (hiI W it) i) → OkI S T N W n f e it) ∧ (∀ j, j < cnI it → (∀ i, i < j → gdN f n e (loI it) (hiI W it) i) → ¬ gdN f n e (loI it) (hiI W it) j → NoI S T N n f e it j) := by
  rcases (show it = 0 ∨ it = 1 ∨ it = 2 ∨ it = 3 ∨ it = 4 ∨ it = 5 ∨ it = 6 ∨ it = 7 by omega) with rfl | rfl | rfl | rfl | rfl | rfl | rfl | rfl
  · exact mi_0 ha
  · exact mi_12 ha (Or.inl rfl)
  · exact mi_12 ha (Or.inr rfl)
  · exact mi_3 ha
  · exact mi_4 ha
  · exact ⟨fun _ => mi_5 ha, fun j hj => absurd hj (Nat.not_lt_zero j)⟩
  · exact mi_6 ha (h6 rfl)
  · exact mi_7 ha
end Mitem
