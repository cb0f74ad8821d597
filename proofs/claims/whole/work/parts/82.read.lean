/-! READ: both -/
section Read
variable {S : List Int} {T : List Sh} {M C C' P Q N : Nat → Int → Int} {n s e K items : Nat} {f : Nat → Int} {W : Int → Int} {h : Hp}
/-- the class stands at the token from s on -/
def AtS (C : Nat → Int → Int) (n : Nat) (f : Nat → Int) (s : Nat) : Prop := CTx C n f ∧ C 56 3 = tK f n s ∧ C 56 4 = (s : Int) ∧ C 56 5 = ((tE f n s : Nat) : Int) ∧ s ≤ n
/-- the model stands there -/
def AtT (N : Nat → Int → Int) (n : Nat) (f : Nat → Int) (s : Nat) : Prop := MTx N n f ∧ N 76 7 = ((tE f n s : Nat) : Int) ∧ N 76 8 = (s : Int) ∧ N 76 10 = (if 97 ≤ f s ∧ f s ≤ 122 then 1 else 0)
def FrC (C C' : Nat → Int → Int) : Prop := C' 56 0 = C 56 0 ∧ ∀ a, (a < 28 ∨ 55 ≤ a) → a ≠ 56 → a ≠ 58 → C' a = C a
def FrR (N P : Nat → Int → Int) : Prop := (∀ k, ¬ (7 ≤ k ∧ k ≤ 12) → P 76 k = N 76 k) ∧ (∀ k, k < 561 → P 77 k = N 77 k) ∧ (∀ a, a ≠ 76 → a ≠ 77 → P a = N a)
theorem FrC.trans {C'' : Nat → Int → Int} (h1 : FrC C C') (h2 : FrC C' C'') : FrC C C'' := ⟨by rw [h2.1, h1.1], fun a a1 a2 a3 => by rw [h2.2 a a1 a2 a3, h1.2 a a1 a2 a3]⟩
theorem FrR.trans (h1 : FrR N P) (h2 : FrR P Q) : FrR N Q := ⟨fun k hk => by rw [h2.1 k hk, h1.1 k hk], fun k hk => by rw [h2.2.1 k hk, h1.2.1 k hk], fun a a1 a2 => by rw [h2.2.2 a a1 a2, h1.2.2 a a1 a2]⟩
theorem FrM.r (h1 : FrM N P) : FrR N P := ⟨fun k hk => h1.1 k (by omega), h1.2.1, h1.2.2⟩
theorem OkI_0 {W' : Int → Int} (h1 : OkI S T N W n f e 0) : OkI S T N W' n f e 0 := h1
theorem hiI_0 {W' : Int → Int} : hiI W 0 = hiI W' 0 := by
  funext i
  rfl
/-- the model's item, also where it knows no words yet -/
theorem m_item' {t : Nat} (hM : isM T) (hc : MTx N n f) (he : e ≤ n) (h7 : N 76 7 = (e : Int)) (hw : t ≠ 0 → AgW N W) (hR : t ≠ 0 → Rg C 28 W 561 K) (hit : t < 8) (h6 : t = 6 → W 567 < 4) : ((∀ i, i < cnI t → gdN f n e (loI t) (hiI W t) i) → OkI S T N W n f e t) ∧ (∀ j, j < cnI t → (∀ i, i < j → gdN f n e (loI t) (hiI W t) i) → ¬ gdN f n e (loI t) (hiI W t) j → NoI S T N n f e t j) := by
  by_cases t0 : t = 0
  · subst t0
    have r := m_item (S := S) (C := C) (W := N 77) (K := K) (it := 0) ⟨hM, hc, he, h7, fun _ _ _ => rfl, fun q => absurd rfl q⟩ (by decide) (fun q => by omega)
    rw [hiI_0 (W' := W)] at r
    exact ⟨fun q => OkI_0 (r.1 q), r.2⟩
  · exact m_item ⟨hM, hc, he, h7, hw t0, hR⟩ hit h6
/-- one item by both -/
theorem st_item {fi : Int} (hX : isX T) (hM : isM T) (ha : AtS C n f s) (hR : items ≠ 0 → Rg C 28 W 561 K) (hi9 : items ≤ 1000) (hfi : fi = if items = 0 then 1 else 0) : (∃ C' st, Cl S 39 [vR 56, vR 28, vI fi] (T, C) (some (vI 0), (T, C')) ∧ C' 56 4 = ((st : Nat) : Int) ∧ FrC C C' ∧ st ≤ n ∧ ∀ N, AtT N n f s → (items ≠ 0 → AgW N W) → N 76 12 = (items : Int) → ∃ N', (∀ x, Rn S 149 32 ([], [some (vR 76), x], T, N) (some (vI 0), (T, N'))) ∧ N' 76 8 = (st : Int) ∧ FrR N N') ∨ (∃ C' s2 W', Cl S 39 [vR 56, vR 28, vI fi] (T, C) (some (vI 1), (T, C')) ∧ AtS C' n f s2 ∧ s + 2 ≤ s2 ∧ Rg C' 28 W' 561 K ∧ FrC C C' ∧ ∀ N, AtT N n f s → (items ≠ 0 → AgW N W) → N 76 12 = (items : Int) → ∃ N' x', (∀ r x, Rn S 149 14 ([], [some (vR 76), x'], T, N') r → Rn S 149 32 ([], [some (vR 76), x], T, N) r) ∧ AtT N' n f s2 ∧ AgW N' W' ∧ N' 76 12 = (items : Int) + 1 ∧ FrR N N') := by
  have hO := hX.s2
  obtain ⟨hc, c3, c4, c5, sn⟩ := ha
  have ht := hc.2.1
  have n150 := ht.1
  have ei := tE_in ht sn
  have k4 := tK_in (f := f) (n := n) (s := s)
  have fi01 : (items = 0 ∧ fi = 1) ∨ (items ≠ 0 ∧ fi = 0) := by
    by_cases c : items = 0
    · exact Or.inl ⟨c, by rw [hfi, if_pos c]⟩
    · exact Or.inr ⟨c, by rw [hfi, if_neg c]⟩
  have frr : FrC C C := ⟨rfl, fun _ _ _ _ => rfl⟩
  have frm : ∀ N : Nat → Int → Int, FrR N N := fun N => ⟨fun _ _ => rfl, fun _ _ => rfl, fun _ _ _ => rfl⟩
  by_cases k1 : tK f n s = 1
  case neg =>
    have nl := tK_not1 ht k1
    refine Or.inl ⟨C, s, ⟨_, rfl, ?_⟩, c4, frr, sn, fun N hN hw h12 => ⟨N, fun x => ?_, hN.2.2.1, frm N⟩⟩
    · refine Rn.cne rfl (X_ald rfl <| X_gi 4 3 3 hX.sc ⟨rfl, rfl, rfl⟩ (Or.inl rfl) <| X_i <| X_nil) (by first | omega | (simp (disch := omega) only [um_eq, um_na, um_ni, Int.toNat_natCast]; omega)) (by first | omega | (simp (disch := omega) only [um_eq, um_na, um_ni, Int.toNat_natCast]; omega)) (fun hc => ?_) (fun hc => absurd hc (by first | omega | decide | (simp (disch := omega) only [um_eq, um_na, um_ni, Int.toNat_natCast]; omega)))
      refine Rn.fal rfl (X_i <| X_nil) ?_
      refine Rn.ceq rfl (X_ist rfl (L' := [_, _, _, _, _, _]) rfl <| X_ild rfl <| X_i <| X_nil) (by first | omega | (simp (disch := omega) only [um_eq, um_na, um_ni, Int.toNat_natCast]; omega)) (by first | omega | (simp (disch := omega) only [um_eq, um_na, um_ni, Int.toNat_natCast]; omega)) (fun hc => ?_) (fun hc => absurd hc (by first | omega | decide | (simp (disch := omega) only [um_eq, um_na, um_ni, Int.toNat_natCast]; omega)))
      refine Rn.rz rfl (X_i <| X_nil) rfl (by first | exact Or.inl rfl | exact Or.inr rfl | omega)
    · have n10 : N 76 10 = 0 := by rw [hN.2.2.2, if_neg nl]
      refine Rn.cal rfl (X_ald rfl <| X_nil) (vs := [_]) (rest := []) rfl rfl rfl (rcv_v hM.ob (by decide)) (m_wordNot hM n10) ?_
      refine Rn.ceq rfl (X_ist rfl (L' := [_, _]) rfl <| X_ild rfl <| X_i <| X_nil) (by first | omega | (simp (disch := omega) only [um_eq, um_na, um_ni, Int.toNat_natCast]; omega)) (by first | omega | (simp (disch := omega) only [um_eq, um_na, um_ni, Int.toNat_natCast]; omega)) (fun hc => ?_) (fun hc => absurd hc (by first | omega | decide | (simp (disch := omega) only [um_eq, um_na, um_ni, Int.toNat_natCast]; omega)))
      refine Rn.rz rfl (X_i <| X_nil) rfl (by first | exact Or.inl rfl | exact Or.inr rfl | omega)
  obtain ⟨sn', le, ee⟩ := tK_1 k1
  have e1 := ei.2.2 sn'
  obtain ⟨it, hit⟩ := WdI_ex f s (tE f n s)
  have ci := c_itemOfWord (S := S) hX hc c4 c5 ei.1 ei.2.1 hit
  have mw : ∀ N, AtT N n f s → Cl S 142 [vR 76] (T, N) (some (vI it), (T, N)) := fun N hN => m_wordNow ⟨hM, hN.1, hN.2.1, hN.2.2.1, by omega, by omega, by rw [hN.2.2.2, if_pos le]⟩ hit
  have it8 : -1 ≤ it ∧ it < 8 := by
    rcases hit with ⟨q, -⟩ | ⟨a, q1, q2, q3, -⟩ <;> omega
  by_cases im : it = -1
  · refine Or.inl ⟨C, s, ⟨_, rfl, ?_⟩, c4, frr, sn, fun N hN hw h12 => ⟨N, fun x => ?_, hN.2.2.1, frm N⟩⟩
    · refine Rn.cne rfl (X_ald rfl <| X_gi 4 3 3 hX.sc ⟨rfl, rfl, rfl⟩ (Or.inl rfl) <| X_i <| X_nil) (by first | omega | (simp (disch := omega) only [um_eq, um_na, um_ni, Int.toNat_natCast]; omega)) (by first | omega | (simp (disch := omega) only [um_eq, um_na, um_ni, Int.toNat_natCast]; omega)) (fun hc => absurd hc (by first | omega | decide | (simp (disch := omega) only [um_eq, um_na, um_ni, Int.toNat_natCast]; omega))) (fun hc => ?_)
      refine Rn.cal rfl (X_ald rfl <| X_nil) (vs := [_]) (rest := []) rfl rfl rfl (rcv_v hX.sc (by decide)) (ci) ?_
      refine Rn.jto rfl (X_nil) ?_
      refine Rn.ceq rfl (X_ist rfl (L' := [_, _, _, _, _, _]) rfl <| X_ild rfl <| X_i <| X_nil) (by first | omega | (simp (disch := omega) only [um_eq, um_na, um_ni, Int.toNat_natCast]; omega)) (by first | omega | (simp (disch := omega) only [um_eq, um_na, um_ni, Int.toNat_natCast]; omega)) (fun hc => ?_) (fun hc => absurd hc (by first | omega | decide | (simp (disch := omega) only [um_eq, um_na, um_ni, Int.toNat_natCast]; omega)))
      refine Rn.rz rfl (X_i <| X_nil) rfl (by first | exact Or.inl rfl | exact Or.inr rfl | omega)
    · refine Rn.cal rfl (X_ald rfl <| X_nil) (vs := [_]) (rest := []) rfl rfl rfl (rcv_v hM.ob (by decide)) (mw N hN) ?_
      refine Rn.ceq rfl (X_ist rfl (L' := [_, _]) rfl <| X_ild rfl <| X_i <| X_nil) (by first | omega | (simp (disch := omega) only [um_eq, um_na, um_ni, Int.toNat_natCast]; omega)) (by first | omega | (simp (disch := omega) only [um_eq, um_na, um_ni, Int.toNat_natCast]; omega)) (fun hc => ?_) (fun hc => absurd hc (by first | omega | decide | (simp (disch := omega) only [um_eq, um_na, um_ni, Int.toNat_natCast]; omega)))
      refine Rn.rz rfl (X_i <| X_nil) rfl (by first | exact Or.inl rfl | exact Or.inr rfl | omega)
  obtain ⟨t, rfl⟩ : ∃ t : Nat, it = (t : Int) := ⟨it.toNat, by omega⟩
  have t8 : t < 8 := by omega
  by_cases hm : t = 0 ↔ items = 0
  case neg =>
    refine Or.inl ⟨C, s, ⟨_, rfl, ?_⟩, c4, frr, sn, fun N hN hw h12 => ⟨N, fun x => ?_, hN.2.2.1, frm N⟩⟩
    · by_cases t0 : t = 0
      · refine Rn.cne rfl (X_ald rfl <| X_gi 4 3 3 hX.sc ⟨rfl, rfl, rfl⟩ (Or.inl rfl) <| X_i <| X_nil) (by first | omega | (simp (disch := omega) only [um_eq, um_na, um_ni, Int.toNat_natCast]; omega)) (by first | omega | (simp (disch := omega) only [um_eq, um_na, um_ni, Int.toNat_natCast]; omega)) (fun hc => absurd hc (by first | omega | decide | (simp (disch := omega) only [um_eq, um_na, um_ni, Int.toNat_natCast]; omega))) (fun hc => ?_)
        refine Rn.cal rfl (X_ald rfl <| X_nil) (vs := [_]) (rest := []) rfl rfl rfl (rcv_v hX.sc (by decide)) (ci) ?_
        refine Rn.jto rfl (X_nil) ?_
        refine Rn.ceq rfl (X_ist rfl (L' := [_, _, _, _, _, _]) rfl <| X_ild rfl <| X_i <| X_nil) (by first | omega | (simp (disch := omega) only [um_eq, um_na, um_ni, Int.toNat_natCast]; omega)) (by first | omega | (simp (disch := omega) only [um_eq, um_na, um_ni, Int.toNat_natCast]; omega)) (fun hc => absurd hc (by first | omega | decide | (simp (disch := omega) only [um_eq, um_na, um_ni, Int.toNat_natCast]; omega))) (fun hc => ?_)
        refine Rn.ine rfl (X_ild rfl <| X_nil) (by first | omega | (simp (disch := omega) only [um_eq, um_na, um_ni, Int.toNat_natCast]; omega)) (fun hc => absurd hc (by first | omega | decide | (simp (disch := omega) only [um_eq, um_na, um_ni, Int.toNat_natCast]; omega))) (fun hc => ?_)
        refine Rn.jto rfl (X_i <| X_nil) ?_
        refine Rn.ceq rfl (X_ild rfl <| X_nil) (by first | omega | (simp (disch := omega) only [um_eq, um_na, um_ni, Int.toNat_natCast]; omega)) (by first | omega | (simp (disch := omega) only [um_eq, um_na, um_ni, Int.toNat_natCast]; omega)) (fun hc => absurd hc (by first | omega | decide | (simp (disch := omega) only [um_eq, um_na, um_ni, Int.toNat_natCast]; omega))) (fun hc => ?_)
        refine Rn.rz rfl (X_i <| X_nil) rfl (by first | exact Or.inl rfl | exact Or.inr rfl | omega)
      · refine Rn.cne rfl (X_ald rfl <| X_gi 4 3 3 hX.sc ⟨rfl, rfl, rfl⟩ (Or.inl rfl) <| X_i <| X_nil) (by first | omega | (simp (disch := omega) only [um_eq, um_na, um_ni, Int.toNat_natCast]; omega)) (by first | omega | (simp (disch := omega) only [um_eq, um_na, um_ni, Int.toNat_natCast]; omega)) (fun hc => absurd hc (by first | omega | decide | (simp (disch := omega) only [um_eq, um_na, um_ni, Int.toNat_natCast]; omega))) (fun hc => ?_)
        refine Rn.cal rfl (X_ald rfl <| X_nil) (vs := [_]) (rest := []) rfl rfl rfl (rcv_v hX.sc (by decide)) (ci) ?_
        refine Rn.jto rfl (X_nil) ?_
        refine Rn.ceq rfl (X_ist rfl (L' := [_, _, _, _, _, _]) rfl <| X_ild rfl <| X_i <| X_nil) (by first | omega | (simp (disch := omega) only [um_eq, um_na, um_ni, Int.toNat_natCast]; omega)) (by first | omega | (simp (disch := omega) only [um_eq, um_na, um_ni, Int.toNat_natCast]; omega)) (fun hc => absurd hc (by first | omega | decide | (simp (disch := omega) only [um_eq, um_na, um_ni, Int.toNat_natCast]; omega))) (fun hc => ?_)
        refine Rn.ine rfl (X_ild rfl <| X_nil) (by first | omega | (simp (disch := omega) only [um_eq, um_na, um_ni, Int.toNat_natCast]; omega)) (fun hc => ?_) (fun hc => absurd hc (by first | omega | decide | (simp (disch := omega) only [um_eq, um_na, um_ni, Int.toNat_natCast]; omega)))
        refine Rn.fal rfl (X_i <| X_nil) ?_
        refine Rn.ceq rfl (X_ild rfl <| X_nil) (by first | omega | (simp (disch := omega) only [um_eq, um_na, um_ni, Int.toNat_natCast]; omega)) (by first | omega | (simp (disch := omega) only [um_eq, um_na, um_ni, Int.toNat_natCast]; omega)) (fun hc => absurd hc (by first | omega | decide | (simp (disch := omega) only [um_eq, um_na, um_ni, Int.toNat_natCast]; omega))) (fun hc => ?_)
        refine Rn.rz rfl (X_i <| X_nil) rfl (by first | exact Or.inl rfl | exact Or.inr rfl | omega)
    · by_cases t0 : t = 0
      · refine Rn.cal rfl (X_ald rfl <| X_nil) (vs := [_]) (rest := []) rfl rfl rfl (rcv_v hM.ob (by decide)) (mw N hN) ?_
        refine Rn.ceq rfl (X_ist rfl (L' := [_, _]) rfl <| X_ild rfl <| X_i <| X_nil) (by first | omega | (simp (disch := omega) only [um_eq, um_na, um_ni, Int.toNat_natCast]; omega)) (by first | omega | (simp (disch := omega) only [um_eq, um_na, um_ni, Int.toNat_natCast]; omega)) (fun hc => absurd hc (by first | omega | decide | (simp (disch := omega) only [um_eq, um_na, um_ni, Int.toNat_natCast]; omega))) (fun hc => ?_)
        refine Rn.ine rfl (X_ild rfl <| X_nil) (by first | omega | (simp (disch := omega) only [um_eq, um_na, um_ni, Int.toNat_natCast]; omega)) (fun hc => absurd hc (by first | omega | decide | (simp (disch := omega) only [um_eq, um_na, um_ni, Int.toNat_natCast]; omega))) (fun hc => ?_)
        refine Rn.jto rfl (X_i <| X_nil) ?_
        refine Rn.ine rfl (X_ald rfl <| X_gi 8 12 12 hM.ob ⟨rfl, rfl, rfl⟩ (Or.inl rfl) <| X_nil) (by first | omega | (simp (disch := omega) only [um_eq, um_na, um_ni, Int.toNat_natCast]; omega)) (fun hc => ?_) (fun hc => absurd hc (by first | omega | decide | (simp (disch := omega) only [um_eq, um_na, um_ni, Int.toNat_natCast]; omega)))
        refine Rn.fal rfl (X_i <| X_nil) ?_
        refine Rn.cne rfl (X_nil) (by first | omega | (simp (disch := omega) only [um_eq, um_na, um_ni, Int.toNat_natCast]; omega)) (by first | omega | (simp (disch := omega) only [um_eq, um_na, um_ni, Int.toNat_natCast]; omega)) (fun hc => ?_) (fun hc => absurd hc (by first | omega | decide | (simp (disch := omega) only [um_eq, um_na, um_ni, Int.toNat_natCast]; omega)))
        refine Rn.rz rfl (X_i <| X_nil) rfl (by first | exact Or.inl rfl | exact Or.inr rfl | omega)
      · refine Rn.cal rfl (X_ald rfl <| X_nil) (vs := [_]) (rest := []) rfl rfl rfl (rcv_v hM.ob (by decide)) (mw N hN) ?_
        refine Rn.ceq rfl (X_ist rfl (L' := [_, _]) rfl <| X_ild rfl <| X_i <| X_nil) (by first | omega | (simp (disch := omega) only [um_eq, um_na, um_ni, Int.toNat_natCast]; omega)) (by first | omega | (simp (disch := omega) only [um_eq, um_na, um_ni, Int.toNat_natCast]; omega)) (fun hc => absurd hc (by first | omega | decide | (simp (disch := omega) only [um_eq, um_na, um_ni, Int.toNat_natCast]; omega))) (fun hc => ?_)
        refine Rn.ine rfl (X_ild rfl <| X_nil) (by first | omega | (simp (disch := omega) only [um_eq, um_na, um_ni, Int.toNat_natCast]; omega)) (fun hc => ?_) (fun hc => absurd hc (by first | omega | decide | (simp (disch := omega) only [um_eq, um_na, um_ni, Int.toNat_natCast]; omega)))
        refine Rn.fal rfl (X_i <| X_nil) ?_
        refine Rn.ine rfl (X_ald rfl <| X_gi 8 12 12 hM.ob ⟨rfl, rfl, rfl⟩ (Or.inl rfl) <| X_nil) (by first | omega | (simp (disch := omega) only [um_eq, um_na, um_ni, Int.toNat_natCast]; omega)) (fun hc => absurd hc (by first | omega | decide | (simp (disch := omega) only [um_eq, um_na, um_ni, Int.toNat_natCast]; omega))) (fun hc => ?_)
        refine Rn.jto rfl (X_i <| X_nil) ?_
        refine Rn.cne rfl (X_nil) (by first | omega | (simp (disch := omega) only [um_eq, um_na, um_ni, Int.toNat_natCast]; omega)) (by first | omega | (simp (disch := omega) only [um_eq, um_na, um_ni, Int.toNat_natCast]; omega)) (fun hc => ?_) (fun hc => absurd hc (by first | omega | decide | (simp (disch := omega) only [um_eq, um_na, um_ni, Int.toNat_natCast]; omega)))
        refine Rn.rz rfl (X_i <| X_nil) rfl (by first | exact Or.inl rfl | exact Or.inr rfl | omega)
  have s37 : ∀ r, Rn S 39 37 ([], [some (vR 56), some (vR 28), some (vI fi), some (vI (t : Int)), none, none], T, C) r → Cl S 39 [vR 56, vR 28, vI fi] (T, C) r := fun r hr => by
    refine ⟨_, rfl, ?_⟩
    by_cases t0 : t = 0
    · refine Rn.cne rfl (X_ald rfl <| X_gi 4 3 3 hX.sc ⟨rfl, rfl, rfl⟩ (Or.inl rfl) <| X_i <| X_nil) (by first | omega | (simp (disch := omega) only [um_eq, um_na, um_ni, Int.toNat_natCast]; omega)) (by first | omega | (simp (disch := omega) only [um_eq, um_na, um_ni, Int.toNat_natCast]; omega)) (fun hc => absurd hc (by first | omega | decide | (simp (disch := omega) only [um_eq, um_na, um_ni, Int.toNat_natCast]; omega))) (fun hc => ?_)
      refine Rn.cal rfl (X_ald rfl <| X_nil) (vs := [_]) (rest := []) rfl rfl rfl (rcv_v hX.sc (by decide)) (ci) ?_
      refine Rn.jto rfl (X_nil) ?_
      refine Rn.ceq rfl (X_ist rfl (L' := [_, _, _, _, _, _]) rfl <| X_ild rfl <| X_i <| X_nil) (by first | omega | (simp (disch := omega) only [um_eq, um_na, um_ni, Int.toNat_natCast]; omega)) (by first | omega | (simp (disch := omega) only [um_eq, um_na, um_ni, Int.toNat_natCast]; omega)) (fun hc => absurd hc (by first | omega | decide | (simp (disch := omega) only [um_eq, um_na, um_ni, Int.toNat_natCast]; omega))) (fun hc => ?_)
      refine Rn.ine rfl (X_ild rfl <| X_nil) (by first | omega | (simp (disch := omega) only [um_eq, um_na, um_ni, Int.toNat_natCast]; omega)) (fun hc => absurd hc (by first | omega | decide | (simp (disch := omega) only [um_eq, um_na, um_ni, Int.toNat_natCast]; omega))) (fun hc => ?_)
      refine Rn.jto rfl (X_i <| X_nil) ?_
      refine Rn.ceq rfl (X_ild rfl <| X_nil) (by first | omega | (simp (disch := omega) only [um_eq, um_na, um_ni, Int.toNat_natCast]; omega)) (by first | omega | (simp (disch := omega) only [um_eq, um_na, um_ni, Int.toNat_natCast]; omega)) (fun hc => ?_) (fun hc => absurd hc (by first | omega | decide | (simp (disch := omega) only [um_eq, um_na, um_ni, Int.toNat_natCast]; omega)))
      exact hr
    · refine Rn.cne rfl (X_ald rfl <| X_gi 4 3 3 hX.sc ⟨rfl, rfl, rfl⟩ (Or.inl rfl) <| X_i <| X_nil) (by first | omega | (simp (disch := omega) only [um_eq, um_na, um_ni, Int.toNat_natCast]; omega)) (by first | omega | (simp (disch := omega) only [um_eq, um_na, um_ni, Int.toNat_natCast]; omega)) (fun hc => absurd hc (by first | omega | decide | (simp (disch := omega) only [um_eq, um_na, um_ni, Int.toNat_natCast]; omega))) (fun hc => ?_)
      refine Rn.cal rfl (X_ald rfl <| X_nil) (vs := [_]) (rest := []) rfl rfl rfl (rcv_v hX.sc (by decide)) (ci) ?_
      refine Rn.jto rfl (X_nil) ?_
      refine Rn.ceq rfl (X_ist rfl (L' := [_, _, _, _, _, _]) rfl <| X_ild rfl <| X_i <| X_nil) (by first | omega | (simp (disch := omega) only [um_eq, um_na, um_ni, Int.toNat_natCast]; omega)) (by first | omega | (simp (disch := omega) only [um_eq, um_na, um_ni, Int.toNat_natCast]; omega)) (fun hc => absurd hc (by first | omega | decide | (simp (disch := omega) only [um_eq, um_na, um_ni, Int.toNat_natCast]; omega))) (fun hc => ?_)
      refine Rn.ine rfl (X_ild rfl <| X_nil) (by first | omega | (simp (disch := omega) only [um_eq, um_na, um_ni, Int.toNat_natCast]; omega)) (fun hc => ?_) (fun hc => absurd hc (by first | omega | decide | (simp (disch := omega) only [um_eq, um_na, um_ni, Int.toNat_natCast]; omega)))
      refine Rn.fal rfl (X_i <| X_nil) ?_
      refine Rn.ceq rfl (X_ild rfl <| X_nil) (by first | omega | (simp (disch := omega) only [um_eq, um_na, um_ni, Int.toNat_natCast]; omega)) (by first | omega | (simp (disch := omega) only [um_eq, um_na, um_ni, Int.toNat_natCast]; omega)) (fun hc => ?_) (fun hc => absurd hc (by first | omega | decide | (simp (disch := omega) only [um_eq, um_na, um_ni, Int.toNat_natCast]; omega)))
      exact hr
  have m66 : ∀ N, AtT N n f s → N 76 12 = (items : Int) → ∀ r x, Rn S 149 66 ([], [some (vR 76), some (vI (t : Int))], T, N) r → Rn S 149 32 ([], [some (vR 76), x], T, N) r := fun N hN h12 r x hr => by
    by_cases t0 : t = 0
    · refine Rn.cal rfl (X_ald rfl <| X_nil) (vs := [_]) (rest := []) rfl rfl rfl (rcv_v hM.ob (by decide)) (mw N hN) ?_
      refine Rn.ceq rfl (X_ist rfl (L' := [_, _]) rfl <| X_ild rfl <| X_i <| X_nil) (by first | omega | (simp (disch := omega) only [um_eq, um_na, um_ni, Int.toNat_natCast]; omega)) (by first | omega | (simp (disch := omega) only [um_eq, um_na, um_ni, Int.toNat_natCast]; omega)) (fun hc => absurd hc (by first | omega | decide | (simp (disch := omega) only [um_eq, um_na, um_ni, Int.toNat_natCast]; omega))) (fun hc => ?_)
      refine Rn.ine rfl (X_ild rfl <| X_nil) (by first | omega | (simp (disch := omega) only [um_eq, um_na, um_ni, Int.toNat_natCast]; omega)) (fun hc => absurd hc (by first | omega | decide | (simp (disch := omega) only [um_eq, um_na, um_ni, Int.toNat_natCast]; omega))) (fun hc => ?_)
      refine Rn.jto rfl (X_i <| X_nil) ?_
      refine Rn.ine rfl (X_ald rfl <| X_gi 8 12 12 hM.ob ⟨rfl, rfl, rfl⟩ (Or.inl rfl) <| X_nil) (by first | omega | (simp (disch := omega) only [um_eq, um_na, um_ni, Int.toNat_natCast]; omega)) (fun hc => absurd hc (by first | omega | decide | (simp (disch := omega) only [um_eq, um_na, um_ni, Int.toNat_natCast]; omega))) (fun hc => ?_)
      refine Rn.jto rfl (X_i <| X_nil) ?_
      refine Rn.cne rfl (X_nil) (by first | omega | (simp (disch := omega) only [um_eq, um_na, um_ni, Int.toNat_natCast]; omega)) (by first | omega | (simp (disch := omega) only [um_eq, um_na, um_ni, Int.toNat_natCast]; omega)) (fun hc => absurd hc (by first | omega | decide | (simp (disch := omega) only [um_eq, um_na, um_ni, Int.toNat_natCast]; omega))) (fun hc => ?_)
      exact hr
    · refine Rn.cal rfl (X_ald rfl <| X_nil) (vs := [_]) (rest := []) rfl rfl rfl (rcv_v hM.ob (by decide)) (mw N hN) ?_
      refine Rn.ceq rfl (X_ist rfl (L' := [_, _]) rfl <| X_ild rfl <| X_i <| X_nil) (by first | omega | (simp (disch := omega) only [um_eq, um_na, um_ni, Int.toNat_natCast]; omega)) (by first | omega | (simp (disch := omega) only [um_eq, um_na, um_ni, Int.toNat_natCast]; omega)) (fun hc => absurd hc (by first | omega | decide | (simp (disch := omega) only [um_eq, um_na, um_ni, Int.toNat_natCast]; omega))) (fun hc => ?_)
      refine Rn.ine rfl (X_ild rfl <| X_nil) (by first | omega | (simp (disch := omega) only [um_eq, um_na, um_ni, Int.toNat_natCast]; omega)) (fun hc => ?_) (fun hc => absurd hc (by first | omega | decide | (simp (disch := omega) only [um_eq, um_na, um_ni, Int.toNat_natCast]; omega)))
      refine Rn.fal rfl (X_i <| X_nil) ?_
      refine Rn.ine rfl (X_ald rfl <| X_gi 8 12 12 hM.ob ⟨rfl, rfl, rfl⟩ (Or.inl rfl) <| X_nil) (by first | omega | (simp (disch := omega) only [um_eq, um_na, um_ni, Int.toNat_natCast]; omega)) (fun hc => ?_) (fun hc => absurd hc (by first | omega | decide | (simp (disch := omega) only [um_eq, um_na, um_ni, Int.toNat_natCast]; omega)))
      refine Rn.fal rfl (X_i <| X_nil) ?_
      refine Rn.cne rfl (X_nil) (by first | omega | (simp (disch := omega) only [um_eq, um_na, um_ni, Int.toNat_natCast]; omega)) (by first | omega | (simp (disch := omega) only [um_eq, um_na, um_ni, Int.toNat_natCast]; omega)) (fun hc => absurd hc (by first | omega | decide | (simp (disch := omega) only [um_eq, um_na, um_ni, Int.toNat_natCast]; omega))) (fun hc => ?_)
      exact hr
  have hRt : t ≠ 0 → Rg C 28 W 561 K := fun q => hR (fun z => q (hm.mpr z))
  by_cases fu : t = 6 ∧ W 567 = 4
  · obtain ⟨rfl, w4⟩ := fu
    have hR6 := hRt (by decide)
    obtain ⟨-, -, -, c6, -⟩ := hR6.wds
    refine Or.inl ⟨C, s, s37 _ ?_, c4, frr, sn, fun N hN hw h12 => ⟨N, fun x => m66 N hN h12 _ x ?_, hN.2.2.1, frm N⟩⟩
    · refine Rn.cne rfl (X_ild rfl <| X_i <| X_nil) (by first | omega | (simp (disch := omega) only [um_eq, um_na, um_ni, Int.toNat_natCast]; omega)) (by first | omega | (simp (disch := omega) only [um_eq, um_na, um_ni, Int.toNat_natCast]; omega)) (fun hc => absurd hc (by first | omega | decide | (simp (disch := omega) only [um_eq, um_na, um_ni, Int.toNat_natCast]; omega))) (fun hc => ?_)
      refine Rn.clt rfl (X_ald rfl <| X_gr 6 1 hO.st ⟨rfl, rfl⟩ rfl rfl <| X_gi 0 1 1 hO.be ⟨rfl, rfl, rfl⟩ (Or.inl rfl) <| X_i <| X_nil) (by first | omega | (simp (disch := omega) only [um_eq, um_na, um_ni, Int.toNat_natCast]; omega)) (by first | omega | (simp (disch := omega) only [um_eq, um_na, um_ni, Int.toNat_natCast]; omega)) (fun hc => absurd hc (by first | omega | decide | (simp (disch := omega) only [um_eq, um_na, um_ni, Int.toNat_natCast]; omega))) (fun hc => ?_)
      refine Rn.rz rfl (X_i <| X_nil) rfl (by first | exact Or.inl rfl | exact Or.inr rfl | omega)
    · have a4 : N 77 567 = 4 := by rw [hw (fun z => absurd (hm.mpr z) (by decide)) 567 (by decide) (by decide)]; exact w4
      have cf := mi_full (S := S) hM a4
      refine Rn.cal rfl (X_ald rfl <| X_ild rfl <| X_nil) (vs := [_, _]) (rest := []) rfl rfl rfl (rcv_v hM.ob (by decide)) (cf) ?_
      refine Rn.ine rfl (X_nil) (by first | omega | (simp (disch := omega) only [um_eq, um_na, um_ni, Int.toNat_natCast]; omega)) (fun hc => absurd hc (by first | omega | decide | (simp (disch := omega) only [um_eq, um_na, um_ni, Int.toNat_natCast]; omega))) (fun hc => ?_)
      refine Rn.rz rfl (X_i <| X_nil) rfl (by first | exact Or.inl rfl | exact Or.inr rfl | omega)
  have h6 : t = 6 → W 567 < 4 := fun q => by
    have := (hRt (by omega)).wds.2.2.2.2.2.2.2
    have : ¬ W 567 = 4 := fun z => fu ⟨q, z⟩
    omega
  have s56 : ∀ r, Rn S 39 56 ([], [some (vR 56), some (vR 28), some (vI fi), some (vI (t : Int)), none, none], T, C) r → Cl S 39 [vR 56, vR 28, vI fi] (T, C) r := fun r hr => by
    refine s37 r ?_
    by_cases t6 : t = 6
    · have c6 := (hRt (by omega)).wds.2.2.2.1
      have w8 := (hRt (by omega)).wds.2.2.2.2.2.2.2
      have w4 := h6 t6
      refine Rn.cne rfl (X_ild rfl <| X_i <| X_nil) (by first | omega | (simp (disch := omega) only [um_eq, um_na, um_ni, Int.toNat_natCast]; omega)) (by first | omega | (simp (disch := omega) only [um_eq, um_na, um_ni, Int.toNat_natCast]; omega)) (fun hc => absurd hc (by first | omega | decide | (simp (disch := omega) only [um_eq, um_na, um_ni, Int.toNat_natCast]; omega))) (fun hc => ?_)
      refine Rn.clt rfl (X_ald rfl <| X_gr 6 1 hO.st ⟨rfl, rfl⟩ rfl rfl <| X_gi 0 1 1 hO.be ⟨rfl, rfl, rfl⟩ (Or.inl rfl) <| X_i <| X_nil) (by first | omega | (simp (disch := omega) only [um_eq, um_na, um_ni, Int.toNat_natCast]; omega)) (by first | omega | (simp (disch := omega) only [um_eq, um_na, um_ni, Int.toNat_natCast]; omega)) (fun hc => ?_) (fun hc => absurd hc (by first | omega | decide | (simp (disch := omega) only [um_eq, um_na, um_ni, Int.toNat_natCast]; omega)))
      exact hr
    · refine Rn.cne rfl (X_ild rfl <| X_i <| X_nil) (by first | omega | (simp (disch := omega) only [um_eq, um_na, um_ni, Int.toNat_natCast]; omega)) (by first | omega | (simp (disch := omega) only [um_eq, um_na, um_ni, Int.toNat_natCast]; omega)) (fun hc => ?_) (fun hc => absurd hc (by first | omega | decide | (simp (disch := omega) only [um_eq, um_na, um_ni, Int.toNat_natCast]; omega)))
      exact hr
  obtain ⟨C1, cn, q3, q4, q5, q6, q0, qa⟩ := c_next (S := S) hX hc ei.2.1 c5
  generalize hE : tE f n s = e at *
  have at0 : AtN C1 C1 f n e 0 := ⟨q3, q4, q5, q6, rfl, fun _ _ _ => rfl, fun j hj => by omega⟩
  have hc1 : CTx C1 n f := hc.cg q0 (qa 57 (by decide))
  have hR1 : t ≠ 0 → Rg C1 28 W 561 K := fun q => (hRt q).cg (fun a a1 a2 _ => qa a (by omega)) (Nat.le_refl K)
  have fr1 : FrC C C1 := ⟨q0, fun a _ a2 _ => qa a a2⟩
  have cn5 := cnI_at (S := S) t8
  obtain ⟨nb, na⟩ := c_numbers (S := S) (C := C1) (it := t) (c := cnI t) (hi := hiI W t) (lo := loI t) (b2 := fi) (x5 := none) hX hc1 ei.2.1 t8 cn5.2 cn5.1 rfl (fun i P hi hP => c_mostOf hX hR1 t8 hi hP) (fun i hi => hiI_in hR1 t8 hi) at0
  have pin := pE_in ht ei.2.1
  have sin := pS_in ht ei.2.1
  have frP : ∀ P j, AtN C1 P f n e j → FrC C P := fun P j hP => fr1.trans ⟨hP.2.2.2.2.1, fun a _ a2 a3 => hP.2.2.2.2.2.1 a a2 a3⟩
  by_cases all : ∀ i, i < cnI t → gdN f n e (loI t) (hiI W t) i
  case neg =>
    obtain ⟨q, g1, g2, g3⟩ := first_of (P := fun i => ¬ gdN f n e (loI t) (hiI W t) i) (cnI t)
    have g4 : ∀ i, i < q → gdN f n e (loI t) (hiI W t) i := fun i hi => Classical.not_not.mp (g2 i hi)
    have qc : q < cnI t := by
      by_cases c : q < cnI t
      · exact c
      · exact absurd (fun i hi => g4 i (by omega)) all
    obtain ⟨P, r1, hP⟩ := nb q qc g4 (g3 qc)
    refine Or.inl ⟨P, pS f n e q, s56 _ ?_, hP.2.1, frP P q hP, (sin q).2, fun N hN hw h12 => ?_⟩
    · refine Rn.cal rfl (X_ald rfl <| X_nil) (vs := [_]) (rest := []) rfl rfl rfl (rcv_v hX.sc (by decide)) (cn) ?_
      refine Rn.fal rfl (X_i <| X_ist rfl (L' := [_, _, _, _, _, _]) rfl <| X_nil) ?_
      exact r1
    · obtain ⟨N', c148, n8, frN⟩ := (m_item' (S := S) (C := C1) (W := W) (K := K) hM hN.1 ei.2.1 (by rw [← hE]; exact hN.2.1) (fun q => hw (fun z => q (hm.mpr z))) hR1 t8 h6).2 q qc g4 (g3 qc)
      refine ⟨N', fun x => m66 N hN h12 _ x ?_, n8, frN.r⟩
      refine Rn.cal rfl (X_ald rfl <| X_ild rfl <| X_nil) (vs := [_, _]) (rest := []) rfl rfl rfl (rcv_v hM.ob (by decide)) (c148) ?_
      refine Rn.ine rfl (X_nil) (by first | omega | (simp (disch := omega) only [um_eq, um_na, um_ni, Int.toNat_natCast]; omega)) (fun hc => absurd hc (by first | omega | decide | (simp (disch := omega) only [um_eq, um_na, um_ni, Int.toNat_natCast]; omega))) (fun hc => ?_)
      refine Rn.rz rfl (X_i <| X_nil) rfl (by first | exact Or.inl rfl | exact Or.inr rfl | omega)
  obtain ⟨P, y, r1, hP⟩ := na all
  have hP' := hP
  obtain ⟨p3, p4, p5, p6, p0, pa, pn⟩ := hP'
  have kc4 := tK_in (f := f) (n := n) (s := pS f n e (cnI t))
  have mo : ∀ N, AtT N n f s → (items ≠ 0 → AgW N W) → N 76 12 = (items : Int) → ∃ N1, Cl S 148 [vR 76, vI (t : Int)] (T, N) (some (vI 1), (T, N1)) ∧ AgW N1 (apW W t (fun i => tV f n (pS f n e i))) ∧ N1 76 7 = ((pE f n e (cnI t) : Nat) : Int) ∧ FrM N N1 := fun N hN hw h12 => by
    exact (m_item' (S := S) (C := C1) (W := W) (K := K) hM hN.1 ei.2.1 (by rw [← hE]; exact hN.2.1) (fun q => hw (fun z => q (hm.mpr z))) hR1 t8 h6).1 all
  have bs := ht.i (pS f n e (cnI t))
  by_cases k3 : tK f n (pS f n e (cnI t)) = 3
  case neg =>
    have f59 : f (pS f n e (cnI t)) ≠ 59 := fun q => k3 ((tK_3 ht).mpr q)
    refine Or.inl ⟨P, pS f n e (cnI t), s56 _ ?_, p4, frP P _ hP, (sin _).2, fun N hN hw h12 => ?_⟩
    · refine Rn.cal rfl (X_ald rfl <| X_nil) (vs := [_]) (rest := []) rfl rfl rfl (rcv_v hX.sc (by decide)) (cn) ?_
      refine Rn.fal rfl (X_i <| X_ist rfl (L' := [_, _, _, _, _, _]) rfl <| X_nil) ?_
      refine r1 _ ?_
      refine Rn.ceq rfl (X_ald rfl <| X_gi 4 3 3 hX.sc ⟨rfl, rfl, rfl⟩ (Or.inl rfl) <| X_i <| X_nil) (by first | omega | (simp (disch := omega) only [um_eq, um_na, um_ni, Int.toNat_natCast]; omega)) (by first | omega | (simp (disch := omega) only [um_eq, um_na, um_ni, Int.toNat_natCast]; omega)) (fun hc => absurd hc (by first | omega | decide | (simp (disch := omega) only [um_eq, um_na, um_ni, Int.toNat_natCast]; omega))) (fun hc => ?_)
      refine Rn.rz rfl (X_i <| X_nil) rfl (by first | exact Or.inl rfl | exact Or.inr rfl | omega)
    · obtain ⟨N1, c1, a1, n7, f1⟩ := mo N hN hw h12
      obtain ⟨N2, ct, t7, t8', t9, t10, tk, ta⟩ := m_token (S := S) hM (hN.1.fr f1) (pin (cnI t)).2 n7
      have t8' : N2 76 8 = ((pS f n e (cnI t) : Nat) : Int) := t8'
      have f2 : FrM N1 N2 := ⟨fun k hk => tk k (by omega), fun k _ => by rw [ta 77 (by decide)], fun a a1 _ => ta a a1⟩
      have cb := m_byteAt (S := S) (N := N2) (k := pS f n e (cnI t)) hM ((hN.1.fr f1).fr f2) (by have := (sin (cnI t)).2; omega) t8'
      refine ⟨N2, fun x => m66 N hN h12 _ x ?_, t8', (f1.trans f2).r⟩
      refine Rn.cal rfl (X_ald rfl <| X_ild rfl <| X_nil) (vs := [_, _]) (rest := []) rfl rfl rfl (rcv_v hM.ob (by decide)) (c1) ?_
      refine Rn.ine rfl (X_nil) (by first | omega | (simp (disch := omega) only [um_eq, um_na, um_ni, Int.toNat_natCast]; omega)) (fun hc => ?_) (fun hc => absurd hc (by first | omega | decide | (simp (disch := omega) only [um_eq, um_na, um_ni, Int.toNat_natCast]; omega)))
      refine Rn.cal rfl (X_ald rfl <| X_nil) (vs := [_]) (rest := []) rfl rfl rfl (rcv_v hM.ob (by decide)) (ct) ?_
      refine Rn.cal rfl (X_ald rfl <| X_ald rfl <| X_gi 8 8 8 hM.ob ⟨rfl, rfl, rfl⟩ (Or.inl rfl) <| X_nil) (vs := [_, _]) (rest := []) rfl rfl rfl (rcv_v hM.ob (by decide)) (cb) ?_
      refine Rn.ceq rfl (X_i <| X_nil) (by first | omega | (simp (disch := omega) only [um_eq, um_na, um_ni, Int.toNat_natCast]; omega)) (by first | omega | (simp (disch := omega) only [um_eq, um_na, um_ni, Int.toNat_natCast]; omega)) (fun hc => absurd hc (by first | omega | decide | (simp (disch := omega) only [um_eq, um_na, um_ni, Int.toNat_natCast]; omega))) (fun hc => ?_)
      refine Rn.rz rfl (X_i <| X_nil) rfl (by first | exact Or.inl rfl | exact Or.inr rfl | omega)
  have f59 := (tK_3 ht).mp k3
  have sl : pS f n e (cnI t) < n := by
    by_cases c : pS f n e (cnI t) < n
    · exact c
    · have := ht.2.2 (pS f n e (cnI t)) (by omega)
      omega
  have hRP : t ≠ 0 → Rg P 28 W 561 K := fun q => (hR1 q).cg (fun a a1 a2 _ => pa a (by omega) (by omega)) (Nat.le_refl K)
  obtain ⟨P2, ca, hR2, a2⟩ := c_apply (S := S) (v := fun i => tV f n (pS f n e i)) hX hRP t8 h6 (fun i hi => ⟨pn i hi, (all i hi).2.1, (all i hi).2.2⟩)
  have e56 : P2 56 = P 56 := a2 56 (by omega)
  have hc2 : CTx P2 n f := hc1.cg (by rw [e56]; exact p0) (by rw [a2 57 (by omega)]; exact pa 57 (by decide) (by decide))
  obtain ⟨P3, cn3, u3, u4, u5, u6, u0, ua⟩ := c_next (S := S) (e := pE f n e (cnI t + 1)) hX hc2 (pin _).2 (by rw [e56]; exact p5)
  have ti := tS_in (f := f) (n := n) (pin (cnI t + 1)).2
  have hc3 : CTx P3 n f := hc2.cg u0 (ua 57 (by decide))
  have se := (tE_in ht (sin (cnI t)).2).2.2 sl
  have se' : pS f n e (cnI t) < pE f n e (cnI t + 1) := se
  have sc := sin (cnI t)
  refine Or.inr ⟨P3, tS f n (pE f n e (cnI t + 1)), apW W t (fun i => tV f n (pS f n e i)), s56 _ ?_, ⟨hc3, u3, u4, u5, ti.2⟩, by omega, hR2.cg (fun a a1 a2 _ => ua a (by omega)) (Nat.le_refl K), (frP P _ hP).trans ⟨by rw [u0, e56], fun a a1' a2' a3' => by rw [ua a a2']; exact a2 a a1'⟩, fun N hN hw h12 => ?_⟩
  · refine Rn.cal rfl (X_ald rfl <| X_nil) (vs := [_]) (rest := []) rfl rfl rfl (rcv_v hX.sc (by decide)) (cn) ?_
    refine Rn.fal rfl (X_i <| X_ist rfl (L' := [_, _, _, _, _, _]) rfl <| X_nil) ?_
    refine r1 _ ?_
    refine Rn.ceq rfl (X_ald rfl <| X_gi 4 3 3 hX.sc ⟨rfl, rfl, rfl⟩ (Or.inl rfl) <| X_i <| X_nil) (by first | omega | (simp (disch := omega) only [um_eq, um_na, um_ni, Int.toNat_natCast]; omega)) (by first | omega | (simp (disch := omega) only [um_eq, um_na, um_ni, Int.toNat_natCast]; omega)) (fun hc => ?_) (fun hc => absurd hc (by first | omega | decide | (simp (disch := omega) only [um_eq, um_na, um_ni, Int.toNat_natCast]; omega)))
    refine Rn.cal rfl (X_ald rfl <| X_ald rfl <| X_ild rfl <| X_nil) (vs := [_, _, _]) (rest := []) rfl rfl rfl (rcv_v hX.sc (by decide)) (ca) ?_
    refine Rn.cal rfl (X_ald rfl <| X_nil) (vs := [_]) (rest := []) rfl rfl rfl (rcv_v hX.sc (by decide)) (cn3) ?_
    refine Rn.rz rfl (X_i <| X_nil) rfl (by first | exact Or.inl rfl | exact Or.inr rfl | omega)
  · obtain ⟨N1, c1, a1, n7, f1⟩ := mo N hN hw h12
    obtain ⟨N2, ct, t7, t8', t9, t10, tk, ta⟩ := m_token (S := S) hM (hN.1.fr f1) (pin (cnI t)).2 n7
    have t8' : N2 76 8 = ((pS f n e (cnI t) : Nat) : Int) := t8'
    have t7 : N2 76 7 = ((pE f n e (cnI t + 1) : Nat) : Int) := t7
    have f2 : FrM N1 N2 := ⟨fun k hk => tk k (by omega), fun k _ => by rw [ta 77 (by decide)], fun a a1 _ => ta a a1⟩
    have m2 := (hN.1.fr f1).fr f2
    have cb := m_byteAt (S := S) (N := N2) (k := pS f n e (cnI t)) hM m2 (by omega) t8'
    have n12 : N2 76 12 = (items : Int) := by rw [tk 12 (by decide), f1.1 12 (by decide)]; exact h12
    have m3 : MTx (um N2 76 12 (N2 76 12 + 1)) n f := m2.cg (um_ni (by decide)) (um_fn (by decide))
    obtain ⟨N4, ct4, v7, v8, v9, v10, vk, va⟩ := m_token (S := S) (N := um N2 76 12 (N2 76 12 + 1)) (e := pE f n e (cnI t + 1)) hM m3 (pin _).2 (by rw [um_ni (by decide)]; exact t7)
    have f3 : FrR N2 N4 := ⟨fun k hk => by rw [vk k (by omega), um_ni (by omega)], fun k _ => by rw [va 77 (by decide), um_na (by decide)], fun a a1 _ => by rw [va a a1, um_fn a1]⟩
    refine ⟨N4, some (vI (t : Int)), fun r x hr => m66 N hN h12 _ x ?_, ⟨m3.cg (vk 3 (by decide)) (va 79 (by decide)), v7, v8, v10⟩, fun k k0 k1 => by rw [va 77 (by decide), um_na (by decide), ta 77 (by decide)]; exact a1 k k0 k1, by rw [vk 12 (by decide), um_eq, n12], (f1.trans f2).r.trans f3⟩
    refine Rn.cal rfl (X_ald rfl <| X_ild rfl <| X_nil) (vs := [_, _]) (rest := []) rfl rfl rfl (rcv_v hM.ob (by decide)) (c1) ?_
    refine Rn.ine rfl (X_nil) (by first | omega | (simp (disch := omega) only [um_eq, um_na, um_ni, Int.toNat_natCast]; omega)) (fun hc => ?_) (fun hc => absurd hc (by first | omega | decide | (simp (disch := omega) only [um_eq, um_na, um_ni, Int.toNat_natCast]; omega)))
    refine Rn.cal rfl (X_ald rfl <| X_nil) (vs := [_]) (rest := []) rfl rfl rfl (rcv_v hM.ob (by decide)) (ct) ?_
    refine Rn.cal rfl (X_ald rfl <| X_ald rfl <| X_gi 8 8 8 hM.ob ⟨rfl, rfl, rfl⟩ (Or.inl rfl) <| X_nil) (vs := [_, _]) (rest := []) rfl rfl rfl (rcv_v hM.ob (by decide)) (cb) ?_
    refine Rn.ceq rfl (X_i <| X_nil) (by first | omega | (simp (disch := omega) only [um_eq, um_na, um_ni, Int.toNat_natCast]; omega)) (by first | omega | (simp (disch := omega) only [um_eq, um_na, um_ni, Int.toNat_natCast]; omega)) (fun hc => ?_) (fun hc => absurd hc (by first | omega | decide | (simp (disch := omega) only [um_eq, um_na, um_ni, Int.toNat_natCast]; omega)))
    refine Rn.cal rfl (X_ald rfl <| X_dupr <| X_gi 8 12 12 hM.ob ⟨rfl, rfl, rfl⟩ (Or.inl rfl) <| X_i <| X_add <| X_pi 8 12 12 hM.ob ⟨rfl, rfl, rfl⟩ (Or.inl rfl) <| X_ald rfl <| X_nil) (vs := [_]) (rest := []) rfl rfl rfl (rcv_v hM.ob (by decide)) (ct4) ?_
    refine Rn.jto rfl (X_nil) ?_
    exact hr
/-- all items by both -/
theorem st_all (hX : isX T) (hM : isM T) : ∀ (m : Nat) (C : Nat → Int → Int) (s items : Nat) (W : Int → Int), n - s < m → AtS C n f s → 2 * items ≤ s → (items ≠ 0 → Rg C 28 W 561 K) → ∃ v C', Rn S 38 11 ([], [some (vR 56), some (vR 28), some (vI (items : Int))], T, C) (some (vI v), (T, C')) ∧ FrC C C' ∧ (-1000 ≤ v ∧ v ≤ 1000) ∧ ((0 ≤ v ∧ ∃ W', Rg C' 28 W' 561 K ∧ ∀ N x, AtT N n f s → (items ≠ 0 → AgW N W) → N 76 12 = (items : Int) → ∃ N', Rn S 149 14 ([], [some (vR 76), x], T, N) (some (vI 1), (T, N')) ∧ N' 76 12 = v ∧ AgW N' W' ∧ FrR N N') ∨ (v < 0 ∧ ∀ N x, AtT N n f s → (items ≠ 0 → AgW N W) → N 76 12 = (items : Int) → ∃ N', Rn S 149 14 ([], [some (vR 76), x], T, N) (some (vI 0), (T, N')) ∧ -10 - N' 76 8 = v ∧ FrR N N')) := by
  intro m
  induction m with
  | zero => intro C s items W hm; omega
  | succ m ih =>
    intro C s items W hm ha h2 hR
    have hO := hX.s2
    have ht := ha.1.2.1
    have n150 := ht.1
    have sn := ha.2.2.2.2
    have c3 := ha.2.1
    have k4 := tK_in (f := f) (n := n) (s := s)
    by_cases fin : n ≤ s ∧ items ≠ 0
    · have k0 : tK f n s = 0 := tK_0.mpr fin.1
      refine ⟨(items : Int), C, ?_, ⟨rfl, fun _ _ _ _ => rfl⟩, by omega, Or.inl ⟨by omega, W, hR fin.2, fun N x hN hw h12 => ⟨N, ?_, h12, hw fin.2, fun _ _ => rfl, fun _ _ => rfl, fun _ _ _ => rfl⟩⟩⟩
      · refine Rn.cge rfl (X_ild rfl <| X_i <| X_nil) (by first | omega | (simp (disch := omega) only [um_eq, um_na, um_ni, Int.toNat_natCast]; omega)) (by first | omega | (simp (disch := omega) only [um_eq, um_na, um_ni, Int.toNat_natCast]; omega)) (fun hc => absurd hc (by first | omega | decide | (simp (disch := omega) only [um_eq, um_na, um_ni, Int.toNat_natCast]; omega))) (fun hc => ?_)
        refine Rn.ine rfl (X_ald rfl <| X_gi 4 3 3 hX.sc ⟨rfl, rfl, rfl⟩ (Or.inl rfl) <| X_nil) (by first | omega | (simp (disch := omega) only [um_eq, um_na, um_ni, Int.toNat_natCast]; omega)) (fun hc => absurd hc (by first | omega | decide | (simp (disch := omega) only [um_eq, um_na, um_ni, Int.toNat_natCast]; omega))) (fun hc => ?_)
        refine Rn.ile rfl (X_ild rfl <| X_nil) (by first | omega | (simp (disch := omega) only [um_eq, um_na, um_ni, Int.toNat_natCast]; omega)) (fun hc => absurd hc (by first | omega | decide | (simp (disch := omega) only [um_eq, um_na, um_ni, Int.toNat_natCast]; omega))) (fun hc => ?_)
        refine Rn.ri rfl (X_ild rfl <| X_nil) rfl
      · have n3 := hN.1.1
        have n8 := hN.2.2.1
        refine Rn.clt rfl (X_ald rfl <| X_gi 8 8 8 hM.ob ⟨rfl, rfl, rfl⟩ (Or.inl rfl) <| X_ald rfl <| X_gi 8 3 3 hM.ob ⟨rfl, rfl, rfl⟩ (Or.inl rfl) <| X_nil) (by first | omega | (simp (disch := omega) only [um_eq, um_na, um_ni, Int.toNat_natCast]; omega)) (by first | omega | (simp (disch := omega) only [um_eq, um_na, um_ni, Int.toNat_natCast]; omega)) (fun hc => absurd hc (by first | omega | decide | (simp (disch := omega) only [um_eq, um_na, um_ni, Int.toNat_natCast]; omega))) (fun hc => ?_)
        refine Rn.ine rfl (X_ald rfl <| X_gi 8 12 12 hM.ob ⟨rfl, rfl, rfl⟩ (Or.inl rfl) <| X_nil) (by first | omega | (simp (disch := omega) only [um_eq, um_na, um_ni, Int.toNat_natCast]; omega)) (fun hc => ?_) (fun hc => absurd hc (by first | omega | decide | (simp (disch := omega) only [um_eq, um_na, um_ni, Int.toNat_natCast]; omega)))
        refine Rn.rz rfl (X_i <| X_nil) rfl (by first | exact Or.inl rfl | exact Or.inr rfl | omega)
    · have k0 : tK f n s = 0 → items = 0 := fun q => by
        have := tK_0.mp q
        by_cases c : items = 0
        · exact c
        · exact absurd ⟨this, c⟩ fin
      -- the class goes to the item
      have c31 : ∀ r, Rn S 38 31 ([], [some (vR 56), some (vR 28), some (vI (items : Int))], T, C) r → Rn S 38 11 ([], [some (vR 56), some (vR 28), some (vI (items : Int))], T, C) r := fun r hr => by
        by_cases c : tK f n s = 0
        · have := k0 c
          refine Rn.cge rfl (X_ild rfl <| X_i <| X_nil) (by first | omega | (simp (disch := omega) only [um_eq, um_na, um_ni, Int.toNat_natCast]; omega)) (by first | omega | (simp (disch := omega) only [um_eq, um_na, um_ni, Int.toNat_natCast]; omega)) (fun hc => absurd hc (by first | omega | decide | (simp (disch := omega) only [um_eq, um_na, um_ni, Int.toNat_natCast]; omega))) (fun hc => ?_)
          refine Rn.ine rfl (X_ald rfl <| X_gi 4 3 3 hX.sc ⟨rfl, rfl, rfl⟩ (Or.inl rfl) <| X_nil) (by first | omega | (simp (disch := omega) only [um_eq, um_na, um_ni, Int.toNat_natCast]; omega)) (fun hc => absurd hc (by first | omega | decide | (simp (disch := omega) only [um_eq, um_na, um_ni, Int.toNat_natCast]; omega))) (fun hc => ?_)
          refine Rn.ile rfl (X_ild rfl <| X_nil) (by first | omega | (simp (disch := omega) only [um_eq, um_na, um_ni, Int.toNat_natCast]; omega)) (fun hc => ?_) (fun hc => absurd hc (by first | omega | decide | (simp (disch := omega) only [um_eq, um_na, um_ni, Int.toNat_natCast]; omega)))
          exact hr
        · refine Rn.cge rfl (X_ild rfl <| X_i <| X_nil) (by first | omega | (simp (disch := omega) only [um_eq, um_na, um_ni, Int.toNat_natCast]; omega)) (by first | omega | (simp (disch := omega) only [um_eq, um_na, um_ni, Int.toNat_natCast]; omega)) (fun hc => absurd hc (by first | omega | decide | (simp (disch := omega) only [um_eq, um_na, um_ni, Int.toNat_natCast]; omega))) (fun hc => ?_)
          refine Rn.ine rfl (X_ald rfl <| X_gi 4 3 3 hX.sc ⟨rfl, rfl, rfl⟩ (Or.inl rfl) <| X_nil) (by first | omega | (simp (disch := omega) only [um_eq, um_na, um_ni, Int.toNat_natCast]; omega)) (fun hc => ?_) (fun hc => absurd hc (by first | omega | decide | (simp (disch := omega) only [um_eq, um_na, um_ni, Int.toNat_natCast]; omega)))
          exact hr
      have c42 : ∀ fi r, (fi = if items = 0 then 1 else 0) → Rn S 38 42 ([vI fi, vR 28, vR 56], [some (vR 56), some (vR 28), some (vI (items : Int))], T, C) r → Rn S 38 11 ([], [some (vR 56), some (vR 28), some (vI (items : Int))], T, C) r := fun fi r hfi hr => by
        refine c31 r ?_
        by_cases c : items = 0
        · rw [if_pos c] at hfi
          subst hfi
          refine Rn.ine rfl (X_ald rfl <| X_ald rfl <| X_ild rfl <| X_nil) (by first | omega | (simp (disch := omega) only [um_eq, um_na, um_ni, Int.toNat_natCast]; omega)) (fun hc => absurd hc (by first | omega | decide | (simp (disch := omega) only [um_eq, um_na, um_ni, Int.toNat_natCast]; omega))) (fun hc => ?_)
          refine Rn.jto rfl (X_i <| X_nil) ?_
          exact hr
        · rw [if_neg c] at hfi
          subst hfi
          refine Rn.ine rfl (X_ald rfl <| X_ald rfl <| X_ild rfl <| X_nil) (by first | omega | (simp (disch := omega) only [um_eq, um_na, um_ni, Int.toNat_natCast]; omega)) (fun hc => ?_) (fun hc => absurd hc (by first | omega | decide | (simp (disch := omega) only [um_eq, um_na, um_ni, Int.toNat_natCast]; omega)))
          refine Rn.fal rfl (X_i <| X_nil) ?_
          exact hr
      have m32 : ∀ N x r, AtT N n f s → N 76 12 = (items : Int) → Rn S 149 32 ([], [some (vR 76), x], T, N) r → Rn S 149 14 ([], [some (vR 76), x], T, N) r := fun N x r hN h12 hr => by
        have n3 := hN.1.1
        have n8 := hN.2.2.1
        by_cases c : s < n
        · refine Rn.clt rfl (X_ald rfl <| X_gi 8 8 8 hM.ob ⟨rfl, rfl, rfl⟩ (Or.inl rfl) <| X_ald rfl <| X_gi 8 3 3 hM.ob ⟨rfl, rfl, rfl⟩ (Or.inl rfl) <| X_nil) (by first | omega | (simp (disch := omega) only [um_eq, um_na, um_ni, Int.toNat_natCast]; omega)) (by first | omega | (simp (disch := omega) only [um_eq, um_na, um_ni, Int.toNat_natCast]; omega)) (fun hc => ?_) (fun hc => absurd hc (by first | omega | decide | (simp (disch := omega) only [um_eq, um_na, um_ni, Int.toNat_natCast]; omega)))
          exact hr
        · have : items = 0 := by
            by_cases c' : items = 0
            · exact c'
            · exact absurd ⟨by omega, c'⟩ fin
          refine Rn.clt rfl (X_ald rfl <| X_gi 8 8 8 hM.ob ⟨rfl, rfl, rfl⟩ (Or.inl rfl) <| X_ald rfl <| X_gi 8 3 3 hM.ob ⟨rfl, rfl, rfl⟩ (Or.inl rfl) <| X_nil) (by first | omega | (simp (disch := omega) only [um_eq, um_na, um_ni, Int.toNat_natCast]; omega)) (by first | omega | (simp (disch := omega) only [um_eq, um_na, um_ni, Int.toNat_natCast]; omega)) (fun hc => absurd hc (by first | omega | decide | (simp (disch := omega) only [um_eq, um_na, um_ni, Int.toNat_natCast]; omega))) (fun hc => ?_)
          refine Rn.ine rfl (X_ald rfl <| X_gi 8 12 12 hM.ob ⟨rfl, rfl, rfl⟩ (Or.inl rfl) <| X_nil) (by first | omega | (simp (disch := omega) only [um_eq, um_na, um_ni, Int.toNat_natCast]; omega)) (fun hc => absurd hc (by first | omega | decide | (simp (disch := omega) only [um_eq, um_na, um_ni, Int.toNat_natCast]; omega))) (fun hc => ?_)
          exact hr
      rcases st_item (S := S) (K := K) (W := W) (items := items) (fi := if items = 0 then 1 else 0) hX hM ha hR (by omega) rfl with ⟨C', st, cc, s4, fr, stn, hN⟩ | ⟨C', s2, W', cc, ha', s2s, hR', fr, hN⟩
      · refine ⟨-10 - (st : Int), C', c42 _ _ rfl ?_, fr, by omega, Or.inr ⟨by omega, fun N x hA hw h12 => ?_⟩⟩
        · rw [← s4]
          refine Rn.cal rfl (X_nil) (vs := [_, _, _]) (rest := []) rfl rfl rfl (rcv_v hX.sc (by decide)) (cc) ?_
          refine Rn.ine rfl (X_nil) (by first | omega | (simp (disch := omega) only [um_eq, um_na, um_ni, Int.toNat_natCast]; omega)) (fun hc => absurd hc (by first | omega | decide | (simp (disch := omega) only [um_eq, um_na, um_ni, Int.toNat_natCast]; omega))) (fun hc => ?_)
          refine Rn.ri rfl (X_i <| X_ald rfl <| X_gi 4 4 4 hX.sc ⟨rfl, rfl, rfl⟩ (Or.inl rfl) <| X_sub <| X_nil) rfl
        · obtain ⟨N', r1, r2, r3⟩ := hN N hA hw h12
          exact ⟨N', m32 N x _ hA h12 (r1 x), by omega, r3⟩
      · obtain ⟨v, C2, r1, r2, r3, r4⟩ := ih C' s2 (items + 1) W' (by have := ha'.2.2.2.2; have := ha.2.2.2.2; omega) ha' (by omega) (fun _ => hR')
        rw [show ((items + 1 : Nat) : Int) = (items : Int) + 1 by omega] at r1 r4
        refine ⟨v, C2, c42 _ _ rfl ?_, fr.trans r2, r3, ?_⟩
        · refine Rn.cal rfl (X_nil) (vs := [_, _, _]) (rest := []) rfl rfl rfl (rcv_v hX.sc (by decide)) (cc) ?_
          refine Rn.ine rfl (X_nil) (by first | omega | (simp (disch := omega) only [um_eq, um_na, um_ni, Int.toNat_natCast]; omega)) (fun hc => ?_) (fun hc => absurd hc (by first | omega | decide | (simp (disch := omega) only [um_eq, um_na, um_ni, Int.toNat_natCast]; omega)))
          refine Rn.jto rfl (X_inc rfl (L' := [_, _, _]) rfl <| X_nil) ?_
          exact r1
        · rcases r4 with ⟨v0, W2, hR2, q⟩ | ⟨v0, q⟩
          · refine Or.inl ⟨v0, W2, hR2, fun N x hA hw h12 => ?_⟩
            obtain ⟨N1, x', t1, t2, t3, t4, t5⟩ := hN N hA hw h12
            obtain ⟨N2, u1, u2, u3, u4⟩ := q N1 x' t2 (fun _ => t3) t4
            exact ⟨N2, m32 N x _ hA h12 (t1 _ x u1), u2, u3, t5.trans u4⟩
          · refine Or.inr ⟨v0, fun N x hA hw h12 => ?_⟩
            obtain ⟨N1, x', t1, t2, t3, t4, t5⟩ := hN N hA hw h12
            obtain ⟨N2, u1, u2, u3⟩ := q N1 x' t2 (fun _ => t3) t4
            exact ⟨N2, m32 N x _ hA h12 (t1 _ x u1), u2, t5.trans u3⟩
theorem op_read (g : Gl T M K) : Op S 77 150 [] T M K := by
  have hX := g.x
  have hM := g.m
  obtain ⟨tx0, tx1, tx2⟩ := g.tx
  obtain ⟨n, hn⟩ : ∃ n : Nat, M 56 0 = (n : Int) := ⟨(M 56 0).toNat, by omega⟩
  obtain ⟨f, hf⟩ : ∃ f : Nat → Int, f = fun i => if i < n then M 57 (i : Int) else -1 := ⟨_, rfl⟩
  have ht : TxF n f := by
    refine ⟨by omega, fun i hi => ?_, fun i hi => ?_⟩
    · rw [hf]
      show 0 ≤ (if i < n then M 57 (i : Int) else -1) ∧ (if i < n then M 57 (i : Int) else -1) ≤ 127
      rw [if_pos hi]
      have := tx2 (i : Int) (by omega) (by omega)
      omega
    · rw [hf]
      exact if_neg (by omega)
  have fi : ∀ i : Nat, i < n → M 57 (i : Int) = f i := fun i hi => by
    rw [hf]
    exact (if_pos hi).symm
  have fm : ∀ i : Nat, i < n → M 79 (i : Int) = f i := fun i hi => by
    rw [← fi i hi]
    exact (tx2 (i : Int) (by omega) (by omega)).1.symm
  have hc : CTx (um M 56 5 0) n f := ⟨by rw [um_ni (by decide)]; exact hn, ht, fun i hi => by rw [um_na (by decide)]; exact fi i hi⟩
  obtain ⟨C, cn, q3, q4, q5, q6, q0, qa⟩ := c_next (S := S) (e := 0) hX hc (Nat.zero_le n) (by rw [um_eq]; rfl)
  have si := tS_in (f := f) (n := n) (e := 0) (Nat.zero_le n)
  have ha : AtS C n f (tS f n 0) := ⟨hc.cg q0 (qa 57 (by decide)), q3, q4, q5, si.2⟩
  have qa' : ∀ a, a ≠ 56 → C a = M a := fun a h1 => by rw [qa a h1, um_fn h1]
  obtain ⟨v, C', r1, r2, r3, r4⟩ := st_all (S := S) (K := K) hX hM (n + 1) C (tS f n 0) 0 (fun _ => 0) (by omega) ha (by omega) (fun q => absurd rfl q)
  have cfr : ∀ a, (a < 28 ∨ 55 ≤ a) → a ≠ 56 → a ≠ 58 → C' a = M a := fun a a1 a2 a3 => by rw [r2.2 a a1 a2 a3]; exact qa' a a2
  have c560 : C' 56 0 = M 56 0 := by rw [r2.1, q0, um_ni (by decide)]
  have ct : Cl S 38 [vR 56, vR 28] (T, M) (some (vI v), (T, C')) := by
    have hO := hX.s2
    refine ⟨_, rfl, ?_⟩
    refine Rn.cal rfl (X_ald rfl <| X_i <| X_pi 4 5 5 hX.sc ⟨rfl, rfl, rfl⟩ (Or.inl rfl) <| X_ald rfl <| X_nil) (vs := [_]) (rest := []) rfl rfl rfl (rcv_v hX.sc (by decide)) (cn) ?_
    refine Rn.fal rfl (X_i <| X_ist rfl (L' := [_, _, _]) rfl <| X_nil) ?_
    exact r1
  -- the model begins
  have mo : ∀ N : Nat → Int → Int, N 76 = M 76 → N 79 = M 79 → ∃ N0, (∀ r, Rn S 149 14 ([], [some (vR 76), none], T, N0) r → Cl S 149 [vR 76] (T, N) r) ∧ AtT N0 n f (tS f n 0) ∧ N0 76 12 = 0 ∧ FrR N N0 := fun N n76 n79 => by
    have mc : MTx (um (um N 76 7 0) 76 12 0) n f := ⟨by rw [um_ni (by decide), um_ni (by decide), n76, ← tx0]; exact hn, ht, fun i hi => by rw [um_na (by decide), um_na (by decide), n79]; exact fm i hi⟩
    obtain ⟨N0, ctk, v7, v8, v9, v10, vk, va⟩ := m_token (S := S) (e := 0) hM mc (Nat.zero_le n) (by rw [um_ni (by decide), um_eq]; rfl)
    refine ⟨N0, fun r hr => ⟨_, rfl, ?_⟩, ⟨mc.cg (vk 3 (by decide)) (va 79 (by decide)), v7, v8, v10⟩, by rw [vk 12 (by decide), um_eq], ⟨fun k hk => by rw [vk k (by omega), um_ni (by omega), um_ni (by omega)], fun k _ => by rw [va 77 (by decide), um_na (by decide), um_na (by decide)], fun a a1 _ => by rw [va a a1, um_fn a1, um_fn a1]⟩⟩
    refine Rn.cal rfl (X_ald rfl <| X_i <| X_pi 8 7 7 hM.ob ⟨rfl, rfl, rfl⟩ (Or.inl rfl) <| X_ald rfl <| X_i <| X_pi 8 12 12 hM.ob ⟨rfl, rfl, rfl⟩ (Or.inl rfl) <| X_ald rfl <| X_nil) (vs := [_]) (rest := []) rfl rfl rfl (rcv_v hM.ob (by decide)) (ctk) ?_
    exact hr
  rcases r4 with ⟨v0, W', hR', q⟩ | ⟨v0, q⟩
  · -- it stands
    obtain ⟨D, cs, hcp⟩ := c_scopy (S := S) (M := C') (b := 1) (o := 28) hX.s1 hX.s2 (by unfold Apart; omega)
    have dfr := hcp.2.2.2.2.2.2.2
    have d77 : ∀ a, 28 ≤ a → D a = C' a := fun a ha => dfr a (by omega)
    obtain ⟨N0, m1, m2, m3, m4⟩ := mo D (by rw [d77 76 (by decide)]; exact cfr 76 (by decide) (by decide) (by decide)) (by rw [d77 79 (by decide)]; exact cfr 79 (by decide) (by decide) (by decide))
    obtain ⟨N1, u1, u2, u3, u4⟩ := q N0 none m2 (fun z => absurd rfl z) m3
    have fr := m4.trans u4
    obtain ⟨N2, cm, w1, w2, w3⟩ := c_mcopy (S := S) (T := T) (M := N1) (x := 561) (y := 0) hM (by decide) (by decide) (by decide) (by decide) (Or.inr (by decide))
    have cr : Cl S 149 [vR 76] (T, D) (some (vI 1), (T, N1)) := m1 _ u1
    have e : ∀ a, (28 ≤ a → 55 ≤ a) → ¬ (1 ≤ a ∧ a < 28) → a ≠ 56 → a ≠ 58 → a ≠ 76 → a ≠ 77 → N2 a = M a := fun a a1 a2 a3 a4 a5 a6 => by
      rw [w3 a a6, fr.2.2 a a5 a6, dfr a (by omega)]
      exact cfr a (by omega) a3 a4
    have e76 : ∀ k, ¬ (7 ≤ k ∧ k ≤ 12) → N2 76 k = M 76 k := fun k hk => by rw [w3 76 (by decide), fr.1 k hk, dfr 76 (by omega), cfr 76 (by decide) (by decide) (by decide)]
    have e77 : ∀ k, 187 ≤ k → k < 561 → N2 77 k = M 77 k := fun k k0 k1 => by rw [w2 k (by omega), fr.2.1 k k1, dfr 77 (by omega), cfr 77 (by decide) (by decide) (by decide)]
    refine ⟨v, T, D, N2, by omega, ⟨_, rfl, ?_⟩, ⟨_, rfl, ?_⟩, g.upd ⟨⟨?_, e 57 (by decide) (by decide) (by decide) (by decide) (by decide) (by decide), e76 3 (by decide), e 79 (by decide) (by decide) (by decide) (by decide) (by decide) (by decide)⟩, ⟨by rw [e 0 (by decide) (by decide) (by decide) (by decide) (by decide) (by decide)], by rw [e 0 (by decide) (by decide) (by decide) (by decide) (by decide) (by decide)], e76 5 (by decide), e76 6 (by decide)⟩, e 78 (by decide) (by decide) (by decide) (by decide) (by decide) (by decide), e77, fun a ha => e a (by omega) (by omega) (by omega) (by omega) (by omega) (by omega)⟩ ?_ (g.re.cg (e 59 (by decide) (by decide) (by decide) (by decide) (by decide) (by decide)) (e 80 (by decide) (by decide) (by decide) (by decide) (by decide) (by decide)) (by omega)) (by omega)⟩
    · refine Rn.cal rfl (X_ald rfl <| X_gr 7 3 hX.ob ⟨rfl, rfl⟩ rfl rfl <| X_ald rfl <| X_gr 7 1 hX.ob ⟨rfl, rfl⟩ rfl rfl <| X_nil) (vs := [_, _]) (rest := []) rfl rfl rfl (rcv_v hX.sc (by decide)) (ct) ?_
      refine Rn.ilt rfl (X_ist rfl (L' := [_, _]) rfl <| X_ild rfl <| X_nil) (by first | omega | (simp (disch := omega) only [um_eq, um_na, um_ni, Int.toNat_natCast]; omega)) (fun hc => absurd hc (by first | omega | decide | (simp (disch := omega) only [um_eq, um_na, um_ni, Int.toNat_natCast]; omega))) (fun hc => ?_)
      refine Rn.cal rfl (X_ald rfl <| X_gr 7 0 hX.ob ⟨rfl, rfl⟩ rfl rfl <| X_ald rfl <| X_gr 7 1 hX.ob ⟨rfl, rfl⟩ rfl rfl <| X_nil) (vs := [_, _]) (rest := []) rfl rfl rfl (rcv_v hX.s1.st (by decide)) (cs) ?_
      refine Rn.ri rfl (X_ild rfl <| X_nil) rfl
    · rw [← u2]
      have w76 : N1 76 12 = N2 76 12 := by rw [w3 76 (by decide)]
      rw [w76]
      refine Rn.cal rfl (X_ald rfl <| X_nil) (vs := [_]) (rest := []) rfl rfl rfl (rcv_v hM.ob (by decide)) (cr) ?_
      refine Rn.ine rfl (X_nil) (by first | omega | (simp (disch := omega) only [um_eq, um_na, um_ni, Int.toNat_natCast]; omega)) (fun hc => ?_) (fun hc => absurd hc (by first | omega | decide | (simp (disch := omega) only [um_eq, um_na, um_ni, Int.toNat_natCast]; omega)))
      refine Rn.cal rfl (X_ald rfl <| X_i <| X_i <| X_nil) (vs := [_, _, _]) (rest := []) rfl rfl rfl (rcv_v hM.ob (by decide)) (cm) ?_
      refine Rn.ri rfl (X_ald rfl <| X_gi 8 12 12 hM.ob ⟨rfl, rfl, rfl⟩ (Or.inl rfl) <| X_nil) rfl
    · rw [w3 56 (by decide), fr.2.2 56 (by decide) (by decide), dfr 56 (by omega)]
      exact c560
    · have a1 : Rg D 1 W' 561 (K + 1) := hR'.copy hcp.q (by omega)
      have a2 : Rg D 1 (N2 77) 0 (K + 1) := a1.words (fun k k0 k1 => by rw [w1 k k0 k1]; exact u3 (561 + k) (by omega) (by omega))
      exact a2.cg (fun a b1 b2 _ => by rw [w3 a (by omega), fr.2.2 a (by omega) (by omega)]) (Nat.le_refl _)
  · -- it does not
    obtain ⟨N0, m1, m2, m3, m4⟩ := mo C' (cfr 76 (by decide) (by decide) (by decide)) (cfr 79 (by decide) (by decide) (by decide))
    obtain ⟨N1, u1, u2, u3⟩ := q N0 none m2 (fun z => absurd rfl z) m3
    have fr := m4.trans u3
    have cr : Cl S 149 [vR 76] (T, C') (some (vI 0), (T, N1)) := m1 _ u1
    have e : ∀ a, (a < 28 ∨ 55 ≤ a) → a ≠ 56 → a ≠ 58 → a ≠ 76 → a ≠ 77 → N1 a = M a := fun a a1 a3 a4 a5 a6 => by
      rw [fr.2.2 a a5 a6]
      exact cfr a a1 a3 a4
    have e76 : ∀ k, ¬ (7 ≤ k ∧ k ≤ 12) → N1 76 k = M 76 k := fun k hk => by rw [fr.1 k hk, cfr 76 (by decide) (by decide) (by decide)]
    have e77 : ∀ k, k < 561 → N1 77 k = M 77 k := fun k k1 => by rw [fr.2.1 k k1, cfr 77 (by decide) (by decide) (by decide)]
    refine ⟨v, T, C', N1, by omega, ⟨_, rfl, ?_⟩, ⟨_, rfl, ?_⟩, g.upd ⟨⟨?_, e 57 (by decide) (by decide) (by decide) (by decide) (by decide), e76 3 (by decide), e 79 (by decide) (by decide) (by decide) (by decide) (by decide)⟩, ⟨by rw [e 0 (by decide) (by decide) (by decide) (by decide) (by decide)], by rw [e 0 (by decide) (by decide) (by decide) (by decide) (by decide)], e76 5 (by decide), e76 6 (by decide)⟩, e 78 (by decide) (by decide) (by decide) (by decide) (by decide), fun k _ k1 => e77 k k1, fun a ha => e a (by omega) (by omega) (by omega) (by omega) (by omega)⟩ ?_ (g.re.cg (e 59 (by decide) (by decide) (by decide) (by decide) (by decide)) (e 80 (by decide) (by decide) (by decide) (by decide) (by decide)) (by omega)) (by omega)⟩
    · refine Rn.cal rfl (X_ald rfl <| X_gr 7 3 hX.ob ⟨rfl, rfl⟩ rfl rfl <| X_ald rfl <| X_gr 7 1 hX.ob ⟨rfl, rfl⟩ rfl rfl <| X_nil) (vs := [_, _]) (rest := []) rfl rfl rfl (rcv_v hX.sc (by decide)) (ct) ?_
      refine Rn.ilt rfl (X_ist rfl (L' := [_, _]) rfl <| X_ild rfl <| X_nil) (by first | omega | (simp (disch := omega) only [um_eq, um_na, um_ni, Int.toNat_natCast]; omega)) (fun hc => ?_) (fun hc => absurd hc (by first | omega | decide | (simp (disch := omega) only [um_eq, um_na, um_ni, Int.toNat_natCast]; omega)))
      refine Rn.ri rfl (X_ild rfl <| X_nil) rfl
    · rw [← u2]
      refine Rn.cal rfl (X_ald rfl <| X_nil) (vs := [_]) (rest := []) rfl rfl rfl (rcv_v hM.ob (by decide)) (cr) ?_
      refine Rn.ine rfl (X_nil) (by first | omega | (simp (disch := omega) only [um_eq, um_na, um_ni, Int.toNat_natCast]; omega)) (fun hc => absurd hc (by first | omega | decide | (simp (disch := omega) only [um_eq, um_na, um_ni, Int.toNat_natCast]; omega))) (fun hc => ?_)
      refine Rn.ri rfl (X_i <| X_ald rfl <| X_gi 8 8 8 hM.ob ⟨rfl, rfl, rfl⟩ (Or.inl rfl) <| X_sub <| X_nil) rfl
    · rw [fr.2.2 56 (by decide) (by decide)]
      exact c560
    · have a1 : Rg M 1 (N1 77) 0 K := g.rg.words (fun k k0 k1 => e77 _ (by omega))
      exact a1.cg (fun a b1 b2 _ => e a (by omega) (by omega) (by omega) (by omega) (by omega)) (by omega)
end Read
