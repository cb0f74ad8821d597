/-! IMAGE -/
section Image
variable {S : List Int} {T T1 : List Sh} {M Mc N : Nat → Int → Int} {K b i : Nat} {h : Hp} {ri : Nat → Option Nat}
theorem isSt.ext (hS : isSt T b) (e : ∀ j, b ≤ j → j < b + 27 → T1[j]? = T[j]?) : isSt T1 b := by
  obtain ⟨h0, h1, h2, h3, h4, h5, h6, h7, h15, h16, h23, h24, h25, h26⟩ := hS
  refine ⟨by rw [e _ (by omega) (by omega)]; exact h0, by rw [e _ (by omega) (by omega)]; exact h1, by rw [e _ (by omega) (by omega)]; exact h2, by rw [e _ (by omega) (by omega)]; exact h3, by rw [e _ (by omega) (by omega)]; exact h4, by rw [e _ (by omega) (by omega)]; exact h5, by rw [e _ (by omega) (by omega)]; exact h6, fun i hi => by rw [e _ (by omega) (by omega)]; exact h7 i hi, fun i hi => by rw [e _ (by omega) (by omega)]; exact h15 i hi, fun i hi => by rw [e _ (by omega) (by omega)]; exact h16 i hi, by rw [e _ (by omega) (by omega)]; exact h23, by rw [e _ (by omega) (by omega)]; exact h24, by rw [e _ (by omega) (by omega)]; exact h25, by rw [e _ (by omega) (by omega)]; exact h26⟩
theorem isX.ext (hX : isX T) (e : ∀ j, j < 76 → j ≠ 55 → T1[j]? = T[j]?) : isX T1 := by
  obtain ⟨h0, h56, h57, h58, h59, h60, h61, h68, h69, s1, s2⟩ := hX
  exact ⟨by rw [e _ (by omega) (by omega)]; exact h0, by rw [e _ (by omega) (by omega)]; exact h56, by rw [e _ (by omega) (by omega)]; exact h57, by rw [e _ (by omega) (by omega)]; exact h58, by rw [e _ (by omega) (by omega)]; exact h59, by rw [e _ (by omega) (by omega)]; exact h60, fun i hi => by rw [e _ (by omega) (by omega)]; exact h61 i hi, by rw [e _ (by omega) (by omega)]; exact h68, fun i hi => by rw [e _ (by omega) (by omega)]; exact h69 i hi, s1.ext (fun j _ _ => e j (by omega) (by omega)), s2.ext (fun j _ _ => e j (by omega) (by omega))⟩
theorem isM.ext (hM : isM T) (e : ∀ j, 76 ≤ j → j < 88 → T1[j]? = T[j]?) : isM T1 := by
  obtain ⟨h76, h77, h78, h79, h80, h81, h82, h83, h84, h85, h86, h87⟩ := hM
  exact ⟨by rw [e _ (by omega) (by omega)]; exact h76, by rw [e _ (by omega) (by omega)]; exact h77, by rw [e _ (by omega) (by omega)]; exact h78, by rw [e _ (by omega) (by omega)]; exact h79, by rw [e _ (by omega) (by omega)]; exact h80, by rw [e _ (by omega) (by omega)]; exact h81, by rw [e _ (by omega) (by omega)]; exact h82, by rw [e _ (by omega) (by omega)]; exact h83, by rw [e _ (by omega) (by omega)]; exact h84, by rw [e _ (by omega) (by omega)]; exact h85, by rw [e _ (by omega) (by omega)]; exact h86, by rw [e _ (by omega) (by omega)]; exact h87⟩
def ShOk (ri : Nat → Option Nat) (n : Nat) : Prop := (ri 0 = none ∧ ri 1 = none ∧ n = 88) ∨ (ri 0 = none ∧ ri 1 = some 88 ∧ n = 115) ∨ (ri 0 = some 88 ∧ ri 1 = none ∧ n = 115) ∨ ((ri 0 = some 88 ∧ ri 1 = some 115 ∨ ri 0 = some 115 ∧ ri 1 = some 88) ∧ n = 142)
/-- there is a State to copy to -/
theorem img_core (hi : i < 2) (hX : isX T1) (hM : isM T1) (hI : T1[55]? = some (13, 2, ri)) (hb : b = 88 ∨ b = 115) (hri : ri i = some b) (hIm : isSt T1 b) (ho : ∀ j b', j < 2 → j ≠ i → ri j = some b' → (b' = 88 ∨ b' = 115) ∧ b' ≠ b ∧ isSt T1 b' ∧ Mc 78 (j : Int) = 1 ∧ Rg Mc b' (Mc 77) (187 * (1 + (j : Int))) K) (hn : ∀ j, j < 2 → ri j = none → Mc 78 (j : Int) = 0) (hsh : ShOk ri T1.length) (hr : Rg Mc 1 (Mc 77) 0 K) (tx : TxOk Mc) (re : ReOk Mc K) (frc : FrOk Mc) : ∃ M1 M2, Rn S 98 38 ([], [some (vR 0), some (vI (i : Int))], T1, Mc) (some (vI 1), (T1, M1)) ∧ Cl S 189 [vR 76, vI (i : Int)] (T1, M1) (some (vI 1), (T1, M2)) ∧ Gl T1 M2 (K + 1) := by
  have hIr : ri ((i : Int)).toNat = some b := by rw [Int.toNat_natCast]; exact hri
  obtain ⟨M1, c1, hc⟩ := c_scopy (S := S) (M := Mc) (b := b) (o := 1) hIm hX.s1 (by omega)
  have fr := hc.2.2.2.2.2.2.2
  have m77 : M1 77 = Mc 77 := fr 77 (by omega)
  obtain ⟨M2, c2, w1, w2, w3⟩ := c_mcopy (S := S) (T := T1) (M := M1) (x := 0) (y := 187 * (1 + (i : Int))) hM (by omega) (by omega) (by omega) (by omega) (by omega)
  have e : ∀ a, a < b ∨ b + 27 ≤ a → a ≠ 77 → a ≠ 78 → um M2 78 (i : Int) 1 a = Mc a := fun a a1 a2 a3 => by rw [um_fn a3, w3 a a2]; exact fr a a1
  have h1 : 0 ≤ (i : Int) ∧ (i : Int) ≤ 1 := by omega
  have u77 : um M2 78 (i : Int) 1 77 = M2 77 := um_fn (by decide)
  refine ⟨M1, um M2 78 (i : Int) 1, ?_, ⟨_, rfl, ?_⟩, hX, hM, ?_, ?_, ?_, ?_, ri, hI, fun j b' hj hb' => ?_, fun j hj hb' => ?_, fun b' q1 q2 => ?_, hsh⟩
  · refine Rn.cal rfl (X_ald rfl <| X_gr 7 2 hX.ob ⟨rfl, rfl⟩ rfl rfl <| X_ild rfl <| X_aa hI (by decide) (by first | omega | (simp (disch := omega) only [um_eq, um_na, um_ni, Int.toNat_natCast]; omega)) (by first | omega | (simp (disch := omega) only [um_eq, um_na, um_ni, Int.toNat_natCast]; omega)) rfl hIr <| X_ald rfl <| X_gr 7 0 hX.ob ⟨rfl, rfl⟩ rfl rfl <| X_nil) (vs := [_, _]) (rest := []) rfl rfl rfl (rcv_v hIm.st (by decide)) (c1) ?_
    refine Rn.ri rfl (X_i <| X_nil) rfl
  · refine Rn.cal rfl (X_ild rfl <| X_i2l (by first | omega | (simp (disch := omega) only [um_eq, um_na, um_ni, Int.toNat_natCast]; omega)) <| X_l <| X_l <| X_nil) (vs := [_, _, _]) (rest := []) rfl rfl rfl rfl (c_iY (by omega) (by decide) (by decide) h1) ?_
    refine Rn.ine rfl (X_nil) (by first | omega | (simp (disch := omega) only [um_eq, um_na, um_ni, Int.toNat_natCast]; omega)) (fun hc => ?_) (fun hc => absurd hc (by first | omega | decide | (simp (disch := omega) only [um_eq, um_na, um_ni, Int.toNat_natCast]; omega)))
    refine Rn.cal rfl (X_ald rfl <| X_i <| X_i <| X_i <| X_ild rfl <| X_add <| X_mul <| X_nil) (vs := [_, _, _]) (rest := []) rfl rfl rfl (rcv_v hM.ob (by decide)) (c2) ?_
    refine Rn.ri rfl (X_ald rfl <| X_gr 8 1 hM.ob ⟨rfl, rfl⟩ rfl rfl <| X_ild rfl <| X_i <| X_bs hM.ke (by decide) (by first | omega | (simp (disch := omega) only [um_eq, um_na, um_ni, Int.toNat_natCast]; omega)) (by first | omega | (simp (disch := omega) only [um_eq, um_na, um_ni, Int.toNat_natCast]; omega)) rfl <| X_i <| X_nil) rfl
  · rw [u77]
    have r1 : Rg Mc 1 (M2 77) 0 K := hr.words (fun k k0 k1 => by rw [w2 _ (by omega), m77])
    exact r1.cg (fun a a1 a2 _ => e a (by omega) (by omega) (by omega)) (by omega)
  · exact tx.cg (by rw [e 56 (by omega) (by decide) (by decide)]) (e 57 (by omega) (by decide) (by decide)) (by rw [e 76 (by omega) (by decide) (by decide)]) (e 79 (by omega) (by decide) (by decide))
  · exact re.cg (e 59 (by omega) (by decide) (by decide)) (e 80 (by omega) (by decide) (by decide)) (by omega)
  · exact frc.cg (by rw [e 0 (by omega) (by decide) (by decide)]) (by rw [e 0 (by omega) (by decide) (by decide)]) (by rw [e 76 (by omega) (by decide) (by decide)]) (by rw [e 76 (by omega) (by decide) (by decide)])
  · by_cases ej : j = i
    · subst ej
      have eb : b' = b := by rw [hri] at hb'; exact (Option.some.inj hb').symm
      subst eb
      refine ⟨hb, hIm, um_eq, ?_⟩
      have r1 : Rg M1 b' (Mc 77) 0 (K + 1) := hr.copy hc.q (by omega)
      have r2 : Rg M1 b' (M2 77) (187 * (1 + (j : Int))) (K + 1) := r1.words (fun k k0 k1 => by rw [w1 k k0 k1, m77])
      rw [u77]
      exact r2.cg (fun a a1 a2 _ => by rw [um_fn (by omega), w3 a (by omega)]) (by omega)
    · obtain ⟨o1, o2, o3, o4, o5⟩ := ho j b' hj ej hb'
      refine ⟨o1, o3, ?_, ?_⟩
      · rw [um_ni (by omega), w3 78 (by decide), fr 78 (by omega)]
        exact o4
      · rw [u77]
        have r1 : Rg Mc b' (M2 77) (187 * (1 + (j : Int))) K := o5.words (fun k k0 k1 => by rw [w2 _ (by omega), m77])
        exact r1.cg (fun a a1 a2 _ => e a (by omega) (by omega) (by omega)) (by omega)
  · have ej : j ≠ i := fun q => by rw [q, hri] at hb'; exact absurd hb' (by simp)
    rw [um_ni (by omega), w3 78 (by decide), fr 78 (by omega)]
    exact hn j hj hb'
  · rcases hsh with ⟨s1, s2, -⟩ | ⟨s1, s2, -⟩ | ⟨s1, s2, -⟩ | ⟨⟨s1, s2⟩ | ⟨s1, s2⟩, -⟩
    · rw [s1] at q1; exact absurd q1 (by simp)
    · rw [s1] at q1; exact absurd q1 (by simp)
    · rw [s2] at q2; exact absurd q2 (by simp)
    · rw [s1] at q1
      rw [s2, ← q1] at q2
      exact absurd q2 (by simp)
    · rw [s1] at q1
      rw [s2, ← q1] at q2
      exact absurd q2 (by simp)
theorem op_image {k : Int} (g : Gl T M K) (ik : I32 k) : Op S 98 189 [vI k] T M K := by
  have hX := g.x
  have hM := g.m
  by_cases h1 : 0 ≤ k ∧ k ≤ 1
  case neg =>
    refine Op.bad (v := -2) (k := 0) g (by decide) (by decide) (by decide) ⟨_, rfl, ?_⟩ (fun M1 h80 => ⟨_, rfl, ?_⟩) trivial
    · refine Rn.cal rfl (X_ild rfl <| X_i <| X_i <| X_nil) (vs := [_, _, _]) (rest := []) rfl rfl rfl rfl (c_wN (by omega) (by decide) (by decide) h1) ?_
      refine Rn.ine rfl (X_nil) (by first | omega | (simp (disch := omega) only [um_eq, um_na, um_ni, Int.toNat_natCast]; omega)) (fun hc => absurd hc (by first | omega | decide | (simp (disch := omega) only [um_eq, um_na, um_ni, Int.toNat_natCast]; omega))) (fun hc => ?_)
      refine Rn.cal rfl (X_ald rfl <| X_i <| X_nil) (vs := [_, _]) (rest := []) rfl rfl rfl (rcv_v hX.ob (by decide)) (c_bad hX) ?_
      refine Rn.ri rfl (X_nil) rfl
    · refine Rn.cal rfl (X_ild rfl <| X_i2l (by first | omega | (simp (disch := omega) only [um_eq, um_na, um_ni, Int.toNat_natCast]; omega)) <| X_l <| X_l <| X_nil) (vs := [_, _, _]) (rest := []) rfl rfl rfl rfl (c_iN (by omega) (by decide) (by decide) h1) ?_
      refine Rn.ine rfl (X_nil) (by first | omega | (simp (disch := omega) only [um_eq, um_na, um_ni, Int.toNat_natCast]; omega)) (fun hc => absurd hc (by first | omega | decide | (simp (disch := omega) only [um_eq, um_na, um_ni, Int.toNat_natCast]; omega))) (fun hc => ?_)
      refine Rn.cal rfl (X_ald rfl <| X_nil) (vs := [_]) (rest := []) rfl rfl rfl (rcv_v hM.ob (by decide)) (c_mbad hM) ?_
      refine Rn.ri rfl (X_nil) rfl
  obtain ⟨i, rfl⟩ : ∃ i : Nat, k = (i : Int) := ⟨k.toNat, by omega⟩
  have hi : i < 2 := by omega
  obtain ⟨ri, hI, i1, i2, i3, i4⟩ := g.im
  cases hr : ri i with
  | some b =>
    obtain ⟨j1, hIm, j3, j4⟩ := i1 i b hi hr
    have hIr : ri ((i : Int)).toNat = some b := by rw [Int.toNat_natCast]; exact hr
    obtain ⟨M1, M2, r1, r2, r3⟩ := img_core (S := S) (Mc := M) hi hX hM hI j1 hr hIm (fun j b' hj ej hb' => by
      obtain ⟨l1, l2, l3, l4⟩ := i1 j b' hj hb'
      refine ⟨l1, fun q => ?_, l2, l3, l4⟩
      subst q
      rcases (show (i = 0 ∧ j = 1) ∨ (i = 1 ∧ j = 0) by omega) with ⟨rfl, rfl⟩ | ⟨rfl, rfl⟩
      · exact i3 b' hr hb'
      · exact i3 b' hb' hr) i2 i4 g.rg g.tx g.re g.fr
    refine ⟨1, T, M1, M2, by decide, ⟨_, rfl, ?_⟩, r2, r3⟩
    refine Rn.cal rfl (X_ild rfl <| X_i <| X_i <| X_nil) (vs := [_, _, _]) (rest := []) rfl rfl rfl rfl (c_wY (by omega) (by decide) (by decide) h1) ?_
    refine Rn.ine rfl (X_nil) (by first | omega | (simp (disch := omega) only [um_eq, um_na, um_ni, Int.toNat_natCast]; omega)) (fun hc => ?_) (fun hc => absurd hc (by first | omega | decide | (simp (disch := omega) only [um_eq, um_na, um_ni, Int.toNat_natCast]; omega)))
    refine Rn.nul rfl (X_ald rfl <| X_gr 7 2 hX.ob ⟨rfl, rfl⟩ rfl rfl <| X_ild rfl <| X_aa hI (by decide) (by first | omega | (simp (disch := omega) only [um_eq, um_na, um_ni, Int.toNat_natCast]; omega)) (by first | omega | (simp (disch := omega) only [um_eq, um_na, um_ni, Int.toNat_natCast]; omega)) rfl hIr <| X_nil) ?_
    exact r1
  | none =>
    have hIn : ri ((i : Int)).toNat = none := by rw [Int.toNat_natCast]; exact hr
    obtain ⟨b, hb⟩ : ∃ b, T.length = b := ⟨_, rfl⟩
    have b88 : b = 88 ∨ b = 115 := by
      rcases i4 with ⟨-, -, s⟩ | ⟨-, -, s⟩ | ⟨-, -, s⟩ | ⟨s, -⟩
      · omega
      · omega
      · omega
      · rcases (show i = 0 ∨ i = 1 by omega) with rfl | rfl
        · rcases s with s | s <;> (rw [s.1] at hr; exact absurd hr (by simp))
        · rcases s with s | s <;> (rw [s.2] at hr; exact absurd hr (by simp))
    obtain ⟨Mc, cn, -, -, -, fz⟩ := c_nState (S := S) (U := T) (M := zm M b) hb
    have fm : ∀ a, a < b → Mc a = M a := fun a ha => by rw [fz a ha, zm_lt ha]
    have gI : (T ++ stL b)[55]? = some (13, 2, ri) := by rw [List.getElem?_append_left (by omega)]; exact hI
    have gV : (T ++ stL b)[b]? = some (6, clN 6, rSt b) := (getA 0 hb).trans rfl
    obtain ⟨T1, hT1⟩ : ∃ T1, (T ++ stL b).set 55 (13, 2, uf ri ((i : Int)).toNat (some b)) = T1 := ⟨_, rfl⟩
    have gl : (T ++ stL b).length = b + 27 := lenA hb
    have l1 : T1.length = b + 27 := by rw [← hT1, List.length_set]; exact gl
    have g1 : ∀ j, j < b → j ≠ 55 → T1[j]? = T[j]? := fun j hj ne => by
      rw [← hT1, List.getElem?_set_ne (by omega), List.getElem?_append_left (by omega)]
    have g55 : T1[55]? = some (13, 2, uf ri i (some b)) := by
      rw [← hT1, List.getElem?_set_self (by omega), Int.toNat_natCast]
    have gS : isSt T1 b := by
      have s0 := stL_is hb []
      rw [List.append_nil] at s0
      exact s0.ext (fun j j1 j2 => by rw [← hT1, List.getElem?_set_ne (by omega)])
    have uo : ∀ j, j ≠ i → uf ri i (some b) j = ri j := fun j hj => if_neg hj
    have ui : uf ri i (some b) i = some b := if_pos rfl
    have oth : ∀ j b', j < 2 → j ≠ i → ri j = some b' → b' = 88 ∧ b = 115 := fun j b' hj ej hb' => by
      rcases i4 with ⟨s1, s2, s⟩ | ⟨s1, s2, s⟩ | ⟨s1, s2, s⟩ | ⟨s, -⟩
      · rcases (show j = 0 ∨ j = 1 by omega) with rfl | rfl
        · rw [s1] at hb'; exact absurd hb' (by simp)
        · rw [s2] at hb'; exact absurd hb' (by simp)
      · rcases (show j = 0 ∨ j = 1 by omega) with rfl | rfl
        · rw [s1] at hb'; exact absurd hb' (by simp)
        · rw [s2] at hb'; exact ⟨(Option.some.inj hb').symm, by omega⟩
      · rcases (show j = 0 ∨ j = 1 by omega) with rfl | rfl
        · rw [s1] at hb'; exact ⟨(Option.some.inj hb').symm, by omega⟩
        · rw [s2] at hb'; exact absurd hb' (by simp)
      · rcases (show i = 0 ∨ i = 1 by omega) with rfl | rfl
        · rcases s with s | s <;> (rw [s.1] at hr; exact absurd hr (by simp))
        · rcases s with s | s <;> (rw [s.2] at hr; exact absurd hr (by simp))
    have hsh : ShOk (uf ri i (some b)) T1.length := by
      rw [l1]
      rcases i4 with ⟨s1, s2, s⟩ | ⟨s1, s2, s⟩ | ⟨s1, s2, s⟩ | ⟨s, -⟩
      · have eb : b = 88 := by omega
        subst eb
        rcases (show i = 0 ∨ i = 1 by omega) with rfl | rfl
        · exact Or.inr (Or.inr (Or.inl ⟨ui, by rw [uo 1 (by decide)]; exact s2, rfl⟩))
        · exact Or.inr (Or.inl ⟨by rw [uo 0 (by decide)]; exact s1, ui, rfl⟩)
      · have eb : b = 115 := by omega
        subst eb
        rcases (show i = 0 ∨ i = 1 by omega) with rfl | rfl
        · exact Or.inr (Or.inr (Or.inr ⟨Or.inr ⟨ui, by rw [uo 1 (by decide)]; exact s2⟩, rfl⟩))
        · rw [s2] at hr; exact absurd hr (by simp)
      · have eb : b = 115 := by omega
        subst eb
        rcases (show i = 0 ∨ i = 1 by omega) with rfl | rfl
        · rw [s1] at hr; exact absurd hr (by simp)
        · exact Or.inr (Or.inr (Or.inr ⟨Or.inl ⟨by rw [uo 0 (by decide)]; exact s1, ui⟩, rfl⟩))
      · rcases (show i = 0 ∨ i = 1 by omega) with rfl | rfl
        · rcases s with s | s <;> (rw [s.1] at hr; exact absurd hr (by simp))
        · rcases s with s | s <;> (rw [s.2] at hr; exact absurd hr (by simp))
    have f77 := fm 77 (by omega)
    obtain ⟨M1, M2, r1, r2, r3⟩ := img_core (S := S) (T1 := T1) (Mc := Mc) (K := K) hi (hX.ext (fun j j1 j2 => g1 j (by omega) j2)) (hM.ext (fun j j1 j2 => g1 j (by omega) (by omega))) g55 b88 ui gS (fun j b' hj ej hb' => by
      rw [uo j ej] at hb'
      obtain ⟨o1, o2⟩ := oth j b' hj ej hb'
      obtain ⟨l1, l2, l3, l4⟩ := i1 j b' hj hb'
      refine ⟨l1, by omega, l2.ext (fun j j1 j2 => g1 j (by omega) (by omega)), by rw [fm 78 (by omega)]; exact l3, ?_⟩
      rw [f77]
      exact l4.cg (fun a a1 a2 _ => fm a (by omega)) (Nat.le_refl K)) (fun j hj hj2 => by
      have ej : j ≠ i := fun q => by rw [q, ui] at hj2; exact absurd hj2 (by simp)
      rw [uo j ej] at hj2
      rw [fm 78 (by omega)]
      exact i2 j hj hj2) hsh (by
      rw [f77]
      exact g.rg.cg (fun a a1 a2 _ => fm a (by omega)) (Nat.le_refl K)) (g.tx.cg (by rw [fm 56 (by omega)]) (fm 57 (by omega)) (by rw [fm 76 (by omega)]) (fm 79 (by omega))) (g.re.cg (fm 59 (by omega)) (fm 80 (by omega)) (Nat.le_refl K)) (g.fr.cg (by rw [fm 0 (by omega)]) (by rw [fm 0 (by omega)]) (by rw [fm 76 (by omega)]) (by rw [fm 76 (by omega)]))
    refine ⟨1, T1, M1, M2, by decide, ⟨_, rfl, ?_⟩, r2, r3⟩
    refine Rn.cal rfl (X_ild rfl <| X_i <| X_i <| X_nil) (vs := [_, _, _]) (rest := []) rfl rfl rfl rfl (c_wY (by omega) (by decide) (by decide) h1) ?_
    refine Rn.ine rfl (X_nil) (by first | omega | (simp (disch := omega) only [um_eq, um_na, um_ni, Int.toNat_natCast]; omega)) (fun hc => ?_) (fun hc => absurd hc (by first | omega | decide | (simp (disch := omega) only [um_eq, um_na, um_ni, Int.toNat_natCast]; omega)))
    refine Rn.nun rfl (X_ald rfl <| X_gr 7 2 hX.ob ⟨rfl, rfl⟩ rfl rfl <| X_ild rfl <| X_an hI (by decide) (by omega) (by omega) rfl hIn <| X_nil) ?_
    refine Rn.cal rfl (X_ald rfl <| X_gr 7 2 hX.ob ⟨rfl, rfl⟩ rfl rfl <| X_ild rfl <| X_nw hb rfl <| X_dupr <| X_nil) (vs := [_]) (rest := [_, _, _]) rfl rfl rfl rfl cn ?_
    refine Rn.fal rfl (X_at gI gV (Or.inr ⟨rfl, rfl⟩) (by omega) (by omega) rfl hT1 <| X_nil) ?_
    exact r1
end Image
