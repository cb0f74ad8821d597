/-! READ: what an item does to a state and to the words that tell it -/
section Reg
variable {S : List Int} {T : List Sh} {C C' P N : Nat → Int → Int} {b K : Nat} {W W' : Int → Int} {r j v w hh c : Int}
def uw (W : Int → Int) (k v : Int) : Int → Int := fun j => if j = k then v else W j
theorem uw_eq {k : Int} : uw W k v k = v := if_pos rfl
theorem uw_ne {k : Int} (h : j ≠ k) : uw W k v j = W j := if_neg h
theorem Rg_new (h1 : 1 ≤ w ∧ w ≤ 7) (h2 : 1 ≤ hh ∧ hh ≤ 7) (hf : C (b + 1) 0 = w ∧ C (b + 1) 1 = hh ∧ C (b + 1) 2 = 0 ∧ C (b + 1) 3 = w * hh - 1 ∧ C (b + 1) 4 = 0 ∧ C (b + 1) 5 = 0 ∧ C (b + 1) 8 = -1 ∧ (∀ c, 0 ≤ c → c < 49 → C (b + 2) c = 0)) (hb : C (b + 4) 1 = 0 ∧ C (b + 4) 2 = 0 ∧ C (b + 4) 3 = 0) (hn : C (b + 23) 0 = 0) (m0 : W r = w) (m1 : W (r + 1) = hh) (m3 : W (r + 3) = w * hh - 1) (mk : ∀ k, 0 ≤ k → k < 187 → k ≠ 0 → k ≠ 1 → k ≠ 3 → W (r + k) = 0) : Rg C b W r K := by
  obtain ⟨f0, f1, f2, f3, f4, f5, f8, ft⟩ := hf
  obtain ⟨b1, b2, b3⟩ := hb
  have p1 : w * hh ≤ 7 * 7 := Int.mul_le_mul h1.2 h2.2 (by omega) (by omega)
  have p0 : 1 * 1 ≤ w * hh := Int.mul_le_mul h1.1 h2.1 (by omega) (by omega)
  unfold Rg
  rw [b1, b2, b3, hn]
  refine ⟨?_, ?_, (mk 6 (by decide) (by decide) (by decide) (by decide) (by decide)).symm, (mk 7 (by decide) (by decide) (by decide) (by decide) (by decide)).symm, (mk 8 (by decide) (by decide) (by decide) (by decide) (by decide)).symm, (mk 9 (by decide) (by decide) (by decide) (by decide) (by decide)).symm, fun i hi => by omega, fun i i0 i1 => by omega, fun i hi => by omega, ⟨FlOk.of ?_ ?_ ?_ ?_ ?_ ?_ ?_, Or.inl f8⟩, by omega, by omega, by omega, by omega, fun i hi => by omega⟩
  · intro k k0 k6
    rcases (show k = 0 ∨ k = 1 ∨ k = 2 ∨ k = 3 ∨ k = 4 ∨ k = 5 by omega) with rfl | rfl | rfl | rfl | rfl | rfl
    · rw [f0, Int.add_zero, m0]
    · rw [f1]; exact m1.symm
    · rw [f2, mk 2 (by decide) (by decide) (by decide) (by decide) (by decide)]
    · rw [f3]; exact m3.symm
    · rw [f4, mk 4 (by decide) (by decide) (by decide) (by decide) (by decide)]
    · rw [f5, mk 5 (by decide) (by decide) (by decide) (by decide) (by decide)]
  · intro c c0 c1
    rw [ft c c0 c1, Int.add_assoc, mk (10 + c) (by omega) (by omega) (by omega) (by omega) (by omega)]
  · rw [f0]; exact h1
  · rw [f1]; exact h2
  · rw [f0, f1, f2]; omega
  · rw [f0, f1, f3]; omega
  · rw [f4]; decide
  · rw [f5]; decide
  · intro c c0 c1
    rw [ft c c0 c1]; decide
theorem Rg.f1 (h : Rg C b W r K) (hj : (j = 2 ∧ 0 ≤ v ∧ v < C (b + 1) 0 * C (b + 1) 1) ∨ (j = 3 ∧ 0 ≤ v ∧ v < C (b + 1) 0 * C (b + 1) 1) ∨ (j = 4 ∧ 0 ≤ v ∧ v ≤ 127)) : Rg (um (um C (b + 1) j v) (b + 1) 8 (-1)) b (uw W (r + j) v) r K := by
  obtain ⟨f0, f1, f2, f3, f4, f5, f6⟩ := h.fl.1
  have e2 : ∀ k, k ≠ 8 → k ≠ j → um (um C (b + 1) j v) (b + 1) 8 (-1) (b + 1) k = C (b + 1) k := fun k h8 hj => by rw [um_ni h8, um_ni hj]
  have ej : um (um C (b + 1) j v) (b + 1) 8 (-1) (b + 1) j = v := by rw [um_ni (by omega), um_eq]
  have e3 : um (um C (b + 1) j v) (b + 1) 8 (-1) (b + 2) = C (b + 2) := by rw [um_fn (by omega), um_fn (by omega)]
  refine h.floor (Nat.le_refl K) (fun a a1 a2 => by rw [um_fn (by omega), um_fn (by omega)]) (fun k hk => uw_ne (by omega)) (fun k k0 k6 => ?_) (fun c c0 c1 => ?_) ⟨FlOk.of ?_ ?_ ?_ ?_ ?_ ?_ ?_, Or.inl um_eq⟩
  · by_cases ek : k = j
    · subst ek
      rw [ej, uw_eq]
    · rw [e2 k (by omega) ek, uw_ne (by omega)]
      exact h.f k k0 k6
  · rw [e3, uw_ne (by omega)]
    exact h.t c c0 c1
  · rw [e2 0 (by omega) (by omega)]; exact f0
  · rw [e2 1 (by omega) (by omega)]; exact f1
  · rw [e2 0 (by omega) (by omega), e2 1 (by omega) (by omega)]
    by_cases ek : j = 2
    · subst ek
      rw [ej]
      omega
    · rw [e2 2 (by omega) (by omega)]
      exact f2
  · rw [e2 0 (by omega) (by omega), e2 1 (by omega) (by omega)]
    by_cases ek : j = 3
    · subst ek
      rw [ej]
      omega
    · rw [e2 3 (by omega) (by omega)]
      exact f3
  · by_cases ek : j = 4
    · subst ek
      rw [ej]
      omega
    · rw [e2 4 (by omega) (by omega)]
      exact f4
  · rw [e2 5 (by omega) (by omega)]; exact f5
  · rw [e3]; exact f6
theorem Rg.cell (h : Rg C b W r K) (c0 : 0 ≤ c) (c9 : c < 49) (hv : 0 ≤ v ∧ v ≤ 9) : Rg (um (um C (b + 2) c v) (b + 1) 8 (-1)) b (uw W (r + 10 + c) v) r K := by
  obtain ⟨f0, f1, f2, f3, f4, f5, f6⟩ := h.fl.1
  have e2 : ∀ k, k ≠ 8 → um (um C (b + 2) c v) (b + 1) 8 (-1) (b + 1) k = C (b + 1) k := fun k h8 => by rw [um_ni h8, um_na (by omega)]
  have e3 : ∀ d, um (um C (b + 2) c v) (b + 1) 8 (-1) (b + 2) d = um C (b + 2) c v (b + 2) d := fun d => um_na (by omega)
  refine h.floor (Nat.le_refl K) (fun a a1 a2 => by rw [um_fn (by omega), um_fn (by omega)]) (fun k hk => uw_ne (by omega)) (fun k k0 k6 => ?_) (fun d d0 d1 => ?_) ⟨FlOk.of ?_ ?_ ?_ ?_ ?_ ?_ ?_, Or.inl um_eq⟩
  · rw [e2 k (by omega), uw_ne (by omega)]
    exact h.f k k0 k6
  · rw [e3]
    by_cases ed : d = c
    · subst ed
      rw [um_eq, uw_eq]
    · rw [um_ni ed, uw_ne (by omega)]
      exact h.t d d0 d1
  · rw [e2 0 (by omega)]; exact f0
  · rw [e2 1 (by omega)]; exact f1
  · rw [e2 0 (by omega), e2 1 (by omega), e2 2 (by omega)]; exact f2
  · rw [e2 0 (by omega), e2 1 (by omega), e2 3 (by omega)]; exact f3
  · rw [e2 4 (by omega)]; exact f4
  · rw [e2 5 (by omega)]; exact f5
  · intro d d0 d1
    rw [e3]
    by_cases ed : d = c
    · subst ed
      rw [um_eq]; exact hv
    · rw [um_ni ed]; exact f6 d d0 d1
theorem Rg.cord (h : Rg C b W r K) (hv : 0 ≤ v ∧ v ≤ 1) : Rg (um C (b + 1) 5 v) b (uw W (r + 5) v) r K := by
  obtain ⟨f0, f1, f2, f3, f4, f5, f6⟩ := h.fl.1
  have fw := h.fl.2
  have e2 : ∀ k, k ≠ 5 → um C (b + 1) 5 v (b + 1) k = C (b + 1) k := fun k h8 => um_ni h8
  have e3 : um C (b + 1) 5 v (b + 2) = C (b + 2) := um_fn (by omega)
  refine h.floor (Nat.le_refl K) (fun a a1 a2 => um_fn (by omega)) (fun k hk => uw_ne (by omega)) (fun k k0 k6 => ?_) (fun d d0 d1 => ?_) ⟨FlOk.of ?_ ?_ ?_ ?_ ?_ ?_ ?_, ?_⟩
  · by_cases ek : k = 5
    · subst ek
      rw [um_eq, uw_eq]
    · rw [e2 k ek, uw_ne (by omega)]
      exact h.f k k0 k6
  · rw [e3, uw_ne (by omega)]
    exact h.t d d0 d1
  · rw [e2 0 (by omega)]; exact f0
  · rw [e2 1 (by omega)]; exact f1
  · rw [e2 0 (by omega), e2 1 (by omega), e2 2 (by omega)]; exact f2
  · rw [e2 0 (by omega), e2 1 (by omega), e2 3 (by omega)]; exact f3
  · rw [e2 4 (by omega)]; exact f4
  · rw [um_eq]; exact hv
  · rw [e3]; exact f6
  · unfold WalkOk
    rw [e2 8 (by omega), e2 3 (by omega), e2 2 (by omega)]
    rcases fw with fw | ⟨x, w1, w2⟩
    · exact Or.inl fw
    · refine Or.inr ⟨x, ?_, w2⟩
      rw [WayIs_cg (M := C) (b := b) (e2 0 (by decide)) (e2 1 (by decide)) (e2 4 (by decide)) e3]
      exact w1
theorem Rg.up {i : Nat} (h : Rg C b W r K) (hi : (i : Int) < C (b + 4) 1) (hv : -1 ≤ v ∧ v ≤ 120) : Rg (um C (b + 16 + 2 * i) 5 v) b (uw W (r + 79 + (i : Int)) v) r K := by
  have z4 := h.z4
  have e4 : um C (b + 16 + 2 * i) 5 v (b + 4) = C (b + 4) := um_fn (by omega)
  refine h.bed (Nat.le_refl K) (fun a ha => um_fn (by omega)) (by rw [e4]) (by rw [e4]) (fun k hk => uw_ne (by omega)) (by rw [e4, uw_ne (by omega)]; exact h.z) (by rw [e4]; exact z4) (fun x hx k k0 k8 => ?_) (fun x hx => ?_)
  · rw [e4] at hx
    have ex := h.s x hx k k0 k8
    by_cases q : x = i ∧ k = 5
    · obtain ⟨rfl, rfl⟩ := q
      rw [um_eq, show r + 59 + 4 * 5 + (x : Int) = r + 79 + x by omega, uw_eq]
    · rw [uw_ne (by omega), ← ex]
      by_cases hxi : x = i
      · subst hxi
        exact um_ni (fun z => q ⟨rfl, z⟩)
      · exact um_na (by omega)
  · rw [e4] at hx
    by_cases hxi : x = i
    · subst hxi
      exact TrB_set (h.tr x hx) (by decide) (by decide) (by
        show -1 ≤ v ∧ v ≤ 120
        exact hv)
    · exact TrB_pw (Nat.le_refl K) (fun k _ _ => um_na (by omega)) (h.tr x hx)
/-- a sleeper more -/
def slW (W : Int → Int) (v : Nat → Int) : Int → Int := fun k => if k = 567 then W 567 + 1 else if k = 620 + W 567 then v 0 else if k = 624 + W 567 then v 1 else if k = 628 + W 567 then v 2 else if k = 632 + W 567 then v 3 else if k = 636 + W 567 then v 4 else if k = 640 + W 567 then -1 else if k = 644 + W 567 then 0 else if k = 648 + W 567 then 0 else W k
def roW (w hh : Int) : Int → Int := fun k => if k = 561 then w else if k = 562 then hh else if k = 564 then w * hh - 1 else 0
/-- what an item makes of the words -/
def apW (W : Int → Int) (it : Nat) (v : Nat → Int) : Int → Int := match it with
  | 0 => roW (v 0) (v 1)
  | 1 => uw W 563 (v 0)
  | 2 => uw W 564 (v 0)
  | 3 => uw W (571 + v 0) (v 1)
  | 4 => uw W 565 (o_or (W 565) (o_shl 1 (v 0)))
  | 5 => uw W 566 1
  | 6 => slW W v
  | _ => uw W (640 + v 0) (v 1)
def hiI (W : Int → Int) (it : Nat) (i : Nat) : Int := match it with
  | 0 => 7
  | 3 => if i = 0 then W 561 * W 562 - 1 else 9
  | 4 => W 561 - 1
  | 6 => mostV (i : Int)
  | 7 => if i = 0 then W 567 - 1 else 120
  | _ => W 561 * W 562 - 1
def cnI (it : Nat) : Nat := match it with
  | 0 => 2
  | 1 => 1
  | 2 => 1
  | 3 => 2
  | 4 => 1
  | 5 => 0
  | 6 => 5
  | _ => 2
def loI (it : Nat) : Int := if it = 0 then 1 else 0
theorem moon_in {m x : Int} (m0 : 0 ≤ m) (m1 : m ≤ 127) (x0 : 0 ≤ x) (x6 : x ≤ 6) : 0 ≤ o_or m (o_shl 1 x) ∧ o_or m (o_shl 1 x) ≤ 127 := by
  have key : ∀ (x : Fin 7) (m : Fin 128), 0 ≤ o_or (m.val : Int) (o_shl 1 (x.val : Int)) ∧ o_or (m.val : Int) (o_shl 1 (x.val : Int)) ≤ 127 := by decide +kernel
  have := key ⟨x.toNat, by omega⟩ ⟨m.toNat, by omega⟩
  simp only [Int.toNat_of_nonneg m0, Int.toNat_of_nonneg x0] at this
  exact this
/-- the words that a state in hand is told by -/
theorem Rg.wds (h : Rg C 28 W 561 K) : C (28 + 1) 0 = W 561 ∧ C (28 + 1) 1 = W 562 ∧ C (28 + 1) 4 = W 565 ∧ C (28 + 4) 1 = W 567 ∧ (1 ≤ W 561 ∧ W 561 ≤ 7) ∧ (1 ≤ W 561 * W 562 ∧ W 561 * W 562 ≤ 49) ∧ (0 ≤ W 565 ∧ W 565 ≤ 127) ∧ (0 ≤ W 567 ∧ W 567 ≤ 4) := by
  have f0 : C (28 + 1) 0 = W 561 := h.f 0 (by decide) (by decide)
  have f1 : C (28 + 1) 1 = W 562 := h.f 1 (by decide) (by decide)
  have f4 : C (28 + 1) 4 = W 565 := h.f 4 (by decide) (by decide)
  have f6 : C (28 + 4) 1 = W 567 := h.z
  obtain ⟨g0, g1, g2, g3, g4, g5, g6⟩ := h.fl.1
  have nn := h.fl.1.n
  have z4 := h.z4
  rw [f0] at g0
  rw [f0, f1] at nn
  rw [f4] at g4
  rw [f6] at z4
  exact ⟨f0, f1, f4, f6, g0, nn, g4, z4⟩
/-- what the class takes at most -/
theorem c_mostOf {it i : Nat} (hX : isX T) (hC : it ≠ 0 → Rg C 28 W 561 K) (hit : it < 8) (hi : i < cnI it) (hP : ∀ a, a ≠ 56 → a ≠ 58 → P a = C a) : Cl S 42 [vR 28, vI (it : Int), vI (i : Int)] (T, P) (some (vI (hiI W it i)), (T, P)) := by
  have hO := hX.s2
  have p29 : P (28 + 1) = C (28 + 1) := hP _ (by decide) (by decide)
  have p32 : P (28 + 4) = C (28 + 4) := hP _ (by decide) (by decide)
  have hl : ((roL S 1).length : Int) = 6 := rfl
  refine ⟨_, rfl, ?_⟩
  rcases (show it = 0 ∨ it = 1 ∨ it = 2 ∨ it = 3 ∨ it = 4 ∨ it = 5 ∨ it = 6 ∨ it = 7 by omega) with rfl | rfl | rfl | rfl | rfl | rfl | rfl | rfl
  · show Rn S 42 0 ([], [some (vR 28), some (vI 0), some (vI (i : Int)), none], T, P) (some (vI 7), (T, P))
    refine Rn.swi (q' := 64) rfl (X_ald rfl <| X_gr 6 0 hO.st ⟨rfl, rfl⟩ rfl rfl <| X_gi 1 0 0 hO.fl ⟨rfl, rfl, rfl⟩ (Or.inl rfl) <| X_ald rfl <| X_gr 6 0 hO.st ⟨rfl, rfl⟩ rfl rfl <| X_gi 1 1 1 hO.fl ⟨rfl, rfl, rfl⟩ (Or.inl rfl) <| X_mul <| X_i <| X_sub <| X_ist rfl (L' := [_, _, _, _]) rfl <| X_ild rfl <| X_nil) (by first | omega | (simp (disch := omega) only [um_eq, um_na, um_ni, Int.toNat_natCast]; omega)) (by first | rfl | (rw [e]; rfl)) ?_
    refine Rn.ri rfl (X_i <| X_nil) rfl
  · obtain ⟨w0, w1, w4, w6, -⟩ := (hC (by decide)).wds
    show Rn S 42 0 ([], [some (vR 28), some (vI 1), some (vI (i : Int)), none], T, P) (some (vI (W 561 * W 562 - 1)), (T, P))
    rw [← w0, ← w1, ← p29]
    refine Rn.swi (q' := 116) rfl (X_ald rfl <| X_gr 6 0 hO.st ⟨rfl, rfl⟩ rfl rfl <| X_gi 1 0 0 hO.fl ⟨rfl, rfl, rfl⟩ (Or.inl rfl) <| X_ald rfl <| X_gr 6 0 hO.st ⟨rfl, rfl⟩ rfl rfl <| X_gi 1 1 1 hO.fl ⟨rfl, rfl, rfl⟩ (Or.inl rfl) <| X_mul <| X_i <| X_sub <| X_ist rfl (L' := [_, _, _, _]) rfl <| X_ild rfl <| X_nil) (by first | omega | (simp (disch := omega) only [um_eq, um_na, um_ni, Int.toNat_natCast]; omega)) (by first | rfl | (rw [e]; rfl)) ?_
    refine Rn.ri rfl (X_ild rfl <| X_nil) rfl
  · obtain ⟨w0, w1, w4, w6, -⟩ := (hC (by decide)).wds
    show Rn S 42 0 ([], [some (vR 28), some (vI 2), some (vI (i : Int)), none], T, P) (some (vI (W 561 * W 562 - 1)), (T, P))
    rw [← w0, ← w1, ← p29]
    refine Rn.swi (q' := 116) rfl (X_ald rfl <| X_gr 6 0 hO.st ⟨rfl, rfl⟩ rfl rfl <| X_gi 1 0 0 hO.fl ⟨rfl, rfl, rfl⟩ (Or.inl rfl) <| X_ald rfl <| X_gr 6 0 hO.st ⟨rfl, rfl⟩ rfl rfl <| X_gi 1 1 1 hO.fl ⟨rfl, rfl, rfl⟩ (Or.inl rfl) <| X_mul <| X_i <| X_sub <| X_ist rfl (L' := [_, _, _, _]) rfl <| X_ild rfl <| X_nil) (by first | omega | (simp (disch := omega) only [um_eq, um_na, um_ni, Int.toNat_natCast]; omega)) (by first | rfl | (rw [e]; rfl)) ?_
    refine Rn.ri rfl (X_ild rfl <| X_nil) rfl
  · obtain ⟨w0, w1, w4, w6, -⟩ := (hC (by decide)).wds
    have hi : i < 2 := hi
    show Rn S 42 0 ([], [some (vR 28), some (vI 3), some (vI (i : Int)), none], T, P) (some (vI (if i = 0 then W 561 * W 562 - 1 else 9)), (T, P))
    rw [← w0, ← w1, ← p29]
    by_cases e : i = 0
    · rw [if_pos e]
      refine Rn.swi (q' := 67) rfl (X_ald rfl <| X_gr 6 0 hO.st ⟨rfl, rfl⟩ rfl rfl <| X_gi 1 0 0 hO.fl ⟨rfl, rfl, rfl⟩ (Or.inl rfl) <| X_ald rfl <| X_gr 6 0 hO.st ⟨rfl, rfl⟩ rfl rfl <| X_gi 1 1 1 hO.fl ⟨rfl, rfl, rfl⟩ (Or.inl rfl) <| X_mul <| X_i <| X_sub <| X_ist rfl (L' := [_, _, _, _]) rfl <| X_ild rfl <| X_nil) (by first | omega | (simp (disch := omega) only [um_eq, um_na, um_ni, Int.toNat_natCast]; omega)) (by first | rfl | (rw [e]; rfl)) ?_
      refine Rn.ine rfl (X_ild rfl <| X_nil) (by first | omega | (simp (disch := omega) only [um_eq, um_na, um_ni, Int.toNat_natCast]; omega)) (fun hc => absurd hc (by first | omega | decide | (simp (disch := omega) only [um_eq, um_na, um_ni, Int.toNat_natCast]; omega))) (fun hc => ?_)
      refine Rn.jto rfl (X_ild rfl <| X_nil) ?_
      refine Rn.ri rfl (X_nil) rfl
    · rw [if_neg e]
      refine Rn.swi (q' := 67) rfl (X_ald rfl <| X_gr 6 0 hO.st ⟨rfl, rfl⟩ rfl rfl <| X_gi 1 0 0 hO.fl ⟨rfl, rfl, rfl⟩ (Or.inl rfl) <| X_ald rfl <| X_gr 6 0 hO.st ⟨rfl, rfl⟩ rfl rfl <| X_gi 1 1 1 hO.fl ⟨rfl, rfl, rfl⟩ (Or.inl rfl) <| X_mul <| X_i <| X_sub <| X_ist rfl (L' := [_, _, _, _]) rfl <| X_ild rfl <| X_nil) (by first | omega | (simp (disch := omega) only [um_eq, um_na, um_ni, Int.toNat_natCast]; omega)) (by first | rfl | (rw [e]; rfl)) ?_
      refine Rn.ine rfl (X_ild rfl <| X_nil) (by first | omega | (simp (disch := omega) only [um_eq, um_na, um_ni, Int.toNat_natCast]; omega)) (fun hc => ?_) (fun hc => absurd hc (by first | omega | decide | (simp (disch := omega) only [um_eq, um_na, um_ni, Int.toNat_natCast]; omega)))
      refine Rn.fal rfl (X_i <| X_nil) ?_
      refine Rn.ri rfl (X_nil) rfl
  · obtain ⟨w0, w1, w4, w6, -⟩ := (hC (by decide)).wds
    show Rn S 42 0 ([], [some (vR 28), some (vI 4), some (vI (i : Int)), none], T, P) (some (vI (W 561 - 1)), (T, P))
    rw [← w0, ← p29]
    refine Rn.swi (q' := 78) rfl (X_ald rfl <| X_gr 6 0 hO.st ⟨rfl, rfl⟩ rfl rfl <| X_gi 1 0 0 hO.fl ⟨rfl, rfl, rfl⟩ (Or.inl rfl) <| X_ald rfl <| X_gr 6 0 hO.st ⟨rfl, rfl⟩ rfl rfl <| X_gi 1 1 1 hO.fl ⟨rfl, rfl, rfl⟩ (Or.inl rfl) <| X_mul <| X_i <| X_sub <| X_ist rfl (L' := [_, _, _, _]) rfl <| X_ild rfl <| X_nil) (by first | omega | (simp (disch := omega) only [um_eq, um_na, um_ni, Int.toNat_natCast]; omega)) (by first | rfl | (rw [e]; rfl)) ?_
    refine Rn.ri rfl (X_ald rfl <| X_gr 6 0 hO.st ⟨rfl, rfl⟩ rfl rfl <| X_gi 1 0 0 hO.fl ⟨rfl, rfl, rfl⟩ (Or.inl rfl) <| X_i <| X_sub <| X_nil) rfl
  · exact absurd hi (Nat.not_lt_zero i)
  · have hi : i < 5 := hi
    show Rn S 42 0 ([], [some (vR 28), some (vI 6), some (vI (i : Int)), none], T, P) (some (vI (mostV (i : Int))), (T, P))
    rw [← most_at (S := S) (k := (i : Int)) (by omega) (by omega)]
    refine Rn.swi (q' := 88) rfl (X_ald rfl <| X_gr 6 0 hO.st ⟨rfl, rfl⟩ rfl rfl <| X_gi 1 0 0 hO.fl ⟨rfl, rfl, rfl⟩ (Or.inl rfl) <| X_ald rfl <| X_gr 6 0 hO.st ⟨rfl, rfl⟩ rfl rfl <| X_gi 1 1 1 hO.fl ⟨rfl, rfl, rfl⟩ (Or.inl rfl) <| X_mul <| X_i <| X_sub <| X_ist rfl (L' := [_, _, _, _]) rfl <| X_ild rfl <| X_nil) (by first | omega | (simp (disch := omega) only [um_eq, um_na, um_ni, Int.toNat_natCast]; omega)) (by first | rfl | (rw [e]; rfl)) ?_
    refine Rn.ri rfl (X_o <| X_ild rfl <| X_io rfl (by first | omega | (simp (disch := omega) only [um_eq, um_na, um_ni, Int.toNat_natCast]; omega)) (by show (i : Int) < ((roL S 1).length : Int); rw [hl]; omega) (by first | omega | (simp (disch := omega) only [um_eq, um_na, um_ni, Int.toNat_natCast]; omega)) <| X_nil) rfl
  · obtain ⟨w0, w1, w4, w6, -⟩ := (hC (by decide)).wds
    have hi : i < 2 := hi
    show Rn S 42 0 ([], [some (vR 28), some (vI 7), some (vI (i : Int)), none], T, P) (some (vI (if i = 0 then W 567 - 1 else 120)), (T, P))
    rw [← w6, ← p32]
    by_cases e : i = 0
    · rw [if_pos e]
      refine Rn.swi (q' := 94) rfl (X_ald rfl <| X_gr 6 0 hO.st ⟨rfl, rfl⟩ rfl rfl <| X_gi 1 0 0 hO.fl ⟨rfl, rfl, rfl⟩ (Or.inl rfl) <| X_ald rfl <| X_gr 6 0 hO.st ⟨rfl, rfl⟩ rfl rfl <| X_gi 1 1 1 hO.fl ⟨rfl, rfl, rfl⟩ (Or.inl rfl) <| X_mul <| X_i <| X_sub <| X_ist rfl (L' := [_, _, _, _]) rfl <| X_ild rfl <| X_nil) (by first | omega | (simp (disch := omega) only [um_eq, um_na, um_ni, Int.toNat_natCast]; omega)) (by first | rfl | (rw [e]; rfl)) ?_
      refine Rn.ine rfl (X_ild rfl <| X_nil) (by first | omega | (simp (disch := omega) only [um_eq, um_na, um_ni, Int.toNat_natCast]; omega)) (fun hc => absurd hc (by first | omega | decide | (simp (disch := omega) only [um_eq, um_na, um_ni, Int.toNat_natCast]; omega))) (fun hc => ?_)
      refine Rn.jto rfl (X_ald rfl <| X_gr 6 1 hO.st ⟨rfl, rfl⟩ rfl rfl <| X_gi 0 1 1 hO.be ⟨rfl, rfl, rfl⟩ (Or.inl rfl) <| X_i <| X_sub <| X_nil) ?_
      refine Rn.ri rfl (X_nil) rfl
    · rw [if_neg e]
      refine Rn.swi (q' := 94) rfl (X_ald rfl <| X_gr 6 0 hO.st ⟨rfl, rfl⟩ rfl rfl <| X_gi 1 0 0 hO.fl ⟨rfl, rfl, rfl⟩ (Or.inl rfl) <| X_ald rfl <| X_gr 6 0 hO.st ⟨rfl, rfl⟩ rfl rfl <| X_gi 1 1 1 hO.fl ⟨rfl, rfl, rfl⟩ (Or.inl rfl) <| X_mul <| X_i <| X_sub <| X_ist rfl (L' := [_, _, _, _]) rfl <| X_ild rfl <| X_nil) (by first | omega | (simp (disch := omega) only [um_eq, um_na, um_ni, Int.toNat_natCast]; omega)) (by first | rfl | (rw [e]; rfl)) ?_
      refine Rn.ine rfl (X_ild rfl <| X_nil) (by first | omega | (simp (disch := omega) only [um_eq, um_na, um_ni, Int.toNat_natCast]; omega)) (fun hc => ?_) (fun hc => absurd hc (by first | omega | decide | (simp (disch := omega) only [um_eq, um_na, um_ni, Int.toNat_natCast]; omega)))
      have fin : Rn S 42 110 ([], [some (vR 28), some (vI 7), some (vI (i : Int)), some (vI (P (28 + 1) 0 * P (28 + 1) 1 - 1))], T, P) (some (vI ((roL S 1).getD (5 : Int).toNat 0)), (T, P)) := by
        refine Rn.fal rfl (X_o <| X_i <| X_io rfl (by first | omega | (simp (disch := omega) only [um_eq, um_na, um_ni, Int.toNat_natCast]; omega)) (by show (5 : Int) < ((roL S 1).length : Int); rw [hl]; omega) (by first | omega | (simp (disch := omega) only [um_eq, um_na, um_ni, Int.toNat_natCast]; omega)) <| X_nil) ?_
        refine Rn.ri rfl (X_nil) rfl
      exact fin
theorem hiI_in {it i : Nat} (hC : it ≠ 0 → Rg C 28 W 561 K) (hit : it < 8) (hi : i < cnI it) : I32 (hiI W it i) := by
  rcases (show it = 0 ∨ it = 1 ∨ it = 2 ∨ it = 3 ∨ it = 4 ∨ it = 5 ∨ it = 6 ∨ it = 7 by omega) with rfl | rfl | rfl | rfl | rfl | rfl | rfl | rfl
  · show I32 7
    decide
  · obtain ⟨-, -, -, -, -, w, -⟩ := (hC (by decide)).wds
    show I32 (W 561 * W 562 - 1)
    omega
  · obtain ⟨-, -, -, -, -, w, -⟩ := (hC (by decide)).wds
    show I32 (W 561 * W 562 - 1)
    omega
  · obtain ⟨-, -, -, -, -, w, -⟩ := (hC (by decide)).wds
    show I32 (if i = 0 then W 561 * W 562 - 1 else 9)
    split <;> omega
  · obtain ⟨-, -, -, -, w, -⟩ := (hC (by decide)).wds
    show I32 (W 561 - 1)
    omega
  · exact absurd hi (Nat.not_lt_zero i)
  · have := mostV_in (k := (i : Int))
    show I32 (mostV (i : Int))
    omega
  · obtain ⟨-, -, -, -, -, -, -, w⟩ := (hC (by decide)).wds
    show I32 (if i = 0 then W 567 - 1 else 120)
    split <;> omega
theorem cnI_at {it : Nat} (hit : it < 8) : (roL S 2).getD ((it : Int)).toNat 0 = (cnI it : Int) ∧ cnI it ≤ 5 := by
  rcases (show it = 0 ∨ it = 1 ∨ it = 2 ∨ it = 3 ∨ it = 4 ∨ it = 5 ∨ it = 6 ∨ it = 7 by omega) with rfl | rfl | rfl | rfl | rfl | rfl | rfl | rfl <;> exact ⟨rfl, by decide⟩
/-- the class does what an item says -/
theorem c_apply {it : Nat} {v : Nat → Int} (hX : isX T) (hC : it ≠ 0 → Rg P 28 W 561 K) (hit : it < 8) (h6 : it = 6 → W 567 < 4) (hv : ∀ i, i < cnI it → P 58 (i : Int) = v i ∧ loI it ≤ v i ∧ v i ≤ hiI W it i) : ∃ P', Cl S 43 [vR 56, vR 28, vI (it : Int)] (T, P) (none, (T, P')) ∧ Rg P' 28 (apW W it v) 561 K ∧ (∀ a, a < 28 ∨ 55 ≤ a → P' a = P a) := by
  have hO := hX.s2
  rcases (show it = 0 ∨ it = 1 ∨ it = 2 ∨ it = 3 ∨ it = 4 ∨ it = 5 ∨ it = 6 ∨ it = 7 by omega) with rfl | rfl | rfl | rfl | rfl | rfl | rfl | rfl
  · obtain ⟨p0, l0, u0⟩ := hv 0 (by decide)
    obtain ⟨p1, l1, u1⟩ := hv 1 (by decide)
    have l0 : 1 ≤ v 0 := l0
    have u0 : v 0 ≤ 7 := u0
    have l1 : 1 ≤ v 1 := l1
    have u1 : v 1 ≤ 7 := u1
    have p0 : P 58 0 = v 0 := p0
    have p1 : P 58 1 = v 1 := p1
    obtain ⟨Q, cs, qf, qb, qn, qa⟩ := c_startAnew (S := S) (M := P) (w := P 58 0) (h := P 58 1) hO
    rw [p0, p1] at qf
    refine ⟨Q, ⟨_, rfl, ?_⟩, ?_, fun a ha => qa a (by omega) (by omega) (by omega) (by omega)⟩
    · show Rn S 43 0 ([], [some (vR 56), some (vR 28), some (vI 0)], T, P) (none, (T, Q))
      refine Rn.swi (q' := 44) rfl (X_ild rfl <| X_nil) (by first | omega | (simp (disch := omega) only [um_eq, um_na, um_ni, Int.toNat_natCast]; omega)) (by first | rfl | (rw [e]; rfl)) ?_
      refine Rn.cal rfl (X_ald rfl <| X_ald rfl <| X_gr 4 2 hX.sc ⟨rfl, rfl⟩ rfl rfl <| X_i <| X_ia hX.nu (by first | omega | (simp (disch := omega) only [um_eq, um_na, um_ni, Int.toNat_natCast]; omega)) (by first | omega | (simp (disch := omega) only [um_eq, um_na, um_ni, Int.toNat_natCast]; omega)) rfl <| X_ald rfl <| X_gr 4 2 hX.sc ⟨rfl, rfl⟩ rfl rfl <| X_i <| X_ia hX.nu (by first | omega | (simp (disch := omega) only [um_eq, um_na, um_ni, Int.toNat_natCast]; omega)) (by first | omega | (simp (disch := omega) only [um_eq, um_na, um_ni, Int.toNat_natCast]; omega)) rfl <| X_nil) (vs := [_, _, _]) (rest := []) rfl rfl rfl (rcv_v hO.st (by decide)) (cs) ?_
      refine Rn.jto rfl (X_nil) ?_
      refine Rn.rv rfl (X_nil) rfl
    · show Rg Q 28 (roW (v 0) (v 1)) 561 K
      refine Rg_new ⟨l0, u0⟩ ⟨l1, u1⟩ qf qb qn (if_pos rfl) ?_ ?_ (fun k k0 k1 k2 k3 k4 => ?_)
      · show roW (v 0) (v 1) 562 = _
        unfold roW
        rw [if_neg (by decide), if_pos rfl]
      · show roW (v 0) (v 1) 564 = _
        unfold roW
        rw [if_neg (by decide), if_neg (by decide), if_pos rfl]
      · unfold roW
        rw [if_neg (by omega), if_neg (by omega), if_neg (by omega)]
  · have hR := hC (by decide)
    obtain ⟨w0, w1, w4, w6, w7, w9, -⟩ := hR.wds
    obtain ⟨p0, l0, u0⟩ := hv 0 (by decide)
    have l0 : 0 ≤ v 0 := l0
    have u0 : v 0 ≤ W 561 * W 562 - 1 := u0
    have p0 : P 58 0 = v 0 := p0
    have cp := c_putSwitch (S := S) (M := P) (c := P 58 0) hO
    refine ⟨um (um P (28 + 1) 2 (P 58 0)) (28 + 1) 8 (-1), ⟨_, rfl, ?_⟩, ?_, fun a ha => by rw [um_fn (by omega), um_fn (by omega)]⟩
    · show Rn S 43 0 ([], [some (vR 56), some (vR 28), some (vI 1)], T, P) (none, (T, _))
      refine Rn.swi (q' := 63) rfl (X_ild rfl <| X_nil) (by first | omega | (simp (disch := omega) only [um_eq, um_na, um_ni, Int.toNat_natCast]; omega)) (by first | rfl | (rw [e]; rfl)) ?_
      refine Rn.cal rfl (X_ald rfl <| X_gr 6 0 hO.st ⟨rfl, rfl⟩ rfl rfl <| X_ald rfl <| X_gr 4 2 hX.sc ⟨rfl, rfl⟩ rfl rfl <| X_i <| X_ia hX.nu (by first | omega | (simp (disch := omega) only [um_eq, um_na, um_ni, Int.toNat_natCast]; omega)) (by first | omega | (simp (disch := omega) only [um_eq, um_na, um_ni, Int.toNat_natCast]; omega)) rfl <| X_nil) (vs := [_, _]) (rest := []) rfl rfl rfl (rcv_v hO.fl (by decide)) (cp) ?_
      refine Rn.jto rfl (X_nil) ?_
      refine Rn.rv rfl (X_nil) rfl
    · show Rg _ 28 (uw W 563 (v 0)) 561 K
      rw [p0]
      exact hR.f1 (j := 2) (Or.inl ⟨rfl, l0, by rw [w0, w1]; omega⟩)
  · have hR := hC (by decide)
    obtain ⟨w0, w1, w4, w6, w7, w9, -⟩ := hR.wds
    obtain ⟨p0, l0, u0⟩ := hv 0 (by decide)
    have l0 : 0 ≤ v 0 := l0
    have u0 : v 0 ≤ W 561 * W 562 - 1 := u0
    have p0 : P 58 0 = v 0 := p0
    have cp := c_putBed (S := S) (M := P) (c := P 58 0) hO
    refine ⟨um (um P (28 + 1) 3 (P 58 0)) (28 + 1) 8 (-1), ⟨_, rfl, ?_⟩, ?_, fun a ha => by rw [um_fn (by omega), um_fn (by omega)]⟩
    · show Rn S 43 0 ([], [some (vR 56), some (vR 28), some (vI 2)], T, P) (none, (T, _))
      refine Rn.swi (q' := 79) rfl (X_ild rfl <| X_nil) (by first | omega | (simp (disch := omega) only [um_eq, um_na, um_ni, Int.toNat_natCast]; omega)) (by first | rfl | (rw [e]; rfl)) ?_
      refine Rn.cal rfl (X_ald rfl <| X_gr 6 0 hO.st ⟨rfl, rfl⟩ rfl rfl <| X_ald rfl <| X_gr 4 2 hX.sc ⟨rfl, rfl⟩ rfl rfl <| X_i <| X_ia hX.nu (by first | omega | (simp (disch := omega) only [um_eq, um_na, um_ni, Int.toNat_natCast]; omega)) (by first | omega | (simp (disch := omega) only [um_eq, um_na, um_ni, Int.toNat_natCast]; omega)) rfl <| X_nil) (vs := [_, _]) (rest := []) rfl rfl rfl (rcv_v hO.fl (by decide)) (cp) ?_
      refine Rn.jto rfl (X_nil) ?_
      refine Rn.rv rfl (X_nil) rfl
    · show Rg _ 28 (uw W 564 (v 0)) 561 K
      rw [p0]
      exact hR.f1 (j := 3) (Or.inr (Or.inl ⟨rfl, l0, by rw [w0, w1]; omega⟩))
  · have hR := hC (by decide)
    obtain ⟨w0, w1, w4, w6, w7, w9, -⟩ := hR.wds
    obtain ⟨p0, l0, u0⟩ := hv 0 (by decide)
    obtain ⟨p1, l1, u1⟩ := hv 1 (by decide)
    have l0 : 0 ≤ v 0 := l0
    have u0 : v 0 ≤ W 561 * W 562 - 1 := u0
    have l1 : 0 ≤ v 1 := l1
    have u1 : v 1 ≤ 9 := u1
    have p0 : P 58 0 = v 0 := p0
    have p1 : P 58 1 = v 1 := p1
    have cp := c_putThings (S := S) (M := P) (c := P 58 0) (n := P 58 1) hO (by omega) (by omega)
    refine ⟨um (um P (28 + 2) (P 58 0) (P 58 1)) (28 + 1) 8 (-1), ⟨_, rfl, ?_⟩, ?_, fun a ha => by rw [um_fn (by omega), um_fn (by omega)]⟩
    · show Rn S 43 0 ([], [some (vR 56), some (vR 28), some (vI 3)], T, P) (none, (T, _))
      refine Rn.swi (q' := 95) rfl (X_ild rfl <| X_nil) (by first | omega | (simp (disch := omega) only [um_eq, um_na, um_ni, Int.toNat_natCast]; omega)) (by first | rfl | (rw [e]; rfl)) ?_
      refine Rn.cal rfl (X_ald rfl <| X_gr 6 0 hO.st ⟨rfl, rfl⟩ rfl rfl <| X_ald rfl <| X_gr 4 2 hX.sc ⟨rfl, rfl⟩ rfl rfl <| X_i <| X_ia hX.nu (by first | omega | (simp (disch := omega) only [um_eq, um_na, um_ni, Int.toNat_natCast]; omega)) (by first | omega | (simp (disch := omega) only [um_eq, um_na, um_ni, Int.toNat_natCast]; omega)) rfl <| X_ald rfl <| X_gr 4 2 hX.sc ⟨rfl, rfl⟩ rfl rfl <| X_i <| X_ia hX.nu (by first | omega | (simp (disch := omega) only [um_eq, um_na, um_ni, Int.toNat_natCast]; omega)) (by first | omega | (simp (disch := omega) only [um_eq, um_na, um_ni, Int.toNat_natCast]; omega)) rfl <| X_nil) (vs := [_, _, _]) (rest := []) rfl rfl rfl (rcv_v hO.fl (by decide)) (cp) ?_
      refine Rn.jto rfl (X_nil) ?_
      refine Rn.rv rfl (X_nil) rfl
    · show Rg _ 28 (uw W (571 + v 0) (v 1)) 561 K
      rw [p0, p1]
      exact hR.cell l0 (by omega) ⟨l1, u1⟩
  · have hR := hC (by decide)
    obtain ⟨w0, w1, w4, w6, w7, w9, w5, -⟩ := hR.wds
    obtain ⟨p0, l0, u0⟩ := hv 0 (by decide)
    have l0 : 0 ≤ v 0 := l0
    have u0 : v 0 ≤ W 561 - 1 := u0
    have p0 : P 58 0 = v 0 := p0
    have mi := moon_in (m := W 565) (x := v 0) w5.1 w5.2 l0 (by omega)
    have cp := c_shineOn (S := S) (M := P) (c := o_or (P (28 + 1) 4) (o_shl 1 (P 58 0))) hO
    refine ⟨um (um P (28 + 1) 4 (o_or (P (28 + 1) 4) (o_shl 1 (P 58 0)))) (28 + 1) 8 (-1), ⟨_, rfl, ?_⟩, ?_, fun a ha => by rw [um_fn (by omega), um_fn (by omega)]⟩
    · show Rn S 43 0 ([], [some (vR 56), some (vR 28), some (vI 4)], T, P) (none, (T, _))
      refine Rn.swi (q' := 117) rfl (X_ild rfl <| X_nil) (by first | omega | (simp (disch := omega) only [um_eq, um_na, um_ni, Int.toNat_natCast]; omega)) (by first | rfl | (rw [e]; rfl)) ?_
      refine Rn.cal rfl (X_ald rfl <| X_gr 6 0 hO.st ⟨rfl, rfl⟩ rfl rfl <| X_ald rfl <| X_gr 6 0 hO.st ⟨rfl, rfl⟩ rfl rfl <| X_gi 1 4 4 hO.fl ⟨rfl, rfl, rfl⟩ (Or.inl rfl) <| X_i <| X_ald rfl <| X_gr 4 2 hX.sc ⟨rfl, rfl⟩ rfl rfl <| X_i <| X_ia hX.nu (by first | omega | (simp (disch := omega) only [um_eq, um_na, um_ni, Int.toNat_natCast]; omega)) (by first | omega | (simp (disch := omega) only [um_eq, um_na, um_ni, Int.toNat_natCast]; omega)) rfl <| X_shl <| X_or <| X_nil) (vs := [_, _]) (rest := []) rfl rfl rfl (rcv_v hO.fl (by decide)) (cp) ?_
      refine Rn.jto rfl (X_nil) ?_
      refine Rn.rv rfl (X_nil) rfl
    · show Rg _ 28 (uw W 565 (o_or (W 565) (o_shl 1 (v 0)))) 561 K
      rw [w4, p0]
      exact hR.f1 (j := 4) (Or.inr (Or.inr ⟨rfl, mi.1, mi.2⟩))
  · have hR := hC (by decide)
    refine ⟨um P (28 + 1) 5 1, ⟨_, rfl, ?_⟩, ?_, fun a ha => by rw [um_fn (by omega)]⟩
    · show Rn S 43 0 ([], [some (vR 56), some (vR 28), some (vI 5)], T, P) (none, (T, _))
      refine Rn.swi (q' := 143) rfl (X_ild rfl <| X_nil) (by first | omega | (simp (disch := omega) only [um_eq, um_na, um_ni, Int.toNat_natCast]; omega)) (by first | rfl | (rw [e]; rfl)) ?_
      refine Rn.jto rfl (X_ald rfl <| X_gr 6 0 hO.st ⟨rfl, rfl⟩ rfl rfl <| X_i <| X_pi 1 5 5 hO.fl ⟨rfl, rfl, rfl⟩ (Or.inl rfl) <| X_nil) ?_
      refine Rn.rv rfl (X_nil) rfl
    · show Rg _ 28 (uw W 566 1) 561 K
      exact hR.cord (by decide)
  · have hR := hC (by decide)
    obtain ⟨w0, w1, w4, w6, w7, w9, w5, w8⟩ := hR.wds
    have h4 := h6 rfl
    obtain ⟨p0, l0, u0⟩ := hv 0 (by decide)
    obtain ⟨p1, l1, u1⟩ := hv 1 (by decide)
    obtain ⟨p2, l2, u2⟩ := hv 2 (by decide)
    obtain ⟨p3, l3, u3⟩ := hv 3 (by decide)
    obtain ⟨p4, l4, u4⟩ := hv 4 (by decide)
    have p0 : P 58 0 = v 0 := p0
    have p1 : P 58 1 = v 1 := p1
    have p2 : P 58 2 = v 2 := p2
    have p3 : P 58 3 = v 3 := p3
    have p4 : P 58 4 = v 4 := p4
    have u0 : v 0 ≤ 5 := u0
    have u1 : v 1 ≤ 120 := u1
    have u2 : v 2 ≤ 9 := u2
    have u3 : v 3 ≤ 20 := u3
    have u4 : v 4 ≤ 60 := u4
    obtain ⟨Q, cw, q1, qj, qt, qa⟩ := c_welcome (S := S) (M := P) (b := 28) (k := P 58 0) (r := P 58 1) (t := P 58 2) (c := P 58 3) (p := P 58 4) hO (by rw [w6]; exact w8.1) (by rw [w6]; exact h4)
    rw [p0, p1, p2, p3, p4] at qt
    refine ⟨Q, ⟨_, rfl, ?_⟩, ?_, fun a ha => qa a (by omega) (by omega)⟩
    · show Rn S 43 0 ([], [some (vR 56), some (vR 28), some (vI 6)], T, P) (none, (T, _))
      refine Rn.swi (q' := 154) rfl (X_ild rfl <| X_nil) (by first | omega | (simp (disch := omega) only [um_eq, um_na, um_ni, Int.toNat_natCast]; omega)) (by first | rfl | (rw [e]; rfl)) ?_
      refine Rn.cal rfl (X_ald rfl <| X_gr 6 1 hO.st ⟨rfl, rfl⟩ rfl rfl <| X_ald rfl <| X_gr 4 2 hX.sc ⟨rfl, rfl⟩ rfl rfl <| X_i <| X_ia hX.nu (by first | omega | (simp (disch := omega) only [um_eq, um_na, um_ni, Int.toNat_natCast]; omega)) (by first | omega | (simp (disch := omega) only [um_eq, um_na, um_ni, Int.toNat_natCast]; omega)) rfl <| X_ald rfl <| X_gr 4 2 hX.sc ⟨rfl, rfl⟩ rfl rfl <| X_i <| X_ia hX.nu (by first | omega | (simp (disch := omega) only [um_eq, um_na, um_ni, Int.toNat_natCast]; omega)) (by first | omega | (simp (disch := omega) only [um_eq, um_na, um_ni, Int.toNat_natCast]; omega)) rfl <| X_ald rfl <| X_gr 4 2 hX.sc ⟨rfl, rfl⟩ rfl rfl <| X_i <| X_ia hX.nu (by first | omega | (simp (disch := omega) only [um_eq, um_na, um_ni, Int.toNat_natCast]; omega)) (by first | omega | (simp (disch := omega) only [um_eq, um_na, um_ni, Int.toNat_natCast]; omega)) rfl <| X_ald rfl <| X_gr 4 2 hX.sc ⟨rfl, rfl⟩ rfl rfl <| X_i <| X_ia hX.nu (by first | omega | (simp (disch := omega) only [um_eq, um_na, um_ni, Int.toNat_natCast]; omega)) (by first | omega | (simp (disch := omega) only [um_eq, um_na, um_ni, Int.toNat_natCast]; omega)) rfl <| X_ald rfl <| X_gr 4 2 hX.sc ⟨rfl, rfl⟩ rfl rfl <| X_i <| X_ia hX.nu (by first | omega | (simp (disch := omega) only [um_eq, um_na, um_ni, Int.toNat_natCast]; omega)) (by first | omega | (simp (disch := omega) only [um_eq, um_na, um_ni, Int.toNat_natCast]; omega)) rfl <| X_nil) (vs := [_, _, _, _, _, _]) (rest := []) rfl rfl rfl (rcv_v hO.be (by decide)) (cw) ?_
      refine Rn.jto rfl (X_pop <| X_nil) ?_
      refine Rn.rv rfl (X_nil) rfl
    · show Rg Q 28 (slW W v) 561 K
      refine hR.one (Nat.le_refl K) (by rw [w6]; exact h4) q1 qj qt (fun a a1 a2 a3 a4 a5 => qa a a4 a5) ?_ ?_ (fun k k0 k1 k2 k3 => ?_) ⟨l0, u0⟩ ⟨l1, u1⟩ ⟨l2, u2⟩ ⟨l3, u3⟩ ⟨l4, u4⟩
      · show slW W v 567 = W 567 + 1
        unfold slW
        rw [if_pos rfl]
      · show slW W v (620 + W 567) = v 0 ∧ slW W v (624 + W 567) = v 1 ∧ slW W v (628 + W 567) = v 2 ∧ slW W v (632 + W 567) = v 3 ∧ slW W v (636 + W 567) = v 4 ∧ slW W v (640 + W 567) = -1 ∧ slW W v (644 + W 567) = 0 ∧ slW W v (648 + W 567) = 0
        unfold slW
        refine ⟨?_, ?_, ?_, ?_, ?_, ?_, ?_, ?_⟩
        · rw [if_neg (by omega), if_pos rfl]
        · rw [if_neg (by omega), if_neg (by omega), if_pos rfl]
        · rw [if_neg (by omega), if_neg (by omega), if_neg (by omega), if_pos rfl]
        · rw [if_neg (by omega), if_neg (by omega), if_neg (by omega), if_neg (by omega), if_pos rfl]
        · rw [if_neg (by omega), if_neg (by omega), if_neg (by omega), if_neg (by omega), if_neg (by omega), if_pos rfl]
        · rw [if_neg (by omega), if_neg (by omega), if_neg (by omega), if_neg (by omega), if_neg (by omega), if_neg (by omega), if_pos rfl]
        · rw [if_neg (by omega), if_neg (by omega), if_neg (by omega), if_neg (by omega), if_neg (by omega), if_neg (by omega), if_neg (by omega), if_pos rfl]
        · rw [if_neg (by omega), if_neg (by omega), if_neg (by omega), if_neg (by omega), if_neg (by omega), if_neg (by omega), if_neg (by omega), if_neg (by omega), if_pos rfl]
      · have g0 : k ≠ 561 + 59 + 4 * 0 + W 567 := k3 0 (by decide) (by decide)
        have g1 : k ≠ 561 + 59 + 4 * 1 + W 567 := k3 1 (by decide) (by decide)
        have g2 : k ≠ 561 + 59 + 4 * 2 + W 567 := k3 2 (by decide) (by decide)
        have g3 : k ≠ 561 + 59 + 4 * 3 + W 567 := k3 3 (by decide) (by decide)
        have g4 : k ≠ 561 + 59 + 4 * 4 + W 567 := k3 4 (by decide) (by decide)
        have g5 : k ≠ 561 + 59 + 4 * 5 + W 567 := k3 5 (by decide) (by decide)
        have g6 : k ≠ 561 + 59 + 4 * 6 + W 567 := k3 6 (by decide) (by decide)
        have g7 : k ≠ 561 + 59 + 4 * 7 + W 567 := k3 7 (by decide) (by decide)
        unfold slW
        rw [if_neg (by omega), if_neg (by omega), if_neg (by omega), if_neg (by omega), if_neg (by omega), if_neg (by omega), if_neg (by omega), if_neg (by omega), if_neg (by omega)]
  · have hR := hC (by decide)
    obtain ⟨w0, w1, w4, w6, w7, w9, w5, w8⟩ := hR.wds
    obtain ⟨p0, l0, u0⟩ := hv 0 (by decide)
    obtain ⟨p1, l1, u1⟩ := hv 1 (by decide)
    have l0 : 0 ≤ v 0 := l0
    have u0 : v 0 ≤ W 567 - 1 := u0
    have l1 : 0 ≤ v 1 := l1
    have u1 : v 1 ≤ 120 := u1
    have p0 : P 58 0 = v 0 := p0
    have p1 : P 58 1 = v 1 := p1
    obtain ⟨i, hi⟩ : ∃ i : Nat, v 0 = (i : Int) := ⟨(v 0).toNat, by omega⟩
    have i4 : i < 4 := by omega
    have ti : (P 58 0).toNat = i := by omega
    refine ⟨um P (28 + 16 + 2 * i) 5 (P 58 1), ⟨_, rfl, ?_⟩, ?_, fun a ha => um_fn (by omega)⟩
    · show Rn S 43 0 ([], [some (vR 56), some (vR 28), some (vI 7)], T, P) (none, (T, _))
      rw [← ti]
      rw [← ti] at i4
      refine Rn.swi (q' := 195) rfl (X_ild rfl <| X_nil) (by first | omega | (simp (disch := omega) only [um_eq, um_na, um_ni, Int.toNat_natCast]; omega)) (by first | rfl | (rw [e]; rfl)) ?_
      refine Rn.fal rfl (X_ald rfl <| X_gr 6 1 hO.st ⟨rfl, rfl⟩ rfl rfl <| X_gr 0 0 hO.be ⟨rfl, rfl⟩ rfl rfl <| X_ald rfl <| X_gr 4 2 hX.sc ⟨rfl, rfl⟩ rfl rfl <| X_i <| X_ia hX.nu (by first | omega | (simp (disch := omega) only [um_eq, um_na, um_ni, Int.toNat_natCast]; omega)) (by first | omega | (simp (disch := omega) only [um_eq, um_na, um_ni, Int.toNat_natCast]; omega)) rfl <| X_aa hO.sl (by decide) (by first | omega | (simp (disch := omega) only [um_eq, um_na, um_ni, Int.toNat_natCast]; omega)) (by first | omega | (simp (disch := omega) only [um_eq, um_na, um_ni, Int.toNat_natCast]; omega)) rfl (rSl_at (by omega)) <| X_gr 5 0 (hO.se (by omega)) ⟨rfl, rfl⟩ rfl rfl <| X_i <| X_ald rfl <| X_gr 4 2 hX.sc ⟨rfl, rfl⟩ rfl rfl <| X_i <| X_ia hX.nu (by first | omega | (simp (disch := omega) only [um_eq, um_na, um_ni, Int.toNat_natCast]; omega)) (by first | omega | (simp (disch := omega) only [um_eq, um_na, um_ni, Int.toNat_natCast]; omega)) rfl <| X_is (hO.tr (by omega)) (by first | omega | (simp (disch := omega) only [um_eq, um_na, um_ni, Int.toNat_natCast]; omega)) (by first | omega | (simp (disch := omega) only [um_eq, um_na, um_ni, Int.toNat_natCast]; omega)) rfl <| X_nil) ?_
      refine Rn.rv rfl (X_nil) rfl
    · show Rg _ 28 (uw W (640 + v 0) (v 1)) 561 K
      rw [p1, hi]
      exact hR.up (by rw [w6]; omega) (by omega)
end Reg
