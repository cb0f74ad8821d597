/-! THE LAW -/
section Law
variable {S : List Int} {T : List Sh} {M : Nat → Int → Int} {K b j : Nat} {s : Sh}
theorem X_lcs {L : List (Option AV)} {h : Hp} {r : List In} {τ : St} {st : List AV} {x k w : Int} (kk : exL S r (vI 0 :: st, L, h) = some τ) : exL S ((148, k, w) :: r) (vL x :: vL x :: st, L, h) = some τ := X_c (by
  show some (vI (if n64 x < n64 x then 1 else if n64 x = n64 x then 0 else -1) :: st, L, h) = _
  rw [if_neg (Int.lt_irrefl _), if_pos rfl]) kk
theorem sh_le {c n : Nat} {r : Nat → Option Nat} (h : T[j]? = some (c, n, r)) (hn : n ≤ 1000) (hs : T[j]? = some s) : s.2.1 ≤ 1000 := by
  rw [h] at hs
  cases hs
  exact hn
theorem isSt.le (h : isSt T b) (h1 : b ≤ j) (h2 : j < b + 27) (hs : T[j]? = some s) : s.2.1 ≤ 1000 := by
  obtain ⟨k, rfl⟩ : ∃ k, j = b + k := ⟨j - b, by omega⟩
  rcases (show k = 0 ∨ k = 1 ∨ k = 2 ∨ k = 3 ∨ k = 4 ∨ k = 5 ∨ k = 6 ∨ k = 7 ∨ k = 8 ∨ k = 9 ∨ k = 10 ∨ k = 11 ∨ k = 12 ∨ k = 13 ∨ k = 14 ∨ k = 15 ∨ k = 16 ∨ k = 17 ∨ k = 18 ∨ k = 19 ∨ k = 20 ∨ k = 21 ∨ k = 22 ∨ k = 23 ∨ k = 24 ∨ k = 25 ∨ k = 26 by omega) with rfl | rfl | rfl | rfl | rfl | rfl | rfl | rfl | rfl | rfl | rfl | rfl | rfl | rfl | rfl | rfl | rfl | rfl | rfl | rfl | rfl | rfl | rfl | rfl | rfl | rfl | rfl
  · exact sh_le (h.st) (by decide) hs
  · exact sh_le (h.fl) (by decide) hs
  · exact sh_le (h.th) (by decide) hs
  · exact sh_le (h.wy) (by decide) hs
  · exact sh_le (h.be) (by decide) hs
  · exact sh_le (h.sl) (by decide) hs
  · exact sh_le (h.pa) (by decide) hs
  · exact sh_le (h.ro (i := 0) (by decide)) (by decide) hs
  · exact sh_le (h.ro (i := 1) (by decide)) (by decide) hs
  · exact sh_le (h.ro (i := 2) (by decide)) (by decide) hs
  · exact sh_le (h.ro (i := 3) (by decide)) (by decide) hs
  · exact sh_le (h.ro (i := 4) (by decide)) (by decide) hs
  · exact sh_le (h.ro (i := 5) (by decide)) (by decide) hs
  · exact sh_le (h.ro (i := 6) (by decide)) (by decide) hs
  · exact sh_le (h.ro (i := 7) (by decide)) (by decide) hs
  · exact sh_le (h.se (i := 0) (by decide)) (by decide) hs
  · exact sh_le (h.tr (i := 0) (by decide)) (by decide) hs
  · exact sh_le (h.se (i := 1) (by decide)) (by decide) hs
  · exact sh_le (h.tr (i := 1) (by decide)) (by decide) hs
  · exact sh_le (h.se (i := 2) (by decide)) (by decide) hs
  · exact sh_le (h.tr (i := 2) (by decide)) (by decide) hs
  · exact sh_le (h.se (i := 3) (by decide)) (by decide) hs
  · exact sh_le (h.tr (i := 3) (by decide)) (by decide) hs
  · exact sh_le (h.no) (by decide) hs
  · exact sh_le (h.wr) (by decide) hs
  · exact sh_le (h.na) (by decide) hs
  · exact sh_le (h.ni) (by decide) hs
theorem sz_le : ∀ T : List Sh, (∀ s, s ∈ T → s.2.1 ≤ 1000) → sz T ≤ 1000 * T.length
  | [], _ => Nat.le_refl 0
  | s :: T, h => by
    have ih := sz_le T (fun x hx => h x (List.mem_cons_of_mem s hx))
    have := h s List.mem_cons_self
    have e : sz (s :: T) = s.2.1 + sz T := rfl
    rw [e, List.length_cons]
    omega
theorem gl_room (g : Gl T M K) : T.length ≤ 600000 ∧ sz T ≤ 7302250 := by
  have hX := g.x
  have hM := g.m
  obtain ⟨ri, hI, i1, -, -, i4⟩ := g.im
  have hl : T.length = 88 ∨ (T.length = 115 ∧ isSt T 88) ∨ (T.length = 142 ∧ isSt T 88 ∧ isSt T 115) := by
    rcases i4 with ⟨-, -, s⟩ | ⟨-, q, s⟩ | ⟨q, -, s⟩ | ⟨⟨q, q'⟩ | ⟨q, q'⟩, s⟩
    · exact Or.inl s
    · exact Or.inr (Or.inl ⟨s, (i1 1 88 (by decide) q).2.1⟩)
    · exact Or.inr (Or.inl ⟨s, (i1 0 88 (by decide) q).2.1⟩)
    · exact Or.inr (Or.inr ⟨s, (i1 0 88 (by decide) q).2.1, (i1 1 115 (by decide) q').2.1⟩)
    · exact Or.inr (Or.inr ⟨s, (i1 1 88 (by decide) q').2.1, (i1 0 115 (by decide) q).2.1⟩)
  have all : ∀ s, s ∈ T → s.2.1 ≤ 1000 := fun s hs => by
    obtain ⟨j, hj⟩ := List.getElem?_of_mem hs
    have jl : j < T.length := (List.getElem?_eq_some_iff.mp hj).1
    by_cases c1 : j < 55
    · by_cases c0 : j = 0
      · subst c0; exact sh_le hX.ob (by decide) hj
      · by_cases c2 : j < 28
        · exact hX.s1.le (by omega) (by omega) hj
        · exact hX.s2.le (by omega) (by omega) hj
    · by_cases c3 : 88 ≤ j
      · by_cases c4 : j < 115
        · rcases hl with q | ⟨q, w⟩ | ⟨q, w, -⟩
          · omega
          · exact w.le c3 c4 hj
          · exact w.le c3 c4 hj
        · rcases hl with q | ⟨q, w⟩ | ⟨q, -, w⟩
          · omega
          · omega
          · exact w.le (by omega) (by omega) hj
      · rcases (show j = 55 ∨ j = 56 ∨ j = 57 ∨ j = 58 ∨ j = 59 ∨ j = 60 ∨ j = 61 ∨ j = 62 ∨ j = 63 ∨ j = 64 ∨ j = 65 ∨ j = 66 ∨ j = 67 ∨ j = 68 ∨ j = 69 ∨ j = 70 ∨ j = 71 ∨ j = 72 ∨ j = 73 ∨ j = 74 ∨ j = 75 ∨ j = 76 ∨ j = 77 ∨ j = 78 ∨ j = 79 ∨ j = 80 ∨ j = 81 ∨ j = 82 ∨ j = 83 ∨ j = 84 ∨ j = 85 ∨ j = 86 ∨ j = 87 by omega) with rfl | rfl | rfl | rfl | rfl | rfl | rfl | rfl | rfl | rfl | rfl | rfl | rfl | rfl | rfl | rfl | rfl | rfl | rfl | rfl | rfl | rfl | rfl | rfl | rfl | rfl | rfl | rfl | rfl | rfl | rfl | rfl | rfl
        · exact sh_le (hI) (by decide) hj
        · exact sh_le (hX.sc) (by decide) hj
        · exact sh_le (hX.by') (by decide) hj
        · exact sh_le (hX.nu) (by decide) hj
        · exact sh_le (hX.re) (by decide) hj
        · exact sh_le (hX.c1) (by decide) hj
        · exact sh_le (hX.r1 (i := 0) (by decide)) (by decide) hj
        · exact sh_le (hX.r1 (i := 1) (by decide)) (by decide) hj
        · exact sh_le (hX.r1 (i := 2) (by decide)) (by decide) hj
        · exact sh_le (hX.r1 (i := 3) (by decide)) (by decide) hj
        · exact sh_le (hX.r1 (i := 4) (by decide)) (by decide) hj
        · exact sh_le (hX.r1 (i := 5) (by decide)) (by decide) hj
        · exact sh_le (hX.r1 (i := 6) (by decide)) (by decide) hj
        · exact sh_le (hX.c2) (by decide) hj
        · exact sh_le (hX.r2 (i := 0) (by decide)) (by decide) hj
        · exact sh_le (hX.r2 (i := 1) (by decide)) (by decide) hj
        · exact sh_le (hX.r2 (i := 2) (by decide)) (by decide) hj
        · exact sh_le (hX.r2 (i := 3) (by decide)) (by decide) hj
        · exact sh_le (hX.r2 (i := 4) (by decide)) (by decide) hj
        · exact sh_le (hX.r2 (i := 5) (by decide)) (by decide) hj
        · exact sh_le (hX.r2 (i := 6) (by decide)) (by decide) hj
        · exact sh_le (hM.ob) (by decide) hj
        · exact sh_le (hM.w) (by decide) hj
        · exact sh_le (hM.ke) (by decide) hj
        · exact sh_le (hM.te) (by decide) hj
        · exact sh_le (hM.re) (by decide) hj
        · exact sh_le (hM.fa) (by decide) hj
        · exact sh_le (hM.up) (by decide) hj
        · exact sh_le (hM.co) (by decide) hj
        · exact sh_le (hM.pa) (by decide) hj
        · exact sh_le (hM.wo) (by decide) hj
        · exact sh_le (hM.c1) (by decide) hj
        · exact sh_le (hM.c2) (by decide) hj
  have := sz_le T all
  omega
theorem Op.mono (g : Gl T M K) : Gl T M (K + 1) := g.measured (fun _ _ _ => rfl)
theorem law_loop (hl : S.length ≤ 384) (hs : ∀ z ∈ S, n32 z = z) : ∀ (k K : Nat) (T : List Sh) (M : Nat → Int → Int), Gl T M K → 6 * K ≤ S.length → S.length < 6 * K + 6 * k → ∃ h', Rn S 205 18 ([], [some (vO 0), some (vR 0), some (vR 76), some (vI (6 * (K : Int)))], T, M) (some (vI 1), h') ∧ h'.1.length ≤ 600000 ∧ sz h'.1 ≤ 7302250 := by
  have hL : ((roL S 0).length : Int) = (S.length : Int) := rfl
  have sI : ∀ x : Nat, I32 ((roL S 0).getD x 0) := fun x => by
    show I32 (S.getD x 0)
    by_cases c : x < S.length
    · have q := hs (S.getD x 0) (by
        rw [List.getD_eq_getElem?_getD, List.getElem?_eq_getElem c]
        exact List.getElem_mem c)
      unfold n32 at q
      omega
    · rw [List.getD_eq_getElem?_getD, List.getElem?_eq_none (by omega)]
      exact ⟨by decide, by decide⟩
  intro k
  induction k with
  | zero => intro K T M g h1 h2; omega
  | succ k ih =>
    intro K T M g h1 h2
    have K64 : K ≤ 64 := by omega
    have hX := g.x
    by_cases c : 6 * K + 6 ≤ S.length
    case neg =>
      have rm := gl_room g
      refine ⟨(T, M), ?_, rm.1, rm.2⟩
      refine Rn.cgt rfl (X_ild rfl <| X_ald rfl <| X_lno (by first | omega | (simp (disch := omega) only [um_eq, um_na, um_ni, Int.toNat_natCast]; omega)) <| X_i <| X_sub <| X_nil) (by first | omega | (simp (disch := omega) only [um_eq, um_na, um_ni, Int.toNat_natCast]; omega)) (by first | omega | (simp (disch := omega) only [um_eq, um_na, um_ni, Int.toNat_natCast]; omega)) (fun hc => ?_) (fun hc => absurd hc (by first | omega | decide | (simp (disch := omega) only [um_eq, um_na, um_ni, Int.toNat_natCast]; omega)))
      refine Rn.rz rfl (X_i <| X_nil) rfl (by first | exact Or.inl rfl | exact Or.inr rfl | omega)
    have fin : ∀ T2 M2, Gl T2 M2 (K + 1) → ∃ h', Rn S 205 1205 ([], [some (vO 0), some (vR 0), some (vR 76), some (vI (6 * (K : Int)))], T2, M2) (some (vI 1), h') ∧ h'.1.length ≤ 600000 ∧ sz h'.1 ≤ 7302250 := fun T2 M2 g2 => by
      obtain ⟨h', r1, r2⟩ := ih (K + 1) T2 M2 g2 (by omega) (by omega)
      rw [show 6 * ((K + 1 : Nat) : Int) = 6 * (K : Int) + 6 by omega] at r1
      refine ⟨h', ?_, r2⟩
      refine Rn.jto rfl (X_inc rfl (L' := [_, _, _, _]) rfl <| X_nil) ?_
      exact r1
    have go : ∀ q h', (if 0 ≤ o_and ((roL S 0).getD (6 * (K : Int)).toNat 0) 63 then [188, 221, 254, 287, 310, 333, 396, 439, 462, 475, 488, 511, 524, 557, 590, 603, 626, 649, 692, 715, 738, 781, 814, 857, 900, 963, 996, 1009, 1032, 1075, 1099, 1122, 1145, 1168, 1191].getD (o_and ((roL S 0).getD (6 * (K : Int)).toNat 0) 63 - 0).toNat 1205 else 1205) = q → Rn S 205 q ([], [some (vO 0), some (vR 0), some (vR 76), some (vI (6 * (K : Int)))], T, M) (some (vI 1), h') → Rn S 205 18 ([], [some (vO 0), some (vR 0), some (vR 76), some (vI (6 * (K : Int)))], T, M) (some (vI 1), h') := fun q h' hq hr => by
      have ia := I32_and ((roL S 0).getD (6 * (K : Int)).toNat 0) 63
      refine Rn.cgt rfl (X_ild rfl <| X_ald rfl <| X_lno (by first | omega | (simp (disch := omega) only [um_eq, um_na, um_ni, Int.toNat_natCast]; omega)) <| X_i <| X_sub <| X_nil) (by first | omega | (simp (disch := omega) only [um_eq, um_na, um_ni, Int.toNat_natCast]; omega)) (by first | omega | (simp (disch := omega) only [um_eq, um_na, um_ni, Int.toNat_natCast]; omega)) (fun hc => absurd hc (by first | omega | decide | (simp (disch := omega) only [um_eq, um_na, um_ni, Int.toNat_natCast]; omega))) (fun hc => ?_)
      refine Rn.swi (q' := q) rfl (X_ald rfl <| X_ild rfl <| X_io rfl (by omega) (by omega) (by omega) <| X_i <| X_and <| X_nil) ia hq ?_
      exact hr
    generalize hd : o_and ((roL S 0).getD (6 * (K : Int)).toNat 0) 63 = d at go
    by_cases d0 : 0 ≤ d ∧ d < 35
    case neg =>
      obtain ⟨h', r1, r2⟩ := fin T M (Op.mono g)
      refine ⟨h', go 1205 h' ?_ r1, r2⟩
      by_cases c0 : 0 ≤ d
      · rw [if_pos c0, List.getD_eq_getElem?_getD, List.getElem?_eq_none (by show 35 ≤ (d - 0).toNat; omega)]
        rfl
      · rw [if_neg c0]
    rcases (show d = 0 ∨ d = 1 ∨ d = 2 ∨ d = 3 ∨ d = 4 ∨ d = 5 ∨ d = 6 ∨ d = 7 ∨ d = 8 ∨ d = 9 ∨ d = 10 ∨ d = 11 ∨ d = 12 ∨ d = 13 ∨ d = 14 ∨ d = 15 ∨ d = 16 ∨ d = 17 ∨ d = 18 ∨ d = 19 ∨ d = 20 ∨ d = 21 ∨ d = 22 ∨ d = 23 ∨ d = 24 ∨ d = 25 ∨ d = 26 ∨ d = 27 ∨ d = 28 ∨ d = 29 ∨ d = 30 ∨ d = 31 ∨ d = 32 ∨ d = 33 ∨ d = 34 by omega) with rfl | rfl | rfl | rfl | rfl | rfl | rfl | rfl | rfl | rfl | rfl | rfl | rfl | rfl | rfl | rfl | rfl | rfl | rfl | rfl | rfl | rfl | rfl | rfl | rfl | rfl | rfl | rfl | rfl | rfl | rfl | rfl | rfl | rfl | rfl
    · obtain ⟨v, T1, M1, M2, iv, c1, c2, g2⟩ : Op S 68 128 [vI ((roL S 0).getD (6 * (K : Int) + 1).toNat 0), vI ((roL S 0).getD (6 * (K : Int) + 2).toNat 0)] T M K := op_room g (sI _) (sI _)
      have hM := g2.m
      obtain ⟨h', r1, r2⟩ := fin T1 M2 g2
      refine ⟨h', go 188 h' rfl ?_, r2⟩
      refine Rn.cal rfl (X_ald rfl <| X_ald rfl <| X_ild rfl <| X_i <| X_add <| X_io rfl (by first | omega | (simp (disch := omega) only [um_eq, um_na, um_ni, Int.toNat_natCast]; omega)) (by first | omega | (simp (disch := omega) only [um_eq, um_na, um_ni, Int.toNat_natCast]; omega)) (by first | omega | (simp (disch := omega) only [um_eq, um_na, um_ni, Int.toNat_natCast]; omega)) <| X_ald rfl <| X_ild rfl <| X_i <| X_add <| X_io rfl (by first | omega | (simp (disch := omega) only [um_eq, um_na, um_ni, Int.toNat_natCast]; omega)) (by first | omega | (simp (disch := omega) only [um_eq, um_na, um_ni, Int.toNat_natCast]; omega)) (by first | omega | (simp (disch := omega) only [um_eq, um_na, um_ni, Int.toNat_natCast]; omega)) <| X_nil) (vs := [_, _, _]) (rest := []) rfl rfl rfl (rcv_v hX.ob (by decide)) (c1) ?_
      refine Rn.cal rfl (X_ald rfl <| X_ald rfl <| X_ild rfl <| X_i <| X_add <| X_io rfl (by first | omega | (simp (disch := omega) only [um_eq, um_na, um_ni, Int.toNat_natCast]; omega)) (by first | omega | (simp (disch := omega) only [um_eq, um_na, um_ni, Int.toNat_natCast]; omega)) (by first | omega | (simp (disch := omega) only [um_eq, um_na, um_ni, Int.toNat_natCast]; omega)) <| X_ald rfl <| X_ild rfl <| X_i <| X_add <| X_io rfl (by first | omega | (simp (disch := omega) only [um_eq, um_na, um_ni, Int.toNat_natCast]; omega)) (by first | omega | (simp (disch := omega) only [um_eq, um_na, um_ni, Int.toNat_natCast]; omega)) (by first | omega | (simp (disch := omega) only [um_eq, um_na, um_ni, Int.toNat_natCast]; omega)) <| X_nil) (vs := [_, _, _]) (rest := [_]) rfl rfl rfl (rcv_v hM.ob (by decide)) (c2) ?_
      refine Rn.ceq rfl (X_nil) (by first | omega | (simp (disch := omega) only [um_eq, um_na, um_ni, Int.toNat_natCast]; omega)) (by first | omega | (simp (disch := omega) only [um_eq, um_na, um_ni, Int.toNat_natCast]; omega)) (fun hc => ?_) (fun hc => absurd hc (by first | omega | decide | (simp (disch := omega) only [um_eq, um_na, um_ni, Int.toNat_natCast]; omega)))
      exact r1
    · obtain ⟨v, T1, M1, M2, iv, c1, c2, g2⟩ : Op S 69 130 [vI ((roL S 0).getD (6 * (K : Int) + 1).toNat 0), vI ((roL S 0).getD (6 * (K : Int) + 2).toNat 0)] T M K := op_place g (sI _) (sI _)
      have hM := g2.m
      obtain ⟨h', r1, r2⟩ := fin T1 M2 g2
      refine ⟨h', go 221 h' rfl ?_, r2⟩
      refine Rn.cal rfl (X_ald rfl <| X_ald rfl <| X_ild rfl <| X_i <| X_add <| X_io rfl (by first | omega | (simp (disch := omega) only [um_eq, um_na, um_ni, Int.toNat_natCast]; omega)) (by first | omega | (simp (disch := omega) only [um_eq, um_na, um_ni, Int.toNat_natCast]; omega)) (by first | omega | (simp (disch := omega) only [um_eq, um_na, um_ni, Int.toNat_natCast]; omega)) <| X_ald rfl <| X_ild rfl <| X_i <| X_add <| X_io rfl (by first | omega | (simp (disch := omega) only [um_eq, um_na, um_ni, Int.toNat_natCast]; omega)) (by first | omega | (simp (disch := omega) only [um_eq, um_na, um_ni, Int.toNat_natCast]; omega)) (by first | omega | (simp (disch := omega) only [um_eq, um_na, um_ni, Int.toNat_natCast]; omega)) <| X_nil) (vs := [_, _, _]) (rest := []) rfl rfl rfl (rcv_v hX.ob (by decide)) (c1) ?_
      refine Rn.cal rfl (X_ald rfl <| X_ald rfl <| X_ild rfl <| X_i <| X_add <| X_io rfl (by first | omega | (simp (disch := omega) only [um_eq, um_na, um_ni, Int.toNat_natCast]; omega)) (by first | omega | (simp (disch := omega) only [um_eq, um_na, um_ni, Int.toNat_natCast]; omega)) (by first | omega | (simp (disch := omega) only [um_eq, um_na, um_ni, Int.toNat_natCast]; omega)) <| X_ald rfl <| X_ild rfl <| X_i <| X_add <| X_io rfl (by first | omega | (simp (disch := omega) only [um_eq, um_na, um_ni, Int.toNat_natCast]; omega)) (by first | omega | (simp (disch := omega) only [um_eq, um_na, um_ni, Int.toNat_natCast]; omega)) (by first | omega | (simp (disch := omega) only [um_eq, um_na, um_ni, Int.toNat_natCast]; omega)) <| X_nil) (vs := [_, _, _]) (rest := [_]) rfl rfl rfl (rcv_v hM.ob (by decide)) (c2) ?_
      refine Rn.ceq rfl (X_nil) (by first | omega | (simp (disch := omega) only [um_eq, um_na, um_ni, Int.toNat_natCast]; omega)) (by first | omega | (simp (disch := omega) only [um_eq, um_na, um_ni, Int.toNat_natCast]; omega)) (fun hc => ?_) (fun hc => absurd hc (by first | omega | decide | (simp (disch := omega) only [um_eq, um_na, um_ni, Int.toNat_natCast]; omega)))
      exact r1
    · obtain ⟨v, T1, M1, M2, iv, c1, c2, g2⟩ : Op S 70 131 [vI ((roL S 0).getD (6 * (K : Int) + 1).toNat 0), vI ((roL S 0).getD (6 * (K : Int) + 2).toNat 0)] T M K := op_things g (sI _) (sI _)
      have hM := g2.m
      obtain ⟨h', r1, r2⟩ := fin T1 M2 g2
      refine ⟨h', go 254 h' rfl ?_, r2⟩
      refine Rn.cal rfl (X_ald rfl <| X_ald rfl <| X_ild rfl <| X_i <| X_add <| X_io rfl (by first | omega | (simp (disch := omega) only [um_eq, um_na, um_ni, Int.toNat_natCast]; omega)) (by first | omega | (simp (disch := omega) only [um_eq, um_na, um_ni, Int.toNat_natCast]; omega)) (by first | omega | (simp (disch := omega) only [um_eq, um_na, um_ni, Int.toNat_natCast]; omega)) <| X_ald rfl <| X_ild rfl <| X_i <| X_add <| X_io rfl (by first | omega | (simp (disch := omega) only [um_eq, um_na, um_ni, Int.toNat_natCast]; omega)) (by first | omega | (simp (disch := omega) only [um_eq, um_na, um_ni, Int.toNat_natCast]; omega)) (by first | omega | (simp (disch := omega) only [um_eq, um_na, um_ni, Int.toNat_natCast]; omega)) <| X_nil) (vs := [_, _, _]) (rest := []) rfl rfl rfl (rcv_v hX.ob (by decide)) (c1) ?_
      refine Rn.cal rfl (X_ald rfl <| X_ald rfl <| X_ild rfl <| X_i <| X_add <| X_io rfl (by first | omega | (simp (disch := omega) only [um_eq, um_na, um_ni, Int.toNat_natCast]; omega)) (by first | omega | (simp (disch := omega) only [um_eq, um_na, um_ni, Int.toNat_natCast]; omega)) (by first | omega | (simp (disch := omega) only [um_eq, um_na, um_ni, Int.toNat_natCast]; omega)) <| X_ald rfl <| X_ild rfl <| X_i <| X_add <| X_io rfl (by first | omega | (simp (disch := omega) only [um_eq, um_na, um_ni, Int.toNat_natCast]; omega)) (by first | omega | (simp (disch := omega) only [um_eq, um_na, um_ni, Int.toNat_natCast]; omega)) (by first | omega | (simp (disch := omega) only [um_eq, um_na, um_ni, Int.toNat_natCast]; omega)) <| X_nil) (vs := [_, _, _]) (rest := [_]) rfl rfl rfl (rcv_v hM.ob (by decide)) (c2) ?_
      refine Rn.ceq rfl (X_nil) (by first | omega | (simp (disch := omega) only [um_eq, um_na, um_ni, Int.toNat_natCast]; omega)) (by first | omega | (simp (disch := omega) only [um_eq, um_na, um_ni, Int.toNat_natCast]; omega)) (fun hc => ?_) (fun hc => absurd hc (by first | omega | decide | (simp (disch := omega) only [um_eq, um_na, um_ni, Int.toNat_natCast]; omega)))
      exact r1
    · obtain ⟨v, T1, M1, M2, iv, c1, c2, g2⟩ : Op S 71 132 [vI ((roL S 0).getD (6 * (K : Int) + 1).toNat 0)] T M K := op_moon g (sI _)
      have hM := g2.m
      obtain ⟨h', r1, r2⟩ := fin T1 M2 g2
      refine ⟨h', go 287 h' rfl ?_, r2⟩
      refine Rn.cal rfl (X_ald rfl <| X_ald rfl <| X_ild rfl <| X_i <| X_add <| X_io rfl (by first | omega | (simp (disch := omega) only [um_eq, um_na, um_ni, Int.toNat_natCast]; omega)) (by first | omega | (simp (disch := omega) only [um_eq, um_na, um_ni, Int.toNat_natCast]; omega)) (by first | omega | (simp (disch := omega) only [um_eq, um_na, um_ni, Int.toNat_natCast]; omega)) <| X_nil) (vs := [_, _]) (rest := []) rfl rfl rfl (rcv_v hX.ob (by decide)) (c1) ?_
      refine Rn.cal rfl (X_ald rfl <| X_ald rfl <| X_ild rfl <| X_i <| X_add <| X_io rfl (by first | omega | (simp (disch := omega) only [um_eq, um_na, um_ni, Int.toNat_natCast]; omega)) (by first | omega | (simp (disch := omega) only [um_eq, um_na, um_ni, Int.toNat_natCast]; omega)) (by first | omega | (simp (disch := omega) only [um_eq, um_na, um_ni, Int.toNat_natCast]; omega)) <| X_nil) (vs := [_, _]) (rest := [_]) rfl rfl rfl (rcv_v hM.ob (by decide)) (c2) ?_
      refine Rn.ceq rfl (X_nil) (by first | omega | (simp (disch := omega) only [um_eq, um_na, um_ni, Int.toNat_natCast]; omega)) (by first | omega | (simp (disch := omega) only [um_eq, um_na, um_ni, Int.toNat_natCast]; omega)) (fun hc => ?_) (fun hc => absurd hc (by first | omega | decide | (simp (disch := omega) only [um_eq, um_na, um_ni, Int.toNat_natCast]; omega)))
      exact r1
    · obtain ⟨v, T1, M1, M2, iv, c1, c2, g2⟩ : Op S 72 133 [vI ((roL S 0).getD (6 * (K : Int) + 1).toNat 0)] T M K := op_cord g (sI _)
      have hM := g2.m
      obtain ⟨h', r1, r2⟩ := fin T1 M2 g2
      refine ⟨h', go 310 h' rfl ?_, r2⟩
      refine Rn.cal rfl (X_ald rfl <| X_ald rfl <| X_ild rfl <| X_i <| X_add <| X_io rfl (by first | omega | (simp (disch := omega) only [um_eq, um_na, um_ni, Int.toNat_natCast]; omega)) (by first | omega | (simp (disch := omega) only [um_eq, um_na, um_ni, Int.toNat_natCast]; omega)) (by first | omega | (simp (disch := omega) only [um_eq, um_na, um_ni, Int.toNat_natCast]; omega)) <| X_nil) (vs := [_, _]) (rest := []) rfl rfl rfl (rcv_v hX.ob (by decide)) (c1) ?_
      refine Rn.cal rfl (X_ald rfl <| X_ald rfl <| X_ild rfl <| X_i <| X_add <| X_io rfl (by first | omega | (simp (disch := omega) only [um_eq, um_na, um_ni, Int.toNat_natCast]; omega)) (by first | omega | (simp (disch := omega) only [um_eq, um_na, um_ni, Int.toNat_natCast]; omega)) (by first | omega | (simp (disch := omega) only [um_eq, um_na, um_ni, Int.toNat_natCast]; omega)) <| X_nil) (vs := [_, _]) (rest := [_]) rfl rfl rfl (rcv_v hM.ob (by decide)) (c2) ?_
      refine Rn.ceq rfl (X_nil) (by first | omega | (simp (disch := omega) only [um_eq, um_na, um_ni, Int.toNat_natCast]; omega)) (by first | omega | (simp (disch := omega) only [um_eq, um_na, um_ni, Int.toNat_natCast]; omega)) (fun hc => ?_) (fun hc => absurd hc (by first | omega | decide | (simp (disch := omega) only [um_eq, um_na, um_ni, Int.toNat_natCast]; omega)))
      exact r1
    · obtain ⟨v, T1, M1, M2, iv, c1, c2, g2⟩ : Op S 73 134 [vI ((roL S 0).getD (6 * (K : Int) + 1).toNat 0), vI ((roL S 0).getD (6 * (K : Int) + 2).toNat 0), vI ((roL S 0).getD (6 * (K : Int) + 3).toNat 0), vI ((roL S 0).getD (6 * (K : Int) + 4).toNat 0), vI ((roL S 0).getD (6 * (K : Int) + 5).toNat 0)] T M K := op_sleeper g (sI _) (sI _) (sI _) (sI _) (sI _)
      have hM := g2.m
      obtain ⟨h', r1, r2⟩ := fin T1 M2 g2
      refine ⟨h', go 333 h' rfl ?_, r2⟩
      refine Rn.cal rfl (X_ald rfl <| X_ald rfl <| X_ild rfl <| X_i <| X_add <| X_io rfl (by first | omega | (simp (disch := omega) only [um_eq, um_na, um_ni, Int.toNat_natCast]; omega)) (by first | omega | (simp (disch := omega) only [um_eq, um_na, um_ni, Int.toNat_natCast]; omega)) (by first | omega | (simp (disch := omega) only [um_eq, um_na, um_ni, Int.toNat_natCast]; omega)) <| X_ald rfl <| X_ild rfl <| X_i <| X_add <| X_io rfl (by first | omega | (simp (disch := omega) only [um_eq, um_na, um_ni, Int.toNat_natCast]; omega)) (by first | omega | (simp (disch := omega) only [um_eq, um_na, um_ni, Int.toNat_natCast]; omega)) (by first | omega | (simp (disch := omega) only [um_eq, um_na, um_ni, Int.toNat_natCast]; omega)) <| X_ald rfl <| X_ild rfl <| X_i <| X_add <| X_io rfl (by first | omega | (simp (disch := omega) only [um_eq, um_na, um_ni, Int.toNat_natCast]; omega)) (by first | omega | (simp (disch := omega) only [um_eq, um_na, um_ni, Int.toNat_natCast]; omega)) (by first | omega | (simp (disch := omega) only [um_eq, um_na, um_ni, Int.toNat_natCast]; omega)) <| X_ald rfl <| X_ild rfl <| X_i <| X_add <| X_io rfl (by first | omega | (simp (disch := omega) only [um_eq, um_na, um_ni, Int.toNat_natCast]; omega)) (by first | omega | (simp (disch := omega) only [um_eq, um_na, um_ni, Int.toNat_natCast]; omega)) (by first | omega | (simp (disch := omega) only [um_eq, um_na, um_ni, Int.toNat_natCast]; omega)) <| X_ald rfl <| X_ild rfl <| X_i <| X_add <| X_io rfl (by first | omega | (simp (disch := omega) only [um_eq, um_na, um_ni, Int.toNat_natCast]; omega)) (by first | omega | (simp (disch := omega) only [um_eq, um_na, um_ni, Int.toNat_natCast]; omega)) (by first | omega | (simp (disch := omega) only [um_eq, um_na, um_ni, Int.toNat_natCast]; omega)) <| X_nil) (vs := [_, _, _, _, _, _]) (rest := []) rfl rfl rfl (rcv_v hX.ob (by decide)) (c1) ?_
      refine Rn.cal rfl (X_ald rfl <| X_ald rfl <| X_ild rfl <| X_i <| X_add <| X_io rfl (by first | omega | (simp (disch := omega) only [um_eq, um_na, um_ni, Int.toNat_natCast]; omega)) (by first | omega | (simp (disch := omega) only [um_eq, um_na, um_ni, Int.toNat_natCast]; omega)) (by first | omega | (simp (disch := omega) only [um_eq, um_na, um_ni, Int.toNat_natCast]; omega)) <| X_ald rfl <| X_ild rfl <| X_i <| X_add <| X_io rfl (by first | omega | (simp (disch := omega) only [um_eq, um_na, um_ni, Int.toNat_natCast]; omega)) (by first | omega | (simp (disch := omega) only [um_eq, um_na, um_ni, Int.toNat_natCast]; omega)) (by first | omega | (simp (disch := omega) only [um_eq, um_na, um_ni, Int.toNat_natCast]; omega)) <| X_ald rfl <| X_ild rfl <| X_i <| X_add <| X_io rfl (by first | omega | (simp (disch := omega) only [um_eq, um_na, um_ni, Int.toNat_natCast]; omega)) (by first | omega | (simp (disch := omega) only [um_eq, um_na, um_ni, Int.toNat_natCast]; omega)) (by first | omega | (simp (disch := omega) only [um_eq, um_na, um_ni, Int.toNat_natCast]; omega)) <| X_ald rfl <| X_ild rfl <| X_i <| X_add <| X_io rfl (by first | omega | (simp (disch := omega) only [um_eq, um_na, um_ni, Int.toNat_natCast]; omega)) (by first | omega | (simp (disch := omega) only [um_eq, um_na, um_ni, Int.toNat_natCast]; omega)) (by first | omega | (simp (disch := omega) only [um_eq, um_na, um_ni, Int.toNat_natCast]; omega)) <| X_ald rfl <| X_ild rfl <| X_i <| X_add <| X_io rfl (by first | omega | (simp (disch := omega) only [um_eq, um_na, um_ni, Int.toNat_natCast]; omega)) (by first | omega | (simp (disch := omega) only [um_eq, um_na, um_ni, Int.toNat_natCast]; omega)) (by first | omega | (simp (disch := omega) only [um_eq, um_na, um_ni, Int.toNat_natCast]; omega)) <| X_nil) (vs := [_, _, _, _, _, _]) (rest := [_]) rfl rfl rfl (rcv_v hM.ob (by decide)) (c2) ?_
      refine Rn.ceq rfl (X_nil) (by first | omega | (simp (disch := omega) only [um_eq, um_na, um_ni, Int.toNat_natCast]; omega)) (by first | omega | (simp (disch := omega) only [um_eq, um_na, um_ni, Int.toNat_natCast]; omega)) (fun hc => ?_) (fun hc => absurd hc (by first | omega | decide | (simp (disch := omega) only [um_eq, um_na, um_ni, Int.toNat_natCast]; omega)))
      exact r1
    · obtain ⟨v, T1, M1, M2, iv, c1, c2, g2⟩ : Op S 74 135 [vI ((roL S 0).getD (6 * (K : Int) + 1).toNat 0), vI ((roL S 0).getD (6 * (K : Int) + 2).toNat 0), vI ((roL S 0).getD (6 * (K : Int) + 3).toNat 0)] T M K := op_become g (sI _) (sI _) (sI _)
      have hM := g2.m
      obtain ⟨h', r1, r2⟩ := fin T1 M2 g2
      refine ⟨h', go 396 h' rfl ?_, r2⟩
      refine Rn.cal rfl (X_ald rfl <| X_ald rfl <| X_ild rfl <| X_i <| X_add <| X_io rfl (by first | omega | (simp (disch := omega) only [um_eq, um_na, um_ni, Int.toNat_natCast]; omega)) (by first | omega | (simp (disch := omega) only [um_eq, um_na, um_ni, Int.toNat_natCast]; omega)) (by first | omega | (simp (disch := omega) only [um_eq, um_na, um_ni, Int.toNat_natCast]; omega)) <| X_ald rfl <| X_ild rfl <| X_i <| X_add <| X_io rfl (by first | omega | (simp (disch := omega) only [um_eq, um_na, um_ni, Int.toNat_natCast]; omega)) (by first | omega | (simp (disch := omega) only [um_eq, um_na, um_ni, Int.toNat_natCast]; omega)) (by first | omega | (simp (disch := omega) only [um_eq, um_na, um_ni, Int.toNat_natCast]; omega)) <| X_ald rfl <| X_ild rfl <| X_i <| X_add <| X_io rfl (by first | omega | (simp (disch := omega) only [um_eq, um_na, um_ni, Int.toNat_natCast]; omega)) (by first | omega | (simp (disch := omega) only [um_eq, um_na, um_ni, Int.toNat_natCast]; omega)) (by first | omega | (simp (disch := omega) only [um_eq, um_na, um_ni, Int.toNat_natCast]; omega)) <| X_nil) (vs := [_, _, _, _]) (rest := []) rfl rfl rfl (rcv_v hX.ob (by decide)) (c1) ?_
      refine Rn.cal rfl (X_ald rfl <| X_ald rfl <| X_ild rfl <| X_i <| X_add <| X_io rfl (by first | omega | (simp (disch := omega) only [um_eq, um_na, um_ni, Int.toNat_natCast]; omega)) (by first | omega | (simp (disch := omega) only [um_eq, um_na, um_ni, Int.toNat_natCast]; omega)) (by first | omega | (simp (disch := omega) only [um_eq, um_na, um_ni, Int.toNat_natCast]; omega)) <| X_ald rfl <| X_ild rfl <| X_i <| X_add <| X_io rfl (by first | omega | (simp (disch := omega) only [um_eq, um_na, um_ni, Int.toNat_natCast]; omega)) (by first | omega | (simp (disch := omega) only [um_eq, um_na, um_ni, Int.toNat_natCast]; omega)) (by first | omega | (simp (disch := omega) only [um_eq, um_na, um_ni, Int.toNat_natCast]; omega)) <| X_ald rfl <| X_ild rfl <| X_i <| X_add <| X_io rfl (by first | omega | (simp (disch := omega) only [um_eq, um_na, um_ni, Int.toNat_natCast]; omega)) (by first | omega | (simp (disch := omega) only [um_eq, um_na, um_ni, Int.toNat_natCast]; omega)) (by first | omega | (simp (disch := omega) only [um_eq, um_na, um_ni, Int.toNat_natCast]; omega)) <| X_nil) (vs := [_, _, _, _]) (rest := [_]) rfl rfl rfl (rcv_v hM.ob (by decide)) (c2) ?_
      refine Rn.ceq rfl (X_nil) (by first | omega | (simp (disch := omega) only [um_eq, um_na, um_ni, Int.toNat_natCast]; omega)) (by first | omega | (simp (disch := omega) only [um_eq, um_na, um_ni, Int.toNat_natCast]; omega)) (fun hc => ?_) (fun hc => absurd hc (by first | omega | decide | (simp (disch := omega) only [um_eq, um_na, um_ni, Int.toNat_natCast]; omega)))
      exact r1
    · obtain ⟨v, T1, M1, M2, iv, c1, c2, g2⟩ : Op S 75 136 [vI ((roL S 0).getD (6 * (K : Int) + 1).toNat 0)] T M K := op_type g (sI _)
      have hM := g2.m
      obtain ⟨h', r1, r2⟩ := fin T1 M2 g2
      refine ⟨h', go 439 h' rfl ?_, r2⟩
      refine Rn.cal rfl (X_ald rfl <| X_ald rfl <| X_ild rfl <| X_i <| X_add <| X_io rfl (by first | omega | (simp (disch := omega) only [um_eq, um_na, um_ni, Int.toNat_natCast]; omega)) (by first | omega | (simp (disch := omega) only [um_eq, um_na, um_ni, Int.toNat_natCast]; omega)) (by first | omega | (simp (disch := omega) only [um_eq, um_na, um_ni, Int.toNat_natCast]; omega)) <| X_nil) (vs := [_, _]) (rest := []) rfl rfl rfl (rcv_v hX.ob (by decide)) (c1) ?_
      refine Rn.cal rfl (X_ald rfl <| X_ald rfl <| X_ild rfl <| X_i <| X_add <| X_io rfl (by first | omega | (simp (disch := omega) only [um_eq, um_na, um_ni, Int.toNat_natCast]; omega)) (by first | omega | (simp (disch := omega) only [um_eq, um_na, um_ni, Int.toNat_natCast]; omega)) (by first | omega | (simp (disch := omega) only [um_eq, um_na, um_ni, Int.toNat_natCast]; omega)) <| X_nil) (vs := [_, _]) (rest := [_]) rfl rfl rfl (rcv_v hM.ob (by decide)) (c2) ?_
      refine Rn.ceq rfl (X_nil) (by first | omega | (simp (disch := omega) only [um_eq, um_na, um_ni, Int.toNat_natCast]; omega)) (by first | omega | (simp (disch := omega) only [um_eq, um_na, um_ni, Int.toNat_natCast]; omega)) (fun hc => ?_) (fun hc => absurd hc (by first | omega | decide | (simp (disch := omega) only [um_eq, um_na, um_ni, Int.toNat_natCast]; omega)))
      exact r1
    · obtain ⟨v, T1, M1, M2, iv, c1, c2, g2⟩ : Op S 76 137 [] T M K := op_clear g 
      have hM := g2.m
      obtain ⟨h', r1, r2⟩ := fin T1 M2 g2
      refine ⟨h', go 462 h' rfl ?_, r2⟩
      refine Rn.cal rfl (X_ald rfl <| X_nil) (vs := [_]) (rest := []) rfl rfl rfl (rcv_v hX.ob (by decide)) (c1) ?_
      refine Rn.cal rfl (X_ald rfl <| X_nil) (vs := [_]) (rest := [_]) rfl rfl rfl (rcv_v hM.ob (by decide)) (c2) ?_
      refine Rn.ceq rfl (X_nil) (by first | omega | (simp (disch := omega) only [um_eq, um_na, um_ni, Int.toNat_natCast]; omega)) (by first | omega | (simp (disch := omega) only [um_eq, um_na, um_ni, Int.toNat_natCast]; omega)) (fun hc => ?_) (fun hc => absurd hc (by first | omega | decide | (simp (disch := omega) only [um_eq, um_na, um_ni, Int.toNat_natCast]; omega)))
      exact r1
    · obtain ⟨v, T1, M1, M2, iv, c1, c2, g2⟩ : Op S 77 150 [] T M K := op_read g 
      have hM := g2.m
      obtain ⟨h', r1, r2⟩ := fin T1 M2 g2
      refine ⟨h', go 475 h' rfl ?_, r2⟩
      refine Rn.cal rfl (X_ald rfl <| X_nil) (vs := [_]) (rest := []) rfl rfl rfl (rcv_v hX.ob (by decide)) (c1) ?_
      refine Rn.cal rfl (X_ald rfl <| X_nil) (vs := [_]) (rest := [_]) rfl rfl rfl (rcv_v hM.ob (by decide)) (c2) ?_
      refine Rn.ceq rfl (X_nil) (by first | omega | (simp (disch := omega) only [um_eq, um_na, um_ni, Int.toNat_natCast]; omega)) (by first | omega | (simp (disch := omega) only [um_eq, um_na, um_ni, Int.toNat_natCast]; omega)) (fun hc => ?_) (fun hc => absurd hc (by first | omega | decide | (simp (disch := omega) only [um_eq, um_na, um_ni, Int.toNat_natCast]; omega)))
      exact r1
    · obtain ⟨v, T1, M1, M2, iv, c1, c2, g2⟩ : Op S 78 162 [vI ((roL S 0).getD (6 * (K : Int) + 1).toNat 0)] T M K := op_pass g (by omega) (sI _)
      have hM := g2.m
      obtain ⟨h', r1, r2⟩ := fin T1 M2 g2
      refine ⟨h', go 488 h' rfl ?_, r2⟩
      refine Rn.cal rfl (X_ald rfl <| X_ald rfl <| X_ild rfl <| X_i <| X_add <| X_io rfl (by first | omega | (simp (disch := omega) only [um_eq, um_na, um_ni, Int.toNat_natCast]; omega)) (by first | omega | (simp (disch := omega) only [um_eq, um_na, um_ni, Int.toNat_natCast]; omega)) (by first | omega | (simp (disch := omega) only [um_eq, um_na, um_ni, Int.toNat_natCast]; omega)) <| X_nil) (vs := [_, _]) (rest := []) rfl rfl rfl (rcv_v hX.ob (by decide)) (c1) ?_
      refine Rn.cal rfl (X_ald rfl <| X_ald rfl <| X_ild rfl <| X_i <| X_add <| X_io rfl (by first | omega | (simp (disch := omega) only [um_eq, um_na, um_ni, Int.toNat_natCast]; omega)) (by first | omega | (simp (disch := omega) only [um_eq, um_na, um_ni, Int.toNat_natCast]; omega)) (by first | omega | (simp (disch := omega) only [um_eq, um_na, um_ni, Int.toNat_natCast]; omega)) <| X_nil) (vs := [_, _]) (rest := [_]) rfl rfl rfl (rcv_v hM.ob (by decide)) (c2) ?_
      refine Rn.ceq rfl (X_nil) (by first | omega | (simp (disch := omega) only [um_eq, um_na, um_ni, Int.toNat_natCast]; omega)) (by first | omega | (simp (disch := omega) only [um_eq, um_na, um_ni, Int.toNat_natCast]; omega)) (fun hc => ?_) (fun hc => absurd hc (by first | omega | decide | (simp (disch := omega) only [um_eq, um_na, um_ni, Int.toNat_natCast]; omega)))
      exact r1
    · obtain ⟨v, T1, M1, M2, iv, c1, c2, g2⟩ : Op S 79 163 [] T M K := op_undo g (by omega) 
      have hM := g2.m
      obtain ⟨h', r1, r2⟩ := fin T1 M2 g2
      refine ⟨h', go 511 h' rfl ?_, r2⟩
      refine Rn.cal rfl (X_ald rfl <| X_nil) (vs := [_]) (rest := []) rfl rfl rfl (rcv_v hX.ob (by decide)) (c1) ?_
      refine Rn.cal rfl (X_ald rfl <| X_nil) (vs := [_]) (rest := [_]) rfl rfl rfl (rcv_v hM.ob (by decide)) (c2) ?_
      refine Rn.ceq rfl (X_nil) (by first | omega | (simp (disch := omega) only [um_eq, um_na, um_ni, Int.toNat_natCast]; omega)) (by first | omega | (simp (disch := omega) only [um_eq, um_na, um_ni, Int.toNat_natCast]; omega)) (fun hc => ?_) (fun hc => absurd hc (by first | omega | decide | (simp (disch := omega) only [um_eq, um_na, um_ni, Int.toNat_natCast]; omega)))
      exact r1
    · obtain ⟨v, T1, M1, M2, iv, c1, c2, g2⟩ : Op S 80 165 [vI ((roL S 0).getD (6 * (K : Int) + 1).toNat 0), vI ((roL S 0).getD (6 * (K : Int) + 2).toNat 0)] T M K := op_about g (by omega) (sI _) (sI _)
      have hM := g2.m
      obtain ⟨h', r1, r2⟩ := fin T1 M2 g2
      refine ⟨h', go 524 h' rfl ?_, r2⟩
      refine Rn.cal rfl (X_ald rfl <| X_ald rfl <| X_ild rfl <| X_i <| X_add <| X_io rfl (by first | omega | (simp (disch := omega) only [um_eq, um_na, um_ni, Int.toNat_natCast]; omega)) (by first | omega | (simp (disch := omega) only [um_eq, um_na, um_ni, Int.toNat_natCast]; omega)) (by first | omega | (simp (disch := omega) only [um_eq, um_na, um_ni, Int.toNat_natCast]; omega)) <| X_ald rfl <| X_ild rfl <| X_i <| X_add <| X_io rfl (by first | omega | (simp (disch := omega) only [um_eq, um_na, um_ni, Int.toNat_natCast]; omega)) (by first | omega | (simp (disch := omega) only [um_eq, um_na, um_ni, Int.toNat_natCast]; omega)) (by first | omega | (simp (disch := omega) only [um_eq, um_na, um_ni, Int.toNat_natCast]; omega)) <| X_nil) (vs := [_, _, _]) (rest := []) rfl rfl rfl (rcv_v hX.ob (by decide)) (c1) ?_
      refine Rn.cal rfl (X_ald rfl <| X_ald rfl <| X_ild rfl <| X_i <| X_add <| X_io rfl (by first | omega | (simp (disch := omega) only [um_eq, um_na, um_ni, Int.toNat_natCast]; omega)) (by first | omega | (simp (disch := omega) only [um_eq, um_na, um_ni, Int.toNat_natCast]; omega)) (by first | omega | (simp (disch := omega) only [um_eq, um_na, um_ni, Int.toNat_natCast]; omega)) <| X_ald rfl <| X_ild rfl <| X_i <| X_add <| X_io rfl (by first | omega | (simp (disch := omega) only [um_eq, um_na, um_ni, Int.toNat_natCast]; omega)) (by first | omega | (simp (disch := omega) only [um_eq, um_na, um_ni, Int.toNat_natCast]; omega)) (by first | omega | (simp (disch := omega) only [um_eq, um_na, um_ni, Int.toNat_natCast]; omega)) <| X_nil) (vs := [_, _, _]) (rest := [_]) rfl rfl rfl (rcv_v hM.ob (by decide)) (c2) ?_
      refine Rn.ceq rfl (X_nil) (by first | omega | (simp (disch := omega) only [um_eq, um_na, um_ni, Int.toNat_natCast]; omega)) (by first | omega | (simp (disch := omega) only [um_eq, um_na, um_ni, Int.toNat_natCast]; omega)) (fun hc => ?_) (fun hc => absurd hc (by first | omega | decide | (simp (disch := omega) only [um_eq, um_na, um_ni, Int.toNat_natCast]; omega)))
      exact r1
    · obtain ⟨v, T1, M1, M2, iv, c1, c2, g2⟩ : Op S 81 154 [vI ((roL S 0).getD (6 * (K : Int) + 1).toNat 0), vI ((roL S 0).getD (6 * (K : Int) + 2).toNat 0)] T M K := op_way g (sI _) (sI _)
      have hM := g2.m
      obtain ⟨h', r1, r2⟩ := fin T1 M2 g2
      refine ⟨h', go 557 h' rfl ?_, r2⟩
      refine Rn.cal rfl (X_ald rfl <| X_ald rfl <| X_ild rfl <| X_i <| X_add <| X_io rfl (by first | omega | (simp (disch := omega) only [um_eq, um_na, um_ni, Int.toNat_natCast]; omega)) (by first | omega | (simp (disch := omega) only [um_eq, um_na, um_ni, Int.toNat_natCast]; omega)) (by first | omega | (simp (disch := omega) only [um_eq, um_na, um_ni, Int.toNat_natCast]; omega)) <| X_ald rfl <| X_ild rfl <| X_i <| X_add <| X_io rfl (by first | omega | (simp (disch := omega) only [um_eq, um_na, um_ni, Int.toNat_natCast]; omega)) (by first | omega | (simp (disch := omega) only [um_eq, um_na, um_ni, Int.toNat_natCast]; omega)) (by first | omega | (simp (disch := omega) only [um_eq, um_na, um_ni, Int.toNat_natCast]; omega)) <| X_nil) (vs := [_, _, _]) (rest := []) rfl rfl rfl (rcv_v hX.ob (by decide)) (c1) ?_
      refine Rn.cal rfl (X_ald rfl <| X_ald rfl <| X_ild rfl <| X_i <| X_add <| X_io rfl (by first | omega | (simp (disch := omega) only [um_eq, um_na, um_ni, Int.toNat_natCast]; omega)) (by first | omega | (simp (disch := omega) only [um_eq, um_na, um_ni, Int.toNat_natCast]; omega)) (by first | omega | (simp (disch := omega) only [um_eq, um_na, um_ni, Int.toNat_natCast]; omega)) <| X_ald rfl <| X_ild rfl <| X_i <| X_add <| X_io rfl (by first | omega | (simp (disch := omega) only [um_eq, um_na, um_ni, Int.toNat_natCast]; omega)) (by first | omega | (simp (disch := omega) only [um_eq, um_na, um_ni, Int.toNat_natCast]; omega)) (by first | omega | (simp (disch := omega) only [um_eq, um_na, um_ni, Int.toNat_natCast]; omega)) <| X_nil) (vs := [_, _, _]) (rest := [_]) rfl rfl rfl (rcv_v hM.ob (by decide)) (c2) ?_
      refine Rn.ceq rfl (X_nil) (by first | omega | (simp (disch := omega) only [um_eq, um_na, um_ni, Int.toNat_natCast]; omega)) (by first | omega | (simp (disch := omega) only [um_eq, um_na, um_ni, Int.toNat_natCast]; omega)) (fun hc => ?_) (fun hc => absurd hc (by first | omega | decide | (simp (disch := omega) only [um_eq, um_na, um_ni, Int.toNat_natCast]; omega)))
      exact r1
    · obtain ⟨v, T1, M1, M2, iv, c1, c2, g2⟩ : Op S 82 155 [] T M K := op_bed g 
      have hM := g2.m
      obtain ⟨h', r1, r2⟩ := fin T1 M2 g2
      refine ⟨h', go 590 h' rfl ?_, r2⟩
      refine Rn.cal rfl (X_ald rfl <| X_nil) (vs := [_]) (rest := []) rfl rfl rfl (rcv_v hX.ob (by decide)) (c1) ?_
      refine Rn.cal rfl (X_ald rfl <| X_nil) (vs := [_]) (rest := [_]) rfl rfl rfl (rcv_v hM.ob (by decide)) (c2) ?_
      refine Rn.ceq rfl (X_nil) (by first | omega | (simp (disch := omega) only [um_eq, um_na, um_ni, Int.toNat_natCast]; omega)) (by first | omega | (simp (disch := omega) only [um_eq, um_na, um_ni, Int.toNat_natCast]; omega)) (fun hc => ?_) (fun hc => absurd hc (by first | omega | decide | (simp (disch := omega) only [um_eq, um_na, um_ni, Int.toNat_natCast]; omega)))
      exact r1
    · obtain ⟨v, T1, M1, M2, iv, c1, c2, g2⟩ : Op S 83 166 [vI ((roL S 0).getD (6 * (K : Int) + 1).toNat 0)] T M K := op_tonight g (by omega) (sI _)
      have hM := g2.m
      obtain ⟨h', r1, r2⟩ := fin T1 M2 g2
      refine ⟨h', go 603 h' rfl ?_, r2⟩
      refine Rn.cal rfl (X_ald rfl <| X_ald rfl <| X_ild rfl <| X_i <| X_add <| X_io rfl (by first | omega | (simp (disch := omega) only [um_eq, um_na, um_ni, Int.toNat_natCast]; omega)) (by first | omega | (simp (disch := omega) only [um_eq, um_na, um_ni, Int.toNat_natCast]; omega)) (by first | omega | (simp (disch := omega) only [um_eq, um_na, um_ni, Int.toNat_natCast]; omega)) <| X_nil) (vs := [_, _]) (rest := []) rfl rfl rfl (rcv_v hX.ob (by decide)) (c1) ?_
      refine Rn.cal rfl (X_ald rfl <| X_ald rfl <| X_ild rfl <| X_i <| X_add <| X_io rfl (by first | omega | (simp (disch := omega) only [um_eq, um_na, um_ni, Int.toNat_natCast]; omega)) (by first | omega | (simp (disch := omega) only [um_eq, um_na, um_ni, Int.toNat_natCast]; omega)) (by first | omega | (simp (disch := omega) only [um_eq, um_na, um_ni, Int.toNat_natCast]; omega)) <| X_nil) (vs := [_, _]) (rest := [_]) rfl rfl rfl (rcv_v hM.ob (by decide)) (c2) ?_
      refine Rn.ceq rfl (X_nil) (by first | omega | (simp (disch := omega) only [um_eq, um_na, um_ni, Int.toNat_natCast]; omega)) (by first | omega | (simp (disch := omega) only [um_eq, um_na, um_ni, Int.toNat_natCast]; omega)) (fun hc => ?_) (fun hc => absurd hc (by first | omega | decide | (simp (disch := omega) only [um_eq, um_na, um_ni, Int.toNat_natCast]; omega)))
      exact r1
    · obtain ⟨v, T1, M1, M2, iv, c1, c2, g2⟩ : Op S 84 167 [vI ((roL S 0).getD (6 * (K : Int) + 1).toNat 0)] T M K := op_cost g (by omega) (sI _)
      have hM := g2.m
      obtain ⟨h', r1, r2⟩ := fin T1 M2 g2
      refine ⟨h', go 626 h' rfl ?_, r2⟩
      refine Rn.cal rfl (X_ald rfl <| X_ald rfl <| X_ild rfl <| X_i <| X_add <| X_io rfl (by first | omega | (simp (disch := omega) only [um_eq, um_na, um_ni, Int.toNat_natCast]; omega)) (by first | omega | (simp (disch := omega) only [um_eq, um_na, um_ni, Int.toNat_natCast]; omega)) (by first | omega | (simp (disch := omega) only [um_eq, um_na, um_ni, Int.toNat_natCast]; omega)) <| X_nil) (vs := [_, _]) (rest := []) rfl rfl rfl (rcv_v hX.ob (by decide)) (c1) ?_
      refine Rn.cal rfl (X_ald rfl <| X_ald rfl <| X_ild rfl <| X_i <| X_add <| X_io rfl (by first | omega | (simp (disch := omega) only [um_eq, um_na, um_ni, Int.toNat_natCast]; omega)) (by first | omega | (simp (disch := omega) only [um_eq, um_na, um_ni, Int.toNat_natCast]; omega)) (by first | omega | (simp (disch := omega) only [um_eq, um_na, um_ni, Int.toNat_natCast]; omega)) <| X_nil) (vs := [_, _]) (rest := [_]) rfl rfl rfl (rcv_v hM.ob (by decide)) (c2) ?_
      refine Rn.ceq rfl (X_nil) (by first | omega | (simp (disch := omega) only [um_eq, um_na, um_ni, Int.toNat_natCast]; omega)) (by first | omega | (simp (disch := omega) only [um_eq, um_na, um_ni, Int.toNat_natCast]; omega)) (fun hc => ?_) (fun hc => absurd hc (by first | omega | decide | (simp (disch := omega) only [um_eq, um_na, um_ni, Int.toNat_natCast]; omega)))
      exact r1
    · obtain ⟨v, T1, M1, M2, iv, c1, c2, g2⟩ : Op S 85 169 [vI ((roL S 0).getD (6 * (K : Int) + 1).toNat 0), vI ((roL S 0).getD (6 * (K : Int) + 2).toNat 0), vI ((roL S 0).getD (6 * (K : Int) + 3).toNat 0)] T M K := op_foretold g (by omega) (sI _) (sI _) (sI _)
      have hM := g2.m
      obtain ⟨h', r1, r2⟩ := fin T1 M2 g2
      refine ⟨h', go 649 h' rfl ?_, r2⟩
      refine Rn.cal rfl (X_ald rfl <| X_ald rfl <| X_ild rfl <| X_i <| X_add <| X_io rfl (by first | omega | (simp (disch := omega) only [um_eq, um_na, um_ni, Int.toNat_natCast]; omega)) (by first | omega | (simp (disch := omega) only [um_eq, um_na, um_ni, Int.toNat_natCast]; omega)) (by first | omega | (simp (disch := omega) only [um_eq, um_na, um_ni, Int.toNat_natCast]; omega)) <| X_ald rfl <| X_ild rfl <| X_i <| X_add <| X_io rfl (by first | omega | (simp (disch := omega) only [um_eq, um_na, um_ni, Int.toNat_natCast]; omega)) (by first | omega | (simp (disch := omega) only [um_eq, um_na, um_ni, Int.toNat_natCast]; omega)) (by first | omega | (simp (disch := omega) only [um_eq, um_na, um_ni, Int.toNat_natCast]; omega)) <| X_ald rfl <| X_ild rfl <| X_i <| X_add <| X_io rfl (by first | omega | (simp (disch := omega) only [um_eq, um_na, um_ni, Int.toNat_natCast]; omega)) (by first | omega | (simp (disch := omega) only [um_eq, um_na, um_ni, Int.toNat_natCast]; omega)) (by first | omega | (simp (disch := omega) only [um_eq, um_na, um_ni, Int.toNat_natCast]; omega)) <| X_nil) (vs := [_, _, _, _]) (rest := []) rfl rfl rfl (rcv_v hX.ob (by decide)) (c1) ?_
      refine Rn.cal rfl (X_ald rfl <| X_ald rfl <| X_ild rfl <| X_i <| X_add <| X_io rfl (by first | omega | (simp (disch := omega) only [um_eq, um_na, um_ni, Int.toNat_natCast]; omega)) (by first | omega | (simp (disch := omega) only [um_eq, um_na, um_ni, Int.toNat_natCast]; omega)) (by first | omega | (simp (disch := omega) only [um_eq, um_na, um_ni, Int.toNat_natCast]; omega)) <| X_ald rfl <| X_ild rfl <| X_i <| X_add <| X_io rfl (by first | omega | (simp (disch := omega) only [um_eq, um_na, um_ni, Int.toNat_natCast]; omega)) (by first | omega | (simp (disch := omega) only [um_eq, um_na, um_ni, Int.toNat_natCast]; omega)) (by first | omega | (simp (disch := omega) only [um_eq, um_na, um_ni, Int.toNat_natCast]; omega)) <| X_ald rfl <| X_ild rfl <| X_i <| X_add <| X_io rfl (by first | omega | (simp (disch := omega) only [um_eq, um_na, um_ni, Int.toNat_natCast]; omega)) (by first | omega | (simp (disch := omega) only [um_eq, um_na, um_ni, Int.toNat_natCast]; omega)) (by first | omega | (simp (disch := omega) only [um_eq, um_na, um_ni, Int.toNat_natCast]; omega)) <| X_nil) (vs := [_, _, _, _]) (rest := [_]) rfl rfl rfl (rcv_v hM.ob (by decide)) (c2) ?_
      refine Rn.ceq rfl (X_nil) (by first | omega | (simp (disch := omega) only [um_eq, um_na, um_ni, Int.toNat_natCast]; omega)) (by first | omega | (simp (disch := omega) only [um_eq, um_na, um_ni, Int.toNat_natCast]; omega)) (fun hc => ?_) (fun hc => absurd hc (by first | omega | decide | (simp (disch := omega) only [um_eq, um_na, um_ni, Int.toNat_natCast]; omega)))
      exact r1
    · obtain ⟨v, T1, M1, M2, iv, c1, c2, g2⟩ : Op S 86 171 [vI ((roL S 0).getD (6 * (K : Int) + 1).toNat 0)] T M K := op_worth g (by omega) (sI _)
      have hM := g2.m
      obtain ⟨h', r1, r2⟩ := fin T1 M2 g2
      refine ⟨h', go 692 h' rfl ?_, r2⟩
      refine Rn.cal rfl (X_ald rfl <| X_ald rfl <| X_ild rfl <| X_i <| X_add <| X_io rfl (by first | omega | (simp (disch := omega) only [um_eq, um_na, um_ni, Int.toNat_natCast]; omega)) (by first | omega | (simp (disch := omega) only [um_eq, um_na, um_ni, Int.toNat_natCast]; omega)) (by first | omega | (simp (disch := omega) only [um_eq, um_na, um_ni, Int.toNat_natCast]; omega)) <| X_nil) (vs := [_, _]) (rest := []) rfl rfl rfl (rcv_v hX.ob (by decide)) (c1) ?_
      refine Rn.cal rfl (X_ald rfl <| X_ald rfl <| X_ild rfl <| X_i <| X_add <| X_io rfl (by first | omega | (simp (disch := omega) only [um_eq, um_na, um_ni, Int.toNat_natCast]; omega)) (by first | omega | (simp (disch := omega) only [um_eq, um_na, um_ni, Int.toNat_natCast]; omega)) (by first | omega | (simp (disch := omega) only [um_eq, um_na, um_ni, Int.toNat_natCast]; omega)) <| X_nil) (vs := [_, _]) (rest := [_]) rfl rfl rfl (rcv_v hM.ob (by decide)) (c2) ?_
      refine Rn.ceq rfl (X_nil) (by first | omega | (simp (disch := omega) only [um_eq, um_na, um_ni, Int.toNat_natCast]; omega)) (by first | omega | (simp (disch := omega) only [um_eq, um_na, um_ni, Int.toNat_natCast]; omega)) (fun hc => ?_) (fun hc => absurd hc (by first | omega | decide | (simp (disch := omega) only [um_eq, um_na, um_ni, Int.toNat_natCast]; omega)))
      exact r1
    · obtain ⟨v, T1, M1, M2, iv, c1, c2, g2⟩ : Op S 87 172 [vI ((roL S 0).getD (6 * (K : Int) + 1).toNat 0)] T M K := op_reading g (by omega) (sI _)
      have hM := g2.m
      obtain ⟨h', r1, r2⟩ := fin T1 M2 g2
      refine ⟨h', go 715 h' rfl ?_, r2⟩
      refine Rn.cal rfl (X_ald rfl <| X_ald rfl <| X_ild rfl <| X_i <| X_add <| X_io rfl (by first | omega | (simp (disch := omega) only [um_eq, um_na, um_ni, Int.toNat_natCast]; omega)) (by first | omega | (simp (disch := omega) only [um_eq, um_na, um_ni, Int.toNat_natCast]; omega)) (by first | omega | (simp (disch := omega) only [um_eq, um_na, um_ni, Int.toNat_natCast]; omega)) <| X_nil) (vs := [_, _]) (rest := []) rfl rfl rfl (rcv_v hX.ob (by decide)) (c1) ?_
      refine Rn.cal rfl (X_ald rfl <| X_ald rfl <| X_ild rfl <| X_i <| X_add <| X_io rfl (by first | omega | (simp (disch := omega) only [um_eq, um_na, um_ni, Int.toNat_natCast]; omega)) (by first | omega | (simp (disch := omega) only [um_eq, um_na, um_ni, Int.toNat_natCast]; omega)) (by first | omega | (simp (disch := omega) only [um_eq, um_na, um_ni, Int.toNat_natCast]; omega)) <| X_nil) (vs := [_, _]) (rest := [_]) rfl rfl rfl (rcv_v hM.ob (by decide)) (c2) ?_
      refine Rn.ceq rfl (X_nil) (by first | omega | (simp (disch := omega) only [um_eq, um_na, um_ni, Int.toNat_natCast]; omega)) (by first | omega | (simp (disch := omega) only [um_eq, um_na, um_ni, Int.toNat_natCast]; omega)) (fun hc => ?_) (fun hc => absurd hc (by first | omega | decide | (simp (disch := omega) only [um_eq, um_na, um_ni, Int.toNat_natCast]; omega)))
      exact r1
    · obtain ⟨v, T1, M1, M2, iv, c1, c2, g2⟩ : Op S 88 174 [vI ((roL S 0).getD (6 * (K : Int) + 1).toNat 0), vI ((roL S 0).getD (6 * (K : Int) + 2).toNat 0), vI ((roL S 0).getD (6 * (K : Int) + 3).toNat 0)] T M K := op_waiting g (by omega) (sI _) (sI _) (sI _)
      have hM := g2.m
      obtain ⟨h', r1, r2⟩ := fin T1 M2 g2
      refine ⟨h', go 738 h' rfl ?_, r2⟩
      refine Rn.cal rfl (X_ald rfl <| X_ald rfl <| X_ild rfl <| X_i <| X_add <| X_io rfl (by first | omega | (simp (disch := omega) only [um_eq, um_na, um_ni, Int.toNat_natCast]; omega)) (by first | omega | (simp (disch := omega) only [um_eq, um_na, um_ni, Int.toNat_natCast]; omega)) (by first | omega | (simp (disch := omega) only [um_eq, um_na, um_ni, Int.toNat_natCast]; omega)) <| X_ald rfl <| X_ild rfl <| X_i <| X_add <| X_io rfl (by first | omega | (simp (disch := omega) only [um_eq, um_na, um_ni, Int.toNat_natCast]; omega)) (by first | omega | (simp (disch := omega) only [um_eq, um_na, um_ni, Int.toNat_natCast]; omega)) (by first | omega | (simp (disch := omega) only [um_eq, um_na, um_ni, Int.toNat_natCast]; omega)) <| X_ald rfl <| X_ild rfl <| X_i <| X_add <| X_io rfl (by first | omega | (simp (disch := omega) only [um_eq, um_na, um_ni, Int.toNat_natCast]; omega)) (by first | omega | (simp (disch := omega) only [um_eq, um_na, um_ni, Int.toNat_natCast]; omega)) (by first | omega | (simp (disch := omega) only [um_eq, um_na, um_ni, Int.toNat_natCast]; omega)) <| X_nil) (vs := [_, _, _, _]) (rest := []) rfl rfl rfl (rcv_v hX.ob (by decide)) (c1) ?_
      refine Rn.cal rfl (X_ald rfl <| X_ald rfl <| X_ild rfl <| X_i <| X_add <| X_io rfl (by first | omega | (simp (disch := omega) only [um_eq, um_na, um_ni, Int.toNat_natCast]; omega)) (by first | omega | (simp (disch := omega) only [um_eq, um_na, um_ni, Int.toNat_natCast]; omega)) (by first | omega | (simp (disch := omega) only [um_eq, um_na, um_ni, Int.toNat_natCast]; omega)) <| X_ald rfl <| X_ild rfl <| X_i <| X_add <| X_io rfl (by first | omega | (simp (disch := omega) only [um_eq, um_na, um_ni, Int.toNat_natCast]; omega)) (by first | omega | (simp (disch := omega) only [um_eq, um_na, um_ni, Int.toNat_natCast]; omega)) (by first | omega | (simp (disch := omega) only [um_eq, um_na, um_ni, Int.toNat_natCast]; omega)) <| X_ald rfl <| X_ild rfl <| X_i <| X_add <| X_io rfl (by first | omega | (simp (disch := omega) only [um_eq, um_na, um_ni, Int.toNat_natCast]; omega)) (by first | omega | (simp (disch := omega) only [um_eq, um_na, um_ni, Int.toNat_natCast]; omega)) (by first | omega | (simp (disch := omega) only [um_eq, um_na, um_ni, Int.toNat_natCast]; omega)) <| X_nil) (vs := [_, _, _, _]) (rest := [_]) rfl rfl rfl (rcv_v hM.ob (by decide)) (c2) ?_
      refine Rn.ceq rfl (X_nil) (by first | omega | (simp (disch := omega) only [um_eq, um_na, um_ni, Int.toNat_natCast]; omega)) (by first | omega | (simp (disch := omega) only [um_eq, um_na, um_ni, Int.toNat_natCast]; omega)) (fun hc => ?_) (fun hc => absurd hc (by first | omega | decide | (simp (disch := omega) only [um_eq, um_na, um_ni, Int.toNat_natCast]; omega)))
      exact r1
    · obtain ⟨v, T1, M1, M2, iv, c1, c2, g2⟩ : Op S 89 177 [vI ((roL S 0).getD (6 * (K : Int) + 1).toNat 0), vI ((roL S 0).getD (6 * (K : Int) + 2).toNat 0)] T M K := op_turns g (by omega) (sI _) (sI _)
      have hM := g2.m
      obtain ⟨h', r1, r2⟩ := fin T1 M2 g2
      refine ⟨h', go 781 h' rfl ?_, r2⟩
      refine Rn.cal rfl (X_ald rfl <| X_ald rfl <| X_ild rfl <| X_i <| X_add <| X_io rfl (by first | omega | (simp (disch := omega) only [um_eq, um_na, um_ni, Int.toNat_natCast]; omega)) (by first | omega | (simp (disch := omega) only [um_eq, um_na, um_ni, Int.toNat_natCast]; omega)) (by first | omega | (simp (disch := omega) only [um_eq, um_na, um_ni, Int.toNat_natCast]; omega)) <| X_ald rfl <| X_ild rfl <| X_i <| X_add <| X_io rfl (by first | omega | (simp (disch := omega) only [um_eq, um_na, um_ni, Int.toNat_natCast]; omega)) (by first | omega | (simp (disch := omega) only [um_eq, um_na, um_ni, Int.toNat_natCast]; omega)) (by first | omega | (simp (disch := omega) only [um_eq, um_na, um_ni, Int.toNat_natCast]; omega)) <| X_nil) (vs := [_, _, _]) (rest := []) rfl rfl rfl (rcv_v hX.ob (by decide)) (c1) ?_
      refine Rn.cal rfl (X_ald rfl <| X_ald rfl <| X_ild rfl <| X_i <| X_add <| X_io rfl (by first | omega | (simp (disch := omega) only [um_eq, um_na, um_ni, Int.toNat_natCast]; omega)) (by first | omega | (simp (disch := omega) only [um_eq, um_na, um_ni, Int.toNat_natCast]; omega)) (by first | omega | (simp (disch := omega) only [um_eq, um_na, um_ni, Int.toNat_natCast]; omega)) <| X_ald rfl <| X_ild rfl <| X_i <| X_add <| X_io rfl (by first | omega | (simp (disch := omega) only [um_eq, um_na, um_ni, Int.toNat_natCast]; omega)) (by first | omega | (simp (disch := omega) only [um_eq, um_na, um_ni, Int.toNat_natCast]; omega)) (by first | omega | (simp (disch := omega) only [um_eq, um_na, um_ni, Int.toNat_natCast]; omega)) <| X_nil) (vs := [_, _, _]) (rest := [_]) rfl rfl rfl (rcv_v hM.ob (by decide)) (c2) ?_
      refine Rn.ceq rfl (X_nil) (by first | omega | (simp (disch := omega) only [um_eq, um_na, um_ni, Int.toNat_natCast]; omega)) (by first | omega | (simp (disch := omega) only [um_eq, um_na, um_ni, Int.toNat_natCast]; omega)) (fun hc => ?_) (fun hc => absurd hc (by first | omega | decide | (simp (disch := omega) only [um_eq, um_na, um_ni, Int.toNat_natCast]; omega)))
      exact r1
    · obtain ⟨v, T1, M1, M2, iv, c1, c2, g2⟩ : Op S 90 180 [vI ((roL S 0).getD (6 * (K : Int) + 1).toNat 0), vI ((roL S 0).getD (6 * (K : Int) + 2).toNat 0), vI ((roL S 0).getD (6 * (K : Int) + 3).toNat 0)] T M K := op_shoe g (sI _) (sI _) (sI _)
      have hM := g2.m
      obtain ⟨h', r1, r2⟩ := fin T1 M2 g2
      refine ⟨h', go 814 h' rfl ?_, r2⟩
      refine Rn.cal rfl (X_ald rfl <| X_ald rfl <| X_ild rfl <| X_i <| X_add <| X_io rfl (by first | omega | (simp (disch := omega) only [um_eq, um_na, um_ni, Int.toNat_natCast]; omega)) (by first | omega | (simp (disch := omega) only [um_eq, um_na, um_ni, Int.toNat_natCast]; omega)) (by first | omega | (simp (disch := omega) only [um_eq, um_na, um_ni, Int.toNat_natCast]; omega)) <| X_ald rfl <| X_ild rfl <| X_i <| X_add <| X_io rfl (by first | omega | (simp (disch := omega) only [um_eq, um_na, um_ni, Int.toNat_natCast]; omega)) (by first | omega | (simp (disch := omega) only [um_eq, um_na, um_ni, Int.toNat_natCast]; omega)) (by first | omega | (simp (disch := omega) only [um_eq, um_na, um_ni, Int.toNat_natCast]; omega)) <| X_ald rfl <| X_ild rfl <| X_i <| X_add <| X_io rfl (by first | omega | (simp (disch := omega) only [um_eq, um_na, um_ni, Int.toNat_natCast]; omega)) (by first | omega | (simp (disch := omega) only [um_eq, um_na, um_ni, Int.toNat_natCast]; omega)) (by first | omega | (simp (disch := omega) only [um_eq, um_na, um_ni, Int.toNat_natCast]; omega)) <| X_nil) (vs := [_, _, _, _]) (rest := []) rfl rfl rfl (rcv_v hX.ob (by decide)) (c1) ?_
      refine Rn.cal rfl (X_ald rfl <| X_ald rfl <| X_ild rfl <| X_i <| X_add <| X_io rfl (by first | omega | (simp (disch := omega) only [um_eq, um_na, um_ni, Int.toNat_natCast]; omega)) (by first | omega | (simp (disch := omega) only [um_eq, um_na, um_ni, Int.toNat_natCast]; omega)) (by first | omega | (simp (disch := omega) only [um_eq, um_na, um_ni, Int.toNat_natCast]; omega)) <| X_ald rfl <| X_ild rfl <| X_i <| X_add <| X_io rfl (by first | omega | (simp (disch := omega) only [um_eq, um_na, um_ni, Int.toNat_natCast]; omega)) (by first | omega | (simp (disch := omega) only [um_eq, um_na, um_ni, Int.toNat_natCast]; omega)) (by first | omega | (simp (disch := omega) only [um_eq, um_na, um_ni, Int.toNat_natCast]; omega)) <| X_ald rfl <| X_ild rfl <| X_i <| X_add <| X_io rfl (by first | omega | (simp (disch := omega) only [um_eq, um_na, um_ni, Int.toNat_natCast]; omega)) (by first | omega | (simp (disch := omega) only [um_eq, um_na, um_ni, Int.toNat_natCast]; omega)) (by first | omega | (simp (disch := omega) only [um_eq, um_na, um_ni, Int.toNat_natCast]; omega)) <| X_nil) (vs := [_, _, _, _]) (rest := [_]) rfl rfl rfl (rcv_v hM.ob (by decide)) (c2) ?_
      refine Rn.ceq rfl (X_nil) (by first | omega | (simp (disch := omega) only [um_eq, um_na, um_ni, Int.toNat_natCast]; omega)) (by first | omega | (simp (disch := omega) only [um_eq, um_na, um_ni, Int.toNat_natCast]; omega)) (fun hc => ?_) (fun hc => absurd hc (by first | omega | decide | (simp (disch := omega) only [um_eq, um_na, um_ni, Int.toNat_natCast]; omega)))
      exact r1
    · obtain ⟨v, T1, M1, M2, iv, c1, c2, g2⟩ : Op S 91 181 [vI ((roL S 0).getD (6 * (K : Int) + 1).toNat 0), vI ((roL S 0).getD (6 * (K : Int) + 2).toNat 0), vI ((roL S 0).getD (6 * (K : Int) + 3).toNat 0)] T M K := op_clap g (sI _) (sI _) (sI _)
      have hM := g2.m
      obtain ⟨h', r1, r2⟩ := fin T1 M2 g2
      refine ⟨h', go 857 h' rfl ?_, r2⟩
      refine Rn.cal rfl (X_ald rfl <| X_ald rfl <| X_ild rfl <| X_i <| X_add <| X_io rfl (by first | omega | (simp (disch := omega) only [um_eq, um_na, um_ni, Int.toNat_natCast]; omega)) (by first | omega | (simp (disch := omega) only [um_eq, um_na, um_ni, Int.toNat_natCast]; omega)) (by first | omega | (simp (disch := omega) only [um_eq, um_na, um_ni, Int.toNat_natCast]; omega)) <| X_ald rfl <| X_ild rfl <| X_i <| X_add <| X_io rfl (by first | omega | (simp (disch := omega) only [um_eq, um_na, um_ni, Int.toNat_natCast]; omega)) (by first | omega | (simp (disch := omega) only [um_eq, um_na, um_ni, Int.toNat_natCast]; omega)) (by first | omega | (simp (disch := omega) only [um_eq, um_na, um_ni, Int.toNat_natCast]; omega)) <| X_ald rfl <| X_ild rfl <| X_i <| X_add <| X_io rfl (by first | omega | (simp (disch := omega) only [um_eq, um_na, um_ni, Int.toNat_natCast]; omega)) (by first | omega | (simp (disch := omega) only [um_eq, um_na, um_ni, Int.toNat_natCast]; omega)) (by first | omega | (simp (disch := omega) only [um_eq, um_na, um_ni, Int.toNat_natCast]; omega)) <| X_nil) (vs := [_, _, _, _]) (rest := []) rfl rfl rfl (rcv_v hX.ob (by decide)) (c1) ?_
      refine Rn.cal rfl (X_ald rfl <| X_ald rfl <| X_ild rfl <| X_i <| X_add <| X_io rfl (by first | omega | (simp (disch := omega) only [um_eq, um_na, um_ni, Int.toNat_natCast]; omega)) (by first | omega | (simp (disch := omega) only [um_eq, um_na, um_ni, Int.toNat_natCast]; omega)) (by first | omega | (simp (disch := omega) only [um_eq, um_na, um_ni, Int.toNat_natCast]; omega)) <| X_ald rfl <| X_ild rfl <| X_i <| X_add <| X_io rfl (by first | omega | (simp (disch := omega) only [um_eq, um_na, um_ni, Int.toNat_natCast]; omega)) (by first | omega | (simp (disch := omega) only [um_eq, um_na, um_ni, Int.toNat_natCast]; omega)) (by first | omega | (simp (disch := omega) only [um_eq, um_na, um_ni, Int.toNat_natCast]; omega)) <| X_ald rfl <| X_ild rfl <| X_i <| X_add <| X_io rfl (by first | omega | (simp (disch := omega) only [um_eq, um_na, um_ni, Int.toNat_natCast]; omega)) (by first | omega | (simp (disch := omega) only [um_eq, um_na, um_ni, Int.toNat_natCast]; omega)) (by first | omega | (simp (disch := omega) only [um_eq, um_na, um_ni, Int.toNat_natCast]; omega)) <| X_nil) (vs := [_, _, _, _]) (rest := [_]) rfl rfl rfl (rcv_v hM.ob (by decide)) (c2) ?_
      refine Rn.ceq rfl (X_nil) (by first | omega | (simp (disch := omega) only [um_eq, um_na, um_ni, Int.toNat_natCast]; omega)) (by first | omega | (simp (disch := omega) only [um_eq, um_na, um_ni, Int.toNat_natCast]; omega)) (fun hc => ?_) (fun hc => absurd hc (by first | omega | decide | (simp (disch := omega) only [um_eq, um_na, um_ni, Int.toNat_natCast]; omega)))
      exact r1
    · obtain ⟨v, T1, M1, M2, iv, c1, c2, g2⟩ : Op S 92 182 [vI ((roL S 0).getD (6 * (K : Int) + 1).toNat 0), vI ((roL S 0).getD (6 * (K : Int) + 2).toNat 0), vI ((roL S 0).getD (6 * (K : Int) + 3).toNat 0), vI ((roL S 0).getD (6 * (K : Int) + 4).toNat 0), vI ((roL S 0).getD (6 * (K : Int) + 5).toNat 0)] T M K := op_asleep g (sI _) (sI _) (sI _) (sI _) (sI _)
      have hM := g2.m
      obtain ⟨h', r1, r2⟩ := fin T1 M2 g2
      refine ⟨h', go 900 h' rfl ?_, r2⟩
      refine Rn.cal rfl (X_ald rfl <| X_ald rfl <| X_ild rfl <| X_i <| X_add <| X_io rfl (by first | omega | (simp (disch := omega) only [um_eq, um_na, um_ni, Int.toNat_natCast]; omega)) (by first | omega | (simp (disch := omega) only [um_eq, um_na, um_ni, Int.toNat_natCast]; omega)) (by first | omega | (simp (disch := omega) only [um_eq, um_na, um_ni, Int.toNat_natCast]; omega)) <| X_ald rfl <| X_ild rfl <| X_i <| X_add <| X_io rfl (by first | omega | (simp (disch := omega) only [um_eq, um_na, um_ni, Int.toNat_natCast]; omega)) (by first | omega | (simp (disch := omega) only [um_eq, um_na, um_ni, Int.toNat_natCast]; omega)) (by first | omega | (simp (disch := omega) only [um_eq, um_na, um_ni, Int.toNat_natCast]; omega)) <| X_ald rfl <| X_ild rfl <| X_i <| X_add <| X_io rfl (by first | omega | (simp (disch := omega) only [um_eq, um_na, um_ni, Int.toNat_natCast]; omega)) (by first | omega | (simp (disch := omega) only [um_eq, um_na, um_ni, Int.toNat_natCast]; omega)) (by first | omega | (simp (disch := omega) only [um_eq, um_na, um_ni, Int.toNat_natCast]; omega)) <| X_ald rfl <| X_ild rfl <| X_i <| X_add <| X_io rfl (by first | omega | (simp (disch := omega) only [um_eq, um_na, um_ni, Int.toNat_natCast]; omega)) (by first | omega | (simp (disch := omega) only [um_eq, um_na, um_ni, Int.toNat_natCast]; omega)) (by first | omega | (simp (disch := omega) only [um_eq, um_na, um_ni, Int.toNat_natCast]; omega)) <| X_ald rfl <| X_ild rfl <| X_i <| X_add <| X_io rfl (by first | omega | (simp (disch := omega) only [um_eq, um_na, um_ni, Int.toNat_natCast]; omega)) (by first | omega | (simp (disch := omega) only [um_eq, um_na, um_ni, Int.toNat_natCast]; omega)) (by first | omega | (simp (disch := omega) only [um_eq, um_na, um_ni, Int.toNat_natCast]; omega)) <| X_nil) (vs := [_, _, _, _, _, _]) (rest := []) rfl rfl rfl (rcv_v hX.ob (by decide)) (c1) ?_
      refine Rn.cal rfl (X_ald rfl <| X_ald rfl <| X_ild rfl <| X_i <| X_add <| X_io rfl (by first | omega | (simp (disch := omega) only [um_eq, um_na, um_ni, Int.toNat_natCast]; omega)) (by first | omega | (simp (disch := omega) only [um_eq, um_na, um_ni, Int.toNat_natCast]; omega)) (by first | omega | (simp (disch := omega) only [um_eq, um_na, um_ni, Int.toNat_natCast]; omega)) <| X_ald rfl <| X_ild rfl <| X_i <| X_add <| X_io rfl (by first | omega | (simp (disch := omega) only [um_eq, um_na, um_ni, Int.toNat_natCast]; omega)) (by first | omega | (simp (disch := omega) only [um_eq, um_na, um_ni, Int.toNat_natCast]; omega)) (by first | omega | (simp (disch := omega) only [um_eq, um_na, um_ni, Int.toNat_natCast]; omega)) <| X_ald rfl <| X_ild rfl <| X_i <| X_add <| X_io rfl (by first | omega | (simp (disch := omega) only [um_eq, um_na, um_ni, Int.toNat_natCast]; omega)) (by first | omega | (simp (disch := omega) only [um_eq, um_na, um_ni, Int.toNat_natCast]; omega)) (by first | omega | (simp (disch := omega) only [um_eq, um_na, um_ni, Int.toNat_natCast]; omega)) <| X_ald rfl <| X_ild rfl <| X_i <| X_add <| X_io rfl (by first | omega | (simp (disch := omega) only [um_eq, um_na, um_ni, Int.toNat_natCast]; omega)) (by first | omega | (simp (disch := omega) only [um_eq, um_na, um_ni, Int.toNat_natCast]; omega)) (by first | omega | (simp (disch := omega) only [um_eq, um_na, um_ni, Int.toNat_natCast]; omega)) <| X_ald rfl <| X_ild rfl <| X_i <| X_add <| X_io rfl (by first | omega | (simp (disch := omega) only [um_eq, um_na, um_ni, Int.toNat_natCast]; omega)) (by first | omega | (simp (disch := omega) only [um_eq, um_na, um_ni, Int.toNat_natCast]; omega)) (by first | omega | (simp (disch := omega) only [um_eq, um_na, um_ni, Int.toNat_natCast]; omega)) <| X_nil) (vs := [_, _, _, _, _, _]) (rest := [_]) rfl rfl rfl (rcv_v hM.ob (by decide)) (c2) ?_
      refine Rn.ceq rfl (X_nil) (by first | omega | (simp (disch := omega) only [um_eq, um_na, um_ni, Int.toNat_natCast]; omega)) (by first | omega | (simp (disch := omega) only [um_eq, um_na, um_ni, Int.toNat_natCast]; omega)) (fun hc => ?_) (fun hc => absurd hc (by first | omega | decide | (simp (disch := omega) only [um_eq, um_na, um_ni, Int.toNat_natCast]; omega)))
      exact r1
    · obtain ⟨v, T1, M1, M2, iv, c1, c2, g2⟩ : Op S 93 183 [vI ((roL S 0).getD (6 * (K : Int) + 1).toNat 0), vI ((roL S 0).getD (6 * (K : Int) + 2).toNat 0)] T M K := op_note g (sI _) (sI _)
      have hM := g2.m
      obtain ⟨h', r1, r2⟩ := fin T1 M2 g2
      refine ⟨h', go 963 h' rfl ?_, r2⟩
      refine Rn.cal rfl (X_ald rfl <| X_ald rfl <| X_ild rfl <| X_i <| X_add <| X_io rfl (by first | omega | (simp (disch := omega) only [um_eq, um_na, um_ni, Int.toNat_natCast]; omega)) (by first | omega | (simp (disch := omega) only [um_eq, um_na, um_ni, Int.toNat_natCast]; omega)) (by first | omega | (simp (disch := omega) only [um_eq, um_na, um_ni, Int.toNat_natCast]; omega)) <| X_ald rfl <| X_ild rfl <| X_i <| X_add <| X_io rfl (by first | omega | (simp (disch := omega) only [um_eq, um_na, um_ni, Int.toNat_natCast]; omega)) (by first | omega | (simp (disch := omega) only [um_eq, um_na, um_ni, Int.toNat_natCast]; omega)) (by first | omega | (simp (disch := omega) only [um_eq, um_na, um_ni, Int.toNat_natCast]; omega)) <| X_nil) (vs := [_, _, _]) (rest := []) rfl rfl rfl (rcv_v hX.ob (by decide)) (c1) ?_
      refine Rn.cal rfl (X_ald rfl <| X_ald rfl <| X_ild rfl <| X_i <| X_add <| X_io rfl (by first | omega | (simp (disch := omega) only [um_eq, um_na, um_ni, Int.toNat_natCast]; omega)) (by first | omega | (simp (disch := omega) only [um_eq, um_na, um_ni, Int.toNat_natCast]; omega)) (by first | omega | (simp (disch := omega) only [um_eq, um_na, um_ni, Int.toNat_natCast]; omega)) <| X_ald rfl <| X_ild rfl <| X_i <| X_add <| X_io rfl (by first | omega | (simp (disch := omega) only [um_eq, um_na, um_ni, Int.toNat_natCast]; omega)) (by first | omega | (simp (disch := omega) only [um_eq, um_na, um_ni, Int.toNat_natCast]; omega)) (by first | omega | (simp (disch := omega) only [um_eq, um_na, um_ni, Int.toNat_natCast]; omega)) <| X_nil) (vs := [_, _, _]) (rest := [_]) rfl rfl rfl (rcv_v hM.ob (by decide)) (c2) ?_
      refine Rn.ceq rfl (X_nil) (by first | omega | (simp (disch := omega) only [um_eq, um_na, um_ni, Int.toNat_natCast]; omega)) (by first | omega | (simp (disch := omega) only [um_eq, um_na, um_ni, Int.toNat_natCast]; omega)) (fun hc => ?_) (fun hc => absurd hc (by first | omega | decide | (simp (disch := omega) only [um_eq, um_na, um_ni, Int.toNat_natCast]; omega)))
      exact r1
    · obtain ⟨v, T1, M1, M2, iv, c1, c2, g2⟩ : Op S 94 184 [] T M K := op_burn g 
      have hM := g2.m
      obtain ⟨h', r1, r2⟩ := fin T1 M2 g2
      refine ⟨h', go 996 h' rfl ?_, r2⟩
      refine Rn.cal rfl (X_ald rfl <| X_nil) (vs := [_]) (rest := []) rfl rfl rfl (rcv_v hX.ob (by decide)) (c1) ?_
      refine Rn.cal rfl (X_ald rfl <| X_nil) (vs := [_]) (rest := [_]) rfl rfl rfl (rcv_v hM.ob (by decide)) (c2) ?_
      refine Rn.ceq rfl (X_nil) (by first | omega | (simp (disch := omega) only [um_eq, um_na, um_ni, Int.toNat_natCast]; omega)) (by first | omega | (simp (disch := omega) only [um_eq, um_na, um_ni, Int.toNat_natCast]; omega)) (fun hc => ?_) (fun hc => absurd hc (by first | omega | decide | (simp (disch := omega) only [um_eq, um_na, um_ni, Int.toNat_natCast]; omega)))
      exact r1
    · obtain ⟨v, T1, M1, M2, iv, c1, c2, g2⟩ : Op S 95 186 [vI ((roL S 0).getD (6 * (K : Int) + 1).toNat 0)] T M K := op_who g (sI _)
      have hM := g2.m
      obtain ⟨h', r1, r2⟩ := fin T1 M2 g2
      refine ⟨h', go 1009 h' rfl ?_, r2⟩
      refine Rn.cal rfl (X_ald rfl <| X_ald rfl <| X_ild rfl <| X_i <| X_add <| X_io rfl (by first | omega | (simp (disch := omega) only [um_eq, um_na, um_ni, Int.toNat_natCast]; omega)) (by first | omega | (simp (disch := omega) only [um_eq, um_na, um_ni, Int.toNat_natCast]; omega)) (by first | omega | (simp (disch := omega) only [um_eq, um_na, um_ni, Int.toNat_natCast]; omega)) <| X_nil) (vs := [_, _]) (rest := []) rfl rfl rfl (rcv_v hX.ob (by decide)) (c1) ?_
      refine Rn.cal rfl (X_ald rfl <| X_ald rfl <| X_ild rfl <| X_i <| X_add <| X_io rfl (by first | omega | (simp (disch := omega) only [um_eq, um_na, um_ni, Int.toNat_natCast]; omega)) (by first | omega | (simp (disch := omega) only [um_eq, um_na, um_ni, Int.toNat_natCast]; omega)) (by first | omega | (simp (disch := omega) only [um_eq, um_na, um_ni, Int.toNat_natCast]; omega)) <| X_nil) (vs := [_, _]) (rest := [_]) rfl rfl rfl (rcv_v hM.ob (by decide)) (c2) ?_
      refine Rn.ceq rfl (X_nil) (by first | omega | (simp (disch := omega) only [um_eq, um_na, um_ni, Int.toNat_natCast]; omega)) (by first | omega | (simp (disch := omega) only [um_eq, um_na, um_ni, Int.toNat_natCast]; omega)) (fun hc => ?_) (fun hc => absurd hc (by first | omega | decide | (simp (disch := omega) only [um_eq, um_na, um_ni, Int.toNat_natCast]; omega)))
      exact r1
    · obtain ⟨v, T1, M1, M2, iv, c1, c2, g2⟩ : Op S 96 187 [vI ((roL S 0).getD (6 * (K : Int) + 1).toNat 0), vI ((roL S 0).getD (6 * (K : Int) + 2).toNat 0), vI ((roL S 0).getD (6 * (K : Int) + 3).toNat 0)] T M K := op_drawn g (by omega) (sI _) (sI _) (sI _)
      have hM := g2.m
      obtain ⟨h', r1, r2⟩ := fin T1 M2 g2
      refine ⟨h', go 1032 h' rfl ?_, r2⟩
      refine Rn.cal rfl (X_ald rfl <| X_ald rfl <| X_ild rfl <| X_i <| X_add <| X_io rfl (by first | omega | (simp (disch := omega) only [um_eq, um_na, um_ni, Int.toNat_natCast]; omega)) (by first | omega | (simp (disch := omega) only [um_eq, um_na, um_ni, Int.toNat_natCast]; omega)) (by first | omega | (simp (disch := omega) only [um_eq, um_na, um_ni, Int.toNat_natCast]; omega)) <| X_ald rfl <| X_ild rfl <| X_i <| X_add <| X_io rfl (by first | omega | (simp (disch := omega) only [um_eq, um_na, um_ni, Int.toNat_natCast]; omega)) (by first | omega | (simp (disch := omega) only [um_eq, um_na, um_ni, Int.toNat_natCast]; omega)) (by first | omega | (simp (disch := omega) only [um_eq, um_na, um_ni, Int.toNat_natCast]; omega)) <| X_ald rfl <| X_ild rfl <| X_i <| X_add <| X_io rfl (by first | omega | (simp (disch := omega) only [um_eq, um_na, um_ni, Int.toNat_natCast]; omega)) (by first | omega | (simp (disch := omega) only [um_eq, um_na, um_ni, Int.toNat_natCast]; omega)) (by first | omega | (simp (disch := omega) only [um_eq, um_na, um_ni, Int.toNat_natCast]; omega)) <| X_nil) (vs := [_, _, _, _]) (rest := []) rfl rfl rfl (rcv_v hX.ob (by decide)) (c1) ?_
      refine Rn.cal rfl (X_ald rfl <| X_ald rfl <| X_ild rfl <| X_i <| X_add <| X_io rfl (by first | omega | (simp (disch := omega) only [um_eq, um_na, um_ni, Int.toNat_natCast]; omega)) (by first | omega | (simp (disch := omega) only [um_eq, um_na, um_ni, Int.toNat_natCast]; omega)) (by first | omega | (simp (disch := omega) only [um_eq, um_na, um_ni, Int.toNat_natCast]; omega)) <| X_ald rfl <| X_ild rfl <| X_i <| X_add <| X_io rfl (by first | omega | (simp (disch := omega) only [um_eq, um_na, um_ni, Int.toNat_natCast]; omega)) (by first | omega | (simp (disch := omega) only [um_eq, um_na, um_ni, Int.toNat_natCast]; omega)) (by first | omega | (simp (disch := omega) only [um_eq, um_na, um_ni, Int.toNat_natCast]; omega)) <| X_ald rfl <| X_ild rfl <| X_i <| X_add <| X_io rfl (by first | omega | (simp (disch := omega) only [um_eq, um_na, um_ni, Int.toNat_natCast]; omega)) (by first | omega | (simp (disch := omega) only [um_eq, um_na, um_ni, Int.toNat_natCast]; omega)) (by first | omega | (simp (disch := omega) only [um_eq, um_na, um_ni, Int.toNat_natCast]; omega)) <| X_nil) (vs := [_, _, _, _]) (rest := [_]) rfl rfl rfl (rcv_v hM.ob (by decide)) (c2) ?_
      refine Rn.ceq rfl (X_nil) (by first | omega | (simp (disch := omega) only [um_eq, um_na, um_ni, Int.toNat_natCast]; omega)) (by first | omega | (simp (disch := omega) only [um_eq, um_na, um_ni, Int.toNat_natCast]; omega)) (fun hc => ?_) (fun hc => absurd hc (by first | omega | decide | (simp (disch := omega) only [um_eq, um_na, um_ni, Int.toNat_natCast]; omega)))
      exact r1
    · obtain ⟨v, T1, M1, M2, c1, c2, g2⟩ : OpL S 97 188 [vI ((roL S 0).getD (6 * (K : Int) + 1).toNat 0)] T M K := op_part g (sI _)
      have hM := g2.m
      obtain ⟨h', r1, r2⟩ := fin T1 M2 g2
      refine ⟨h', go 1075 h' rfl ?_, r2⟩
      refine Rn.cal rfl (X_ald rfl <| X_ald rfl <| X_ild rfl <| X_i <| X_add <| X_io rfl (by first | omega | (simp (disch := omega) only [um_eq, um_na, um_ni, Int.toNat_natCast]; omega)) (by first | omega | (simp (disch := omega) only [um_eq, um_na, um_ni, Int.toNat_natCast]; omega)) (by first | omega | (simp (disch := omega) only [um_eq, um_na, um_ni, Int.toNat_natCast]; omega)) <| X_nil) (vs := [_, _]) (rest := []) rfl rfl rfl (rcv_v hX.ob (by decide)) (c1) ?_
      refine Rn.cal rfl (X_ald rfl <| X_ald rfl <| X_ild rfl <| X_i <| X_add <| X_io rfl (by first | omega | (simp (disch := omega) only [um_eq, um_na, um_ni, Int.toNat_natCast]; omega)) (by first | omega | (simp (disch := omega) only [um_eq, um_na, um_ni, Int.toNat_natCast]; omega)) (by first | omega | (simp (disch := omega) only [um_eq, um_na, um_ni, Int.toNat_natCast]; omega)) <| X_nil) (vs := [_, _]) (rest := [_]) rfl rfl rfl (rcv_v hM.ob (by decide)) (c2) ?_
      refine Rn.ieq rfl (X_lcs <| X_nil) (by decide) (fun hc => ?_) (fun hc => absurd rfl hc)
      exact r1
    · obtain ⟨v, T1, M1, M2, iv, c1, c2, g2⟩ : Op S 98 189 [vI ((roL S 0).getD (6 * (K : Int) + 1).toNat 0)] T M K := op_image g (sI _)
      have hM := g2.m
      obtain ⟨h', r1, r2⟩ := fin T1 M2 g2
      refine ⟨h', go 1099 h' rfl ?_, r2⟩
      refine Rn.cal rfl (X_ald rfl <| X_ald rfl <| X_ild rfl <| X_i <| X_add <| X_io rfl (by first | omega | (simp (disch := omega) only [um_eq, um_na, um_ni, Int.toNat_natCast]; omega)) (by first | omega | (simp (disch := omega) only [um_eq, um_na, um_ni, Int.toNat_natCast]; omega)) (by first | omega | (simp (disch := omega) only [um_eq, um_na, um_ni, Int.toNat_natCast]; omega)) <| X_nil) (vs := [_, _]) (rest := []) rfl rfl rfl (rcv_v hX.ob (by decide)) (c1) ?_
      refine Rn.cal rfl (X_ald rfl <| X_ald rfl <| X_ild rfl <| X_i <| X_add <| X_io rfl (by first | omega | (simp (disch := omega) only [um_eq, um_na, um_ni, Int.toNat_natCast]; omega)) (by first | omega | (simp (disch := omega) only [um_eq, um_na, um_ni, Int.toNat_natCast]; omega)) (by first | omega | (simp (disch := omega) only [um_eq, um_na, um_ni, Int.toNat_natCast]; omega)) <| X_nil) (vs := [_, _]) (rest := [_]) rfl rfl rfl (rcv_v hM.ob (by decide)) (c2) ?_
      refine Rn.ceq rfl (X_nil) (by first | omega | (simp (disch := omega) only [um_eq, um_na, um_ni, Int.toNat_natCast]; omega)) (by first | omega | (simp (disch := omega) only [um_eq, um_na, um_ni, Int.toNat_natCast]; omega)) (fun hc => ?_) (fun hc => absurd hc (by first | omega | decide | (simp (disch := omega) only [um_eq, um_na, um_ni, Int.toNat_natCast]; omega)))
      exact r1
    · obtain ⟨v, T1, M1, M2, iv, c1, c2, g2⟩ : Op S 99 190 [vI ((roL S 0).getD (6 * (K : Int) + 1).toNat 0)] T M K := op_from g (sI _)
      have hM := g2.m
      obtain ⟨h', r1, r2⟩ := fin T1 M2 g2
      refine ⟨h', go 1122 h' rfl ?_, r2⟩
      refine Rn.cal rfl (X_ald rfl <| X_ald rfl <| X_ild rfl <| X_i <| X_add <| X_io rfl (by first | omega | (simp (disch := omega) only [um_eq, um_na, um_ni, Int.toNat_natCast]; omega)) (by first | omega | (simp (disch := omega) only [um_eq, um_na, um_ni, Int.toNat_natCast]; omega)) (by first | omega | (simp (disch := omega) only [um_eq, um_na, um_ni, Int.toNat_natCast]; omega)) <| X_nil) (vs := [_, _]) (rest := []) rfl rfl rfl (rcv_v hX.ob (by decide)) (c1) ?_
      refine Rn.cal rfl (X_ald rfl <| X_ald rfl <| X_ild rfl <| X_i <| X_add <| X_io rfl (by first | omega | (simp (disch := omega) only [um_eq, um_na, um_ni, Int.toNat_natCast]; omega)) (by first | omega | (simp (disch := omega) only [um_eq, um_na, um_ni, Int.toNat_natCast]; omega)) (by first | omega | (simp (disch := omega) only [um_eq, um_na, um_ni, Int.toNat_natCast]; omega)) <| X_nil) (vs := [_, _]) (rest := [_]) rfl rfl rfl (rcv_v hM.ob (by decide)) (c2) ?_
      refine Rn.ceq rfl (X_nil) (by first | omega | (simp (disch := omega) only [um_eq, um_na, um_ni, Int.toNat_natCast]; omega)) (by first | omega | (simp (disch := omega) only [um_eq, um_na, um_ni, Int.toNat_natCast]; omega)) (fun hc => ?_) (fun hc => absurd hc (by first | omega | decide | (simp (disch := omega) only [um_eq, um_na, um_ni, Int.toNat_natCast]; omega)))
      exact r1
    · obtain ⟨v, T1, M1, M2, iv, c1, c2, g2⟩ : Op S 100 191 [vI ((roL S 0).getD (6 * (K : Int) + 1).toNat 0)] T M K := op_status g (by omega) (sI _)
      have hM := g2.m
      obtain ⟨h', r1, r2⟩ := fin T1 M2 g2
      refine ⟨h', go 1145 h' rfl ?_, r2⟩
      refine Rn.cal rfl (X_ald rfl <| X_ald rfl <| X_ild rfl <| X_i <| X_add <| X_io rfl (by first | omega | (simp (disch := omega) only [um_eq, um_na, um_ni, Int.toNat_natCast]; omega)) (by first | omega | (simp (disch := omega) only [um_eq, um_na, um_ni, Int.toNat_natCast]; omega)) (by first | omega | (simp (disch := omega) only [um_eq, um_na, um_ni, Int.toNat_natCast]; omega)) <| X_nil) (vs := [_, _]) (rest := []) rfl rfl rfl (rcv_v hX.ob (by decide)) (c1) ?_
      refine Rn.cal rfl (X_ald rfl <| X_ald rfl <| X_ild rfl <| X_i <| X_add <| X_io rfl (by first | omega | (simp (disch := omega) only [um_eq, um_na, um_ni, Int.toNat_natCast]; omega)) (by first | omega | (simp (disch := omega) only [um_eq, um_na, um_ni, Int.toNat_natCast]; omega)) (by first | omega | (simp (disch := omega) only [um_eq, um_na, um_ni, Int.toNat_natCast]; omega)) <| X_nil) (vs := [_, _]) (rest := [_]) rfl rfl rfl (rcv_v hM.ob (by decide)) (c2) ?_
      refine Rn.ceq rfl (X_nil) (by first | omega | (simp (disch := omega) only [um_eq, um_na, um_ni, Int.toNat_natCast]; omega)) (by first | omega | (simp (disch := omega) only [um_eq, um_na, um_ni, Int.toNat_natCast]; omega)) (fun hc => ?_) (fun hc => absurd hc (by first | omega | decide | (simp (disch := omega) only [um_eq, um_na, um_ni, Int.toNat_natCast]; omega)))
      exact r1
    · obtain ⟨v, T1, M1, M2, iv, c1, c2, g2⟩ : Op S 101 193 [vI ((roL S 0).getD (6 * (K : Int) + 1).toNat 0)] T M K := op_count g (by omega) (sI _)
      have hM := g2.m
      obtain ⟨h', r1, r2⟩ := fin T1 M2 g2
      refine ⟨h', go 1168 h' rfl ?_, r2⟩
      refine Rn.cal rfl (X_ald rfl <| X_ald rfl <| X_ild rfl <| X_i <| X_add <| X_io rfl (by first | omega | (simp (disch := omega) only [um_eq, um_na, um_ni, Int.toNat_natCast]; omega)) (by first | omega | (simp (disch := omega) only [um_eq, um_na, um_ni, Int.toNat_natCast]; omega)) (by first | omega | (simp (disch := omega) only [um_eq, um_na, um_ni, Int.toNat_natCast]; omega)) <| X_nil) (vs := [_, _]) (rest := []) rfl rfl rfl (rcv_v hX.ob (by decide)) (c1) ?_
      refine Rn.cal rfl (X_ald rfl <| X_ald rfl <| X_ild rfl <| X_i <| X_add <| X_io rfl (by first | omega | (simp (disch := omega) only [um_eq, um_na, um_ni, Int.toNat_natCast]; omega)) (by first | omega | (simp (disch := omega) only [um_eq, um_na, um_ni, Int.toNat_natCast]; omega)) (by first | omega | (simp (disch := omega) only [um_eq, um_na, um_ni, Int.toNat_natCast]; omega)) <| X_nil) (vs := [_, _]) (rest := [_]) rfl rfl rfl (rcv_v hM.ob (by decide)) (c2) ?_
      refine Rn.ceq rfl (X_nil) (by first | omega | (simp (disch := omega) only [um_eq, um_na, um_ni, Int.toNat_natCast]; omega)) (by first | omega | (simp (disch := omega) only [um_eq, um_na, um_ni, Int.toNat_natCast]; omega)) (fun hc => ?_) (fun hc => absurd hc (by first | omega | decide | (simp (disch := omega) only [um_eq, um_na, um_ni, Int.toNat_natCast]; omega)))
      exact r1
    · obtain ⟨v, T1, M1, M2, c1, c2, g2⟩ : OpL S 102 195 [] T M K := op_digest g (by omega) 
      have hM := g2.m
      obtain ⟨h', r1, r2⟩ := fin T1 M2 g2
      refine ⟨h', go 1191 h' rfl ?_, r2⟩
      refine Rn.cal rfl (X_ald rfl <| X_nil) (vs := [_]) (rest := []) rfl rfl rfl (rcv_v hX.ob (by decide)) (c1) ?_
      refine Rn.cal rfl (X_ald rfl <| X_nil) (vs := [_]) (rest := [_]) rfl rfl rfl (rcv_v hM.ob (by decide)) (c2) ?_
      refine Rn.ieq rfl (X_lcs <| X_nil) (by decide) (fun hc => ?_) (fun hc => absurd rfl hc)
      exact r1
theorem law_runs : LawRuns := by
  intro S hl hs
  obtain ⟨M, g, st⟩ := begin_Gl (S := S)
  obtain ⟨h', r1, r2⟩ := law_loop hl hs 65 0 _ M g (by omega) (by omega)
  obtain ⟨f, hf⟩ := st _ r1
  exact ⟨f, h', hf, r2⟩
end Law
