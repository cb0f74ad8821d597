/-! READ: the words, and the numbers of an item, by the class -/
section Words
variable {S : List Int} {T : List Sh} {C P N : Nat → Int → Int} {n s e a it c : Nat} {f : Nat → Int} {lo v : Int} {h : Hp}
theorem rcv_o {vs : List AV} (h3 : 3 ≤ a) (h11 : a < 11) : rcv 1 13 (vO a :: vs) T = true := by
  show decide (13 = 13 ∧ 3 ≤ a ∧ a < 11) = true
  exact decide_eq_true ⟨rfl, h3, h11⟩
theorem Rn.rc {m pc q b : Nat} {is : List In} {σ : St} {L : List (Option AV)} {w z : Int} {l : List Nat} (hb : blk m pc = some (is, (6, q, b, w, l))) (hx : exL S is σ = some ([vI z], L, h)) (hk : (mB m).2.1 = 5) (hz : 0 ≤ z ∧ z < 65536) : Rn S m pc σ (some (vI z), h) := Rn.ret hb hx rfl (by rw [hk]; exact if_pos (decide_eq_true hz))
theorem ro_ws (h3 : 3 ≤ a) (h11 : a < 11) : roL S (a + 8) = roL [] (a + 8) := by
  rcases (show a = 3 ∨ a = 4 ∨ a = 5 ∨ a = 6 ∨ a = 7 ∨ a = 8 ∨ a = 9 ∨ a = 10 by omega) with rfl | rfl | rfl | rfl | rfl | rfl | rfl | rfl <;> rfl
theorem wo_len (h3 : 3 ≤ a) (h11 : a < 11) : 2 ≤ (roL [] (a + 8)).length ∧ (roL [] (a + 8)).length ≤ 7 := by
  have key : ∀ a : Fin 8, 2 ≤ (roL [] (a.val + 11)).length ∧ (roL [] (a.val + 11)).length ≤ 7 := by decide
  have := key ⟨a - 3, by omega⟩
  rw [show a + 8 = a - 3 + 11 by omega]
  exact this
theorem ws_in {i : Nat} (h3 : 3 ≤ a) (h11 : a < 11) (hi : i < (roL [] (a + 8)).length) : 97 ≤ (roL [] (a + 8)).getD i 0 ∧ (roL [] (a + 8)).getD i 0 ≤ 122 := by
  have key : ∀ a : Fin 8, ∀ i : Fin 7, i.val < (roL [] (a.val + 11)).length → 97 ≤ (roL [] (a.val + 11)).getD i.val 0 ∧ (roL [] (a.val + 11)).getD i.val 0 ≤ 122 := by decide
  have l := wo_len h3 h11
  have := key ⟨a - 3, by omega⟩ ⟨i, by omega⟩
  rw [show a - 3 + 11 = a + 8 by omega] at this
  exact this hi
theorem ws_shr (h3 : 3 ≤ a) (h11 : a < 11) : o_shr ((roL [] (a + 8)).length : Int) 0 = ((roL [] (a + 8)).length : Int) := by
  have key : ∀ a : Fin 8, o_shr ((roL [] (a.val + 11)).length : Int) 0 = ((roL [] (a.val + 11)).length : Int) := by decide
  have := key ⟨a - 3, by omega⟩
  rw [show a + 8 = a - 3 + 11 by omega]
  exact this
theorem chr_in {x : Int} (h0 : 0 ≤ x) (h1 : x ≤ 127) : o_i2c (o_and x 255) = x := by
  have key : ∀ n : Fin 128, o_i2c (o_and (n.val : Int) 255) = (n.val : Int) := by decide
  have := key ⟨x.toNat, by omega⟩
  simp only [Int.toNat_of_nonneg h0] at this
  exact this
theorem c_coder (h3 : 3 ≤ a) (h11 : a < 11) : Cl S 199 [vO a] h (some (vI 0), h) := by
  refine ⟨_, rfl, ?_⟩
  refine Rn.ieq rfl (X_i <| X_nil) (by first | omega | (simp (disch := omega) only [um_eq, um_na, um_ni, Int.toNat_natCast]; omega)) (fun hc => absurd hc (by first | omega | decide | (simp (disch := omega) only [um_eq, um_na, um_ni, Int.toNat_natCast]; omega))) (fun hc => ?_)
  refine Rn.jto rfl (X_ald rfl <| X_gs1 (by first | omega | (simp (disch := omega) only [um_eq, um_na, um_ni, Int.toNat_natCast]; omega)) <| X_nil) ?_
  refine Rn.ret rfl (X_nil) rfl rfl
theorem c_latin1 (h3 : 3 ≤ a) (h11 : a < 11) : Cl S 200 [vO a] h (some (vI 1), h) := by
  refine ⟨_, rfl, ?_⟩
  refine Rn.ieq rfl (X_i <| X_nil) (by first | omega | (simp (disch := omega) only [um_eq, um_na, um_ni, Int.toNat_natCast]; omega)) (fun hc => absurd hc (by first | omega | decide | (simp (disch := omega) only [um_eq, um_na, um_ni, Int.toNat_natCast]; omega))) (fun hc => ?_)
  refine Rn.ine rfl (X_ald rfl <| X_gs1 (by first | omega | (simp (disch := omega) only [um_eq, um_na, um_ni, Int.toNat_natCast]; omega)) <| X_nil) (by first | omega | (simp (disch := omega) only [um_eq, um_na, um_ni, Int.toNat_natCast]; omega)) (fun hc => absurd hc (by first | omega | decide | (simp (disch := omega) only [um_eq, um_na, um_ni, Int.toNat_natCast]; omega))) (fun hc => ?_)
  refine Rn.jto rfl (X_i <| X_nil) ?_
  refine Rn.rz rfl (X_nil) rfl (by first | exact Or.inl rfl | exact Or.inr rfl | omega)
theorem c_slen (h3 : 3 ≤ a) (h11 : a < 11) : Cl S 197 [vO a] h (some (vI ((roL [] (a + 8)).length : Int)), h) := by
  have e := ro_ws (S := S) h3 h11
  have k := ws_shr h3 h11
  refine ⟨_, rfl, ?_⟩
  refine Rn.cal rfl (X_ald rfl <| X_gs0 (by first | omega | (simp (disch := omega) only [um_eq, um_na, um_ni, Int.toNat_natCast]; omega)) <| X_lno (by first | omega | (simp (disch := omega) only [um_eq, um_na, um_ni, Int.toNat_natCast]; omega)) <| X_ald rfl <| X_nil) (vs := [_]) (rest := [_]) rfl rfl rfl (by first | rfl | exact rcv_o (by omega) (by omega)) (c_coder h3 h11) ?_
  have fin : Rn S 197 9 ([vI 0, vI ((roL [] (a + 8)).length : Int)], [some (vO a)], h) (some (vI (o_shr ((roL [] (a + 8)).length : Int) 0)), h) := by
    refine Rn.ri rfl (X_shr <| X_nil) rfl
  rw [k] at fin
  rw [e]
  exact fin
theorem c_check {i l : Int} (h0 : 0 ≤ i) (h1 : i < l) (h2 : l < 1000) : Cl S 201 [vI i, vI l] h (none, h) := by
  have c : Cl S 204 [vI i, vI l, vO 19] h (some (vI i), h) := by
    refine ⟨_, rfl, ?_⟩
    refine Rn.ilt rfl (X_ild rfl <| X_nil) (by first | omega | (simp (disch := omega) only [um_eq, um_na, um_ni, Int.toNat_natCast]; omega)) (fun hc => absurd hc (by first | omega | decide | (simp (disch := omega) only [um_eq, um_na, um_ni, Int.toNat_natCast]; omega))) (fun hc => ?_)
    refine Rn.clt rfl (X_ild rfl <| X_ild rfl <| X_nil) (by first | omega | (simp (disch := omega) only [um_eq, um_na, um_ni, Int.toNat_natCast]; omega)) (by first | omega | (simp (disch := omega) only [um_eq, um_na, um_ni, Int.toNat_natCast]; omega)) (fun hc => ?_) (fun hc => absurd hc (by first | omega | decide | (simp (disch := omega) only [um_eq, um_na, um_ni, Int.toNat_natCast]; omega)))
    refine Rn.ri rfl (X_ild rfl <| X_nil) rfl
  refine ⟨_, rfl, ?_⟩
  refine Rn.cal rfl (X_ild rfl <| X_ild rfl <| X_o <| X_nil) (vs := [_, _, _]) (rest := []) rfl rfl rfl rfl (c) ?_
  refine Rn.rv rfl (X_pop <| X_nil) rfl
theorem c_lat {i : Nat} (h3 : 3 ≤ a) (h11 : a < 11) (hi : i < (roL [] (a + 8)).length) : Cl S 202 [vO (a + 8), vI (i : Int)] h (some (vI ((roL [] (a + 8)).getD i 0)), h) := by
  have e := ro_ws (S := S) h3 h11
  have l := wo_len h3 h11
  have w := ws_in h3 h11 hi
  refine ⟨_, rfl, ?_⟩
  refine Rn.cal rfl (X_ild rfl <| X_ald rfl <| X_lno (by first | omega | (simp (disch := omega) only [um_eq, um_na, um_ni, Int.toNat_natCast]; omega)) <| X_nil) (vs := [_, _]) (rest := []) rfl rfl rfl rfl (c_check (by omega) (by rw [e]; omega) (by rw [e]; omega)) ?_
  rw [← chr_in (x := (roL [] (a + 8)).getD i 0) (by omega) (by omega)]
  have fin : Rn S 202 6 ([], [some (vO (a + 8)), some (vI (i : Int))], h) (some (vI (o_i2c (o_and ((roL S (a + 8)).getD ((i : Int)).toNat 0) 255))), h) := by
    refine Rn.rc rfl (X_ald rfl <| X_ild rfl <| X_bo (by first | omega | (simp (disch := omega) only [um_eq, um_na, um_ni, Int.toNat_natCast]; omega)) (by first | omega | (simp (disch := omega) only [um_eq, um_na, um_ni, Int.toNat_natCast]; omega)) (by rw [e]; omega) (by first | omega | (simp (disch := omega) only [um_eq, um_na, um_ni, Int.toNat_natCast]; omega)) <| X_i <| X_and <| X_i2c <| X_nil) rfl (by rw [e, Int.toNat_natCast, chr_in (by omega) (by omega)]; omega)
  rw [e, Int.toNat_natCast] at fin
  exact fin
theorem c_charAt {i : Nat} (h3 : 3 ≤ a) (h11 : a < 11) (hi : i < (roL [] (a + 8)).length) : Cl S 198 [vO a, vI (i : Int)] h (some (vI ((roL [] (a + 8)).getD i 0)), h) := by
  have w := ws_in h3 h11 hi
  refine ⟨_, rfl, ?_⟩
  refine Rn.cal rfl (X_ald rfl <| X_nil) (vs := [_]) (rest := []) rfl rfl rfl (by first | rfl | exact rcv_o (by omega) (by omega)) (c_latin1 h3 h11) ?_
  refine Rn.ieq rfl (X_nil) (by first | omega | (simp (disch := omega) only [um_eq, um_na, um_ni, Int.toNat_natCast]; omega)) (fun hc => absurd hc (by first | omega | decide | (simp (disch := omega) only [um_eq, um_na, um_ni, Int.toNat_natCast]; omega))) (fun hc => ?_)
  refine Rn.cal rfl (X_ald rfl <| X_gs0 (by first | omega | (simp (disch := omega) only [um_eq, um_na, um_ni, Int.toNat_natCast]; omega)) <| X_ild rfl <| X_nil) (vs := [_, _]) (rest := []) rfl rfl rfl rfl (c_lat h3 h11 hi) ?_
  refine Rn.rc rfl (X_nil) rfl (by first | omega | (simp (disch := omega) only [um_eq, um_na, um_ni, Int.toNat_natCast]; omega))
/-- the word from s to e is the one with the number a -/
def wm (a : Nat) (f : Nat → Int) (s e : Nat) : Prop := e = s + (roL [] (a + 8)).length ∧ ∀ i, i < (roL [] (a + 8)).length → f (s + i) = (roL [] (a + 8)).getD i 0
theorem wm_inj {b : Nat} (a3 : 3 ≤ a) (a11 : a < 11) (b3 : 3 ≤ b) (b11 : b < 11) (ha : wm a f s e) (hb : wm b f s e) : a = b := by
  have key : ∀ a b : Fin 8, (roL [] (a.val + 11)).length = (roL [] (b.val + 11)).length → (roL [] (a.val + 11)).getD 0 0 = (roL [] (b.val + 11)).getD 0 0 → a.val = b.val := by decide
  have l := wo_len a3 a11
  have m := wo_len b3 b11
  have h0 := ha.2 0 (by omega)
  have h1 := hb.2 0 (by omega)
  have := key ⟨a - 3, by omega⟩ ⟨b - 3, by omega⟩
  simp only [show a - 3 + 11 = a + 8 by omega, show b - 3 + 11 = b + 8 by omega] at this
  have q := this (by have := ha.1; have := hb.1; omega) (by rw [← h0, ← h1])
  omega
theorem c_wordIs (hX : isX T) (hc : CTx C n f) (h4 : C 56 4 = (s : Int)) (h5 : C 56 5 = (e : Int)) (hs : s ≤ e) (he : e ≤ n) (a3 : 3 ≤ a) (a11 : a < 11) : ∃ v, Cl S 41 [vR 56, vO a] (T, C) (some (vI v), (T, C)) ∧ ((v = 1 ∧ wm a f s e) ∨ (v = 0 ∧ ¬ wm a f s e)) := by
  obtain ⟨c0, ht, c57⟩ := hc
  have n150 := ht.1
  have l := wo_len a3 a11
  have cs := c_slen (S := S) (h := (T, C)) a3 a11
  by_cases el : e = s + (roL [] (a + 8)).length
  case neg =>
    refine ⟨0, ⟨_, rfl, ?_⟩, Or.inr ⟨rfl, fun q => el q.1⟩⟩
    refine Rn.cal rfl (X_ald rfl <| X_gi 4 5 5 hX.sc ⟨rfl, rfl, rfl⟩ (Or.inl rfl) <| X_ald rfl <| X_gi 4 4 4 hX.sc ⟨rfl, rfl, rfl⟩ (Or.inl rfl) <| X_sub <| X_ald rfl <| X_nil) (vs := [_]) (rest := [_]) rfl rfl rfl (by first | rfl | exact rcv_o (by omega) (by omega)) (cs) ?_
    refine Rn.ceq rfl (X_nil) (by first | omega | (simp (disch := omega) only [um_eq, um_na, um_ni, Int.toNat_natCast]; omega)) (by first | omega | (simp (disch := omega) only [um_eq, um_na, um_ni, Int.toNat_natCast]; omega)) (fun hc => absurd hc (by first | omega | decide | (simp (disch := omega) only [um_eq, um_na, um_ni, Int.toNat_natCast]; omega))) (fun hc => ?_)
    refine Rn.rz rfl (X_i <| X_nil) rfl (by first | exact Or.inl rfl | exact Or.inr rfl | omega)
  have loop : ∀ (k i : Nat), i + k = (roL [] (a + 8)).length → (∀ j, j < i → f (s + j) = (roL [] (a + 8)).getD j 0) → ∃ v, Rn S 41 20 ([], [some (vR 56), some (vO a), some (vI (i : Int))], T, C) (some (vI v), (T, C)) ∧ ((v = 1 ∧ wm a f s e) ∨ (v = 0 ∧ ¬ wm a f s e)) := by
    intro k
    induction k with
    | zero =>
      intro i hi hj
      refine ⟨1, ?_, Or.inl ⟨rfl, el, fun i hi' => hj i (by omega)⟩⟩
      refine Rn.cal rfl (X_ild rfl <| X_ald rfl <| X_nil) (vs := [_]) (rest := [_]) rfl rfl rfl (by first | rfl | exact rcv_o (by omega) (by omega)) (cs) ?_
      refine Rn.cge rfl (X_nil) (by first | omega | (simp (disch := omega) only [um_eq, um_na, um_ni, Int.toNat_natCast]; omega)) (by first | omega | (simp (disch := omega) only [um_eq, um_na, um_ni, Int.toNat_natCast]; omega)) (fun hc => ?_) (fun hc => absurd hc (by first | omega | decide | (simp (disch := omega) only [um_eq, um_na, um_ni, Int.toNat_natCast]; omega)))
      refine Rn.rz rfl (X_i <| X_nil) rfl (by first | exact Or.inl rfl | exact Or.inr rfl | omega)
    | succ k ih =>
      intro i hi hj
      have w := ws_in (i := i) a3 a11 (by omega)
      have cc := c_charAt (S := S) (h := (T, C)) (i := i) a3 a11 (by omega)
      have eb : C 57 (C 56 4 + (i : Int)) = f (s + i) := by
        rw [h4, show (s : Int) + (i : Int) = ((s + i : Nat) : Int) by omega]
        exact c57 (s + i) (by omega)
      have bi := ht.2.1 (s + i) (by omega)
      by_cases c : f (s + i) = (roL [] (a + 8)).getD i 0
      · obtain ⟨v, r1, r2⟩ := ih (i + 1) (by omega) (fun j hj' => by
          by_cases ej : j = i
          · subst ej; exact c
          · exact hj j (by omega))
        refine ⟨v, ?_, r2⟩
        refine Rn.cal rfl (X_ild rfl <| X_ald rfl <| X_nil) (vs := [_]) (rest := [_]) rfl rfl rfl (by first | rfl | exact rcv_o (by omega) (by omega)) (cs) ?_
        refine Rn.cge rfl (X_nil) (by first | omega | (simp (disch := omega) only [um_eq, um_na, um_ni, Int.toNat_natCast]; omega)) (by first | omega | (simp (disch := omega) only [um_eq, um_na, um_ni, Int.toNat_natCast]; omega)) (fun hc => absurd hc (by first | omega | decide | (simp (disch := omega) only [um_eq, um_na, um_ni, Int.toNat_natCast]; omega))) (fun hc => ?_)
        refine Rn.cal rfl (X_ald rfl <| X_gr 4 1 hX.sc ⟨rfl, rfl⟩ rfl rfl <| X_ald rfl <| X_gi 4 4 4 hX.sc ⟨rfl, rfl, rfl⟩ (Or.inl rfl) <| X_ild rfl <| X_add <| X_ba hX.by' (by decide) (by first | omega | (simp (disch := omega) only [um_eq, um_na, um_ni, Int.toNat_natCast]; omega)) (by first | omega | (simp (disch := omega) only [um_eq, um_na, um_ni, Int.toNat_natCast]; omega)) rfl <| X_ald rfl <| X_ild rfl <| X_nil) (vs := [_, _]) (rest := [_]) rfl rfl rfl (by first | rfl | exact rcv_o (by omega) (by omega)) (cc) ?_
        refine Rn.ceq rfl (X_nil) (by first | omega | (simp (disch := omega) only [um_eq, um_na, um_ni, Int.toNat_natCast]; omega)) (by first | omega | (simp (disch := omega) only [um_eq, um_na, um_ni, Int.toNat_natCast]; omega)) (fun hc => ?_) (fun hc => absurd hc (by first | omega | decide | (simp (disch := omega) only [um_eq, um_na, um_ni, Int.toNat_natCast]; omega)))
        refine Rn.jto rfl (X_inc rfl (L' := [_, _, _]) rfl <| X_nil) ?_
        exact r1
      · refine ⟨0, ?_, Or.inr ⟨rfl, fun q => c (q.2 i (by omega))⟩⟩
        refine Rn.cal rfl (X_ild rfl <| X_ald rfl <| X_nil) (vs := [_]) (rest := [_]) rfl rfl rfl (by first | rfl | exact rcv_o (by omega) (by omega)) (cs) ?_
        refine Rn.cge rfl (X_nil) (by first | omega | (simp (disch := omega) only [um_eq, um_na, um_ni, Int.toNat_natCast]; omega)) (by first | omega | (simp (disch := omega) only [um_eq, um_na, um_ni, Int.toNat_natCast]; omega)) (fun hc => absurd hc (by first | omega | decide | (simp (disch := omega) only [um_eq, um_na, um_ni, Int.toNat_natCast]; omega))) (fun hc => ?_)
        refine Rn.cal rfl (X_ald rfl <| X_gr 4 1 hX.sc ⟨rfl, rfl⟩ rfl rfl <| X_ald rfl <| X_gi 4 4 4 hX.sc ⟨rfl, rfl, rfl⟩ (Or.inl rfl) <| X_ild rfl <| X_add <| X_ba hX.by' (by decide) (by first | omega | (simp (disch := omega) only [um_eq, um_na, um_ni, Int.toNat_natCast]; omega)) (by first | omega | (simp (disch := omega) only [um_eq, um_na, um_ni, Int.toNat_natCast]; omega)) rfl <| X_ald rfl <| X_ild rfl <| X_nil) (vs := [_, _]) (rest := [_]) rfl rfl rfl (by first | rfl | exact rcv_o (by omega) (by omega)) (cc) ?_
        refine Rn.ceq rfl (X_nil) (by first | omega | (simp (disch := omega) only [um_eq, um_na, um_ni, Int.toNat_natCast]; omega)) (by first | omega | (simp (disch := omega) only [um_eq, um_na, um_ni, Int.toNat_natCast]; omega)) (fun hc => absurd hc (by first | omega | decide | (simp (disch := omega) only [um_eq, um_na, um_ni, Int.toNat_natCast]; omega))) (fun hc => ?_)
        refine Rn.rz rfl (X_i <| X_nil) rfl (by first | exact Or.inl rfl | exact Or.inr rfl | omega)
  obtain ⟨v, r1, r2⟩ := loop (roL [] (a + 8)).length 0 (by omega) (fun j hj => by omega)
  refine ⟨v, ⟨_, rfl, ?_⟩, r2⟩
  refine Rn.cal rfl (X_ald rfl <| X_gi 4 5 5 hX.sc ⟨rfl, rfl, rfl⟩ (Or.inl rfl) <| X_ald rfl <| X_gi 4 4 4 hX.sc ⟨rfl, rfl, rfl⟩ (Or.inl rfl) <| X_sub <| X_ald rfl <| X_nil) (vs := [_]) (rest := [_]) rfl rfl rfl (by first | rfl | exact rcv_o (by omega) (by omega)) (cs) ?_
  refine Rn.ceq rfl (X_nil) (by first | omega | (simp (disch := omega) only [um_eq, um_na, um_ni, Int.toNat_natCast]; omega)) (by first | omega | (simp (disch := omega) only [um_eq, um_na, um_ni, Int.toNat_natCast]; omega)) (fun hc => ?_) (fun hc => absurd hc (by first | omega | decide | (simp (disch := omega) only [um_eq, um_na, um_ni, Int.toNat_natCast]; omega)))
  refine Rn.fal rfl (X_i <| X_ist rfl (L' := [_, _, _]) rfl <| X_nil) ?_
  exact r1
/-- which word it is: its number, or -1 -/
def WdI (f : Nat → Int) (s e : Nat) (it : Int) : Prop := (it = -1 ∧ ∀ a, 3 ≤ a → a < 11 → ¬ wm a f s e) ∨ (∃ a : Nat, 3 ≤ a ∧ a < 11 ∧ it = (a : Int) - 3 ∧ wm a f s e)
theorem WdI_ex (f : Nat → Int) (s e : Nat) : ∃ it, WdI f s e it := by
  by_cases c : ∃ a : Nat, 3 ≤ a ∧ a < 11 ∧ wm a f s e
  · obtain ⟨a, h1, h2, h3⟩ := c
    exact ⟨(a : Int) - 3, Or.inr ⟨a, h1, h2, rfl, h3⟩⟩
  · exact ⟨-1, Or.inl ⟨rfl, fun a h1 h2 h3 => c ⟨a, h1, h2, h3⟩⟩⟩
theorem WdI.cases {it : Int} (h : WdI f s e it) : (it = 0 ∧ wm 3 f s e) ∨ (¬ wm 3 f s e ∧ ((it = 1 ∧ wm 4 f s e) ∨ (¬ wm 4 f s e ∧ ((it = 2 ∧ wm 5 f s e) ∨ (¬ wm 5 f s e ∧ ((it = 3 ∧ wm 6 f s e) ∨ (¬ wm 6 f s e ∧ ((it = 4 ∧ wm 7 f s e) ∨ (¬ wm 7 f s e ∧ ((it = 5 ∧ wm 8 f s e) ∨ (¬ wm 8 f s e ∧ ((it = 6 ∧ wm 9 f s e) ∨ (¬ wm 9 f s e ∧ ((it = 7 ∧ wm 10 f s e) ∨ (¬ wm 10 f s e ∧ it = -1))))))))))))))) := by
  rcases h with ⟨h1, h2⟩ | ⟨a, a3, a11, h1, h2⟩
  · exact Or.inr ⟨h2 3 (by decide) (by decide), Or.inr ⟨h2 4 (by decide) (by decide), Or.inr ⟨h2 5 (by decide) (by decide), Or.inr ⟨h2 6 (by decide) (by decide), Or.inr ⟨h2 7 (by decide) (by decide), Or.inr ⟨h2 8 (by decide) (by decide), Or.inr ⟨h2 9 (by decide) (by decide), Or.inr ⟨h2 10 (by decide) (by decide), h1⟩⟩⟩⟩⟩⟩⟩⟩
  · have no : ∀ b : Nat, 3 ≤ b → b < 11 → b ≠ a → ¬ wm b f s e := fun b b3 b11 hne hb => hne (wm_inj b3 b11 a3 a11 hb h2)
    rcases (show a = 3 ∨ a = 4 ∨ a = 5 ∨ a = 6 ∨ a = 7 ∨ a = 8 ∨ a = 9 ∨ a = 10 by omega) with rfl | rfl | rfl | rfl | rfl | rfl | rfl | rfl
    · exact Or.inl ⟨h1, h2⟩
    · exact Or.inr ⟨no 3 (by decide) (by decide) (by decide), Or.inl ⟨h1, h2⟩⟩
    · exact Or.inr ⟨no 3 (by decide) (by decide) (by decide), Or.inr ⟨no 4 (by decide) (by decide) (by decide), Or.inl ⟨h1, h2⟩⟩⟩
    · exact Or.inr ⟨no 3 (by decide) (by decide) (by decide), Or.inr ⟨no 4 (by decide) (by decide) (by decide), Or.inr ⟨no 5 (by decide) (by decide) (by decide), Or.inl ⟨h1, h2⟩⟩⟩⟩
    · exact Or.inr ⟨no 3 (by decide) (by decide) (by decide), Or.inr ⟨no 4 (by decide) (by decide) (by decide), Or.inr ⟨no 5 (by decide) (by decide) (by decide), Or.inr ⟨no 6 (by decide) (by decide) (by decide), Or.inl ⟨h1, h2⟩⟩⟩⟩⟩
    · exact Or.inr ⟨no 3 (by decide) (by decide) (by decide), Or.inr ⟨no 4 (by decide) (by decide) (by decide), Or.inr ⟨no 5 (by decide) (by decide) (by decide), Or.inr ⟨no 6 (by decide) (by decide) (by decide), Or.inr ⟨no 7 (by decide) (by decide) (by decide), Or.inl ⟨h1, h2⟩⟩⟩⟩⟩⟩
    · exact Or.inr ⟨no 3 (by decide) (by decide) (by decide), Or.inr ⟨no 4 (by decide) (by decide) (by decide), Or.inr ⟨no 5 (by decide) (by decide) (by decide), Or.inr ⟨no 6 (by decide) (by decide) (by decide), Or.inr ⟨no 7 (by decide) (by decide) (by decide), Or.inr ⟨no 8 (by decide) (by decide) (by decide), Or.inl ⟨h1, h2⟩⟩⟩⟩⟩⟩⟩
    · exact Or.inr ⟨no 3 (by decide) (by decide) (by decide), Or.inr ⟨no 4 (by decide) (by decide) (by decide), Or.inr ⟨no 5 (by decide) (by decide) (by decide), Or.inr ⟨no 6 (by decide) (by decide) (by decide), Or.inr ⟨no 7 (by decide) (by decide) (by decide), Or.inr ⟨no 8 (by decide) (by decide) (by decide), Or.inr ⟨no 9 (by decide) (by decide) (by decide), Or.inl ⟨h1, h2⟩⟩⟩⟩⟩⟩⟩⟩
theorem c_itemOfWord {it : Int} (hX : isX T) (hc : CTx C n f) (h4 : C 56 4 = (s : Int)) (h5 : C 56 5 = (e : Int)) (hs : s ≤ e) (he : e ≤ n) (hw : WdI f s e it) : Cl S 40 [vR 56] (T, C) (some (vI it), (T, C)) := by
  have yes : ∀ a, 3 ≤ a → a < 11 → wm a f s e → Cl S 41 [vR 56, vO a] (T, C) (some (vI 1), (T, C)) := fun a a3 a11 w => by
    obtain ⟨v, c, q⟩ := c_wordIs (S := S) hX hc h4 h5 hs he a3 a11
    rcases q with ⟨rfl, -⟩ | ⟨-, q⟩
    · exact c
    · exact absurd w q
  have no : ∀ a, 3 ≤ a → a < 11 → ¬ wm a f s e → Cl S 41 [vR 56, vO a] (T, C) (some (vI 0), (T, C)) := fun a a3 a11 w => by
    obtain ⟨v, c, q⟩ := c_wordIs (S := S) hX hc h4 h5 hs he a3 a11
    rcases q with ⟨-, q⟩ | ⟨rfl, -⟩
    · exact absurd q w
    · exact c
  refine ⟨_, rfl, ?_⟩
  rcases hw.cases with ⟨rfl, w3⟩ | ⟨w3, ⟨rfl, w4⟩ | ⟨w4, ⟨rfl, w5⟩ | ⟨w5, ⟨rfl, w6⟩ | ⟨w6, ⟨rfl, w7⟩ | ⟨w7, ⟨rfl, w8⟩ | ⟨w8, ⟨rfl, w9⟩ | ⟨w9, ⟨rfl, w10⟩ | ⟨w10, rfl⟩⟩⟩⟩⟩⟩⟩⟩
  · refine Rn.cal rfl (X_ald rfl <| X_o <| X_nil) (vs := [_, _]) (rest := []) rfl rfl rfl (rcv_v hX.sc (by decide)) (yes 3 (by decide) (by decide) w3) ?_
    refine Rn.ieq rfl (X_nil) (by first | omega | (simp (disch := omega) only [um_eq, um_na, um_ni, Int.toNat_natCast]; omega)) (fun hc => absurd hc (by first | omega | decide | (simp (disch := omega) only [um_eq, um_na, um_ni, Int.toNat_natCast]; omega))) (fun hc => ?_)
    refine Rn.ri rfl (X_i <| X_nil) rfl
  · refine Rn.cal rfl (X_ald rfl <| X_o <| X_nil) (vs := [_, _]) (rest := []) rfl rfl rfl (rcv_v hX.sc (by decide)) (no 3 (by decide) (by decide) w3) ?_
    refine Rn.ieq rfl (X_nil) (by first | omega | (simp (disch := omega) only [um_eq, um_na, um_ni, Int.toNat_natCast]; omega)) (fun hc => ?_) (fun hc => absurd hc (by first | omega | decide | (simp (disch := omega) only [um_eq, um_na, um_ni, Int.toNat_natCast]; omega)))
    refine Rn.cal rfl (X_ald rfl <| X_o <| X_nil) (vs := [_, _]) (rest := []) rfl rfl rfl (rcv_v hX.sc (by decide)) (yes 4 (by decide) (by decide) w4) ?_
    refine Rn.ieq rfl (X_nil) (by first | omega | (simp (disch := omega) only [um_eq, um_na, um_ni, Int.toNat_natCast]; omega)) (fun hc => absurd hc (by first | omega | decide | (simp (disch := omega) only [um_eq, um_na, um_ni, Int.toNat_natCast]; omega))) (fun hc => ?_)
    refine Rn.ri rfl (X_i <| X_nil) rfl
  · refine Rn.cal rfl (X_ald rfl <| X_o <| X_nil) (vs := [_, _]) (rest := []) rfl rfl rfl (rcv_v hX.sc (by decide)) (no 3 (by decide) (by decide) w3) ?_
    refine Rn.ieq rfl (X_nil) (by first | omega | (simp (disch := omega) only [um_eq, um_na, um_ni, Int.toNat_natCast]; omega)) (fun hc => ?_) (fun hc => absurd hc (by first | omega | decide | (simp (disch := omega) only [um_eq, um_na, um_ni, Int.toNat_natCast]; omega)))
    refine Rn.cal rfl (X_ald rfl <| X_o <| X_nil) (vs := [_, _]) (rest := []) rfl rfl rfl (rcv_v hX.sc (by decide)) (no 4 (by decide) (by decide) w4) ?_
    refine Rn.ieq rfl (X_nil) (by first | omega | (simp (disch := omega) only [um_eq, um_na, um_ni, Int.toNat_natCast]; omega)) (fun hc => ?_) (fun hc => absurd hc (by first | omega | decide | (simp (disch := omega) only [um_eq, um_na, um_ni, Int.toNat_natCast]; omega)))
    refine Rn.cal rfl (X_ald rfl <| X_o <| X_nil) (vs := [_, _]) (rest := []) rfl rfl rfl (rcv_v hX.sc (by decide)) (yes 5 (by decide) (by decide) w5) ?_
    refine Rn.ieq rfl (X_nil) (by first | omega | (simp (disch := omega) only [um_eq, um_na, um_ni, Int.toNat_natCast]; omega)) (fun hc => absurd hc (by first | omega | decide | (simp (disch := omega) only [um_eq, um_na, um_ni, Int.toNat_natCast]; omega))) (fun hc => ?_)
    refine Rn.ri rfl (X_i <| X_nil) rfl
  · refine Rn.cal rfl (X_ald rfl <| X_o <| X_nil) (vs := [_, _]) (rest := []) rfl rfl rfl (rcv_v hX.sc (by decide)) (no 3 (by decide) (by decide) w3) ?_
    refine Rn.ieq rfl (X_nil) (by first | omega | (simp (disch := omega) only [um_eq, um_na, um_ni, Int.toNat_natCast]; omega)) (fun hc => ?_) (fun hc => absurd hc (by first | omega | decide | (simp (disch := omega) only [um_eq, um_na, um_ni, Int.toNat_natCast]; omega)))
    refine Rn.cal rfl (X_ald rfl <| X_o <| X_nil) (vs := [_, _]) (rest := []) rfl rfl rfl (rcv_v hX.sc (by decide)) (no 4 (by decide) (by decide) w4) ?_
    refine Rn.ieq rfl (X_nil) (by first | omega | (simp (disch := omega) only [um_eq, um_na, um_ni, Int.toNat_natCast]; omega)) (fun hc => ?_) (fun hc => absurd hc (by first | omega | decide | (simp (disch := omega) only [um_eq, um_na, um_ni, Int.toNat_natCast]; omega)))
    refine Rn.cal rfl (X_ald rfl <| X_o <| X_nil) (vs := [_, _]) (rest := []) rfl rfl rfl (rcv_v hX.sc (by decide)) (no 5 (by decide) (by decide) w5) ?_
    refine Rn.ieq rfl (X_nil) (by first | omega | (simp (disch := omega) only [um_eq, um_na, um_ni, Int.toNat_natCast]; omega)) (fun hc => ?_) (fun hc => absurd hc (by first | omega | decide | (simp (disch := omega) only [um_eq, um_na, um_ni, Int.toNat_natCast]; omega)))
    refine Rn.cal rfl (X_ald rfl <| X_o <| X_nil) (vs := [_, _]) (rest := []) rfl rfl rfl (rcv_v hX.sc (by decide)) (yes 6 (by decide) (by decide) w6) ?_
    refine Rn.ieq rfl (X_nil) (by first | omega | (simp (disch := omega) only [um_eq, um_na, um_ni, Int.toNat_natCast]; omega)) (fun hc => absurd hc (by first | omega | decide | (simp (disch := omega) only [um_eq, um_na, um_ni, Int.toNat_natCast]; omega))) (fun hc => ?_)
    refine Rn.ri rfl (X_i <| X_nil) rfl
  · refine Rn.cal rfl (X_ald rfl <| X_o <| X_nil) (vs := [_, _]) (rest := []) rfl rfl rfl (rcv_v hX.sc (by decide)) (no 3 (by decide) (by decide) w3) ?_
    refine Rn.ieq rfl (X_nil) (by first | omega | (simp (disch := omega) only [um_eq, um_na, um_ni, Int.toNat_natCast]; omega)) (fun hc => ?_) (fun hc => absurd hc (by first | omega | decide | (simp (disch := omega) only [um_eq, um_na, um_ni, Int.toNat_natCast]; omega)))
    refine Rn.cal rfl (X_ald rfl <| X_o <| X_nil) (vs := [_, _]) (rest := []) rfl rfl rfl (rcv_v hX.sc (by decide)) (no 4 (by decide) (by decide) w4) ?_
    refine Rn.ieq rfl (X_nil) (by first | omega | (simp (disch := omega) only [um_eq, um_na, um_ni, Int.toNat_natCast]; omega)) (fun hc => ?_) (fun hc => absurd hc (by first | omega | decide | (simp (disch := omega) only [um_eq, um_na, um_ni, Int.toNat_natCast]; omega)))
    refine Rn.cal rfl (X_ald rfl <| X_o <| X_nil) (vs := [_, _]) (rest := []) rfl rfl rfl (rcv_v hX.sc (by decide)) (no 5 (by decide) (by decide) w5) ?_
    refine Rn.ieq rfl (X_nil) (by first | omega | (simp (disch := omega) only [um_eq, um_na, um_ni, Int.toNat_natCast]; omega)) (fun hc => ?_) (fun hc => absurd hc (by first | omega | decide | (simp (disch := omega) only [um_eq, um_na, um_ni, Int.toNat_natCast]; omega)))
    refine Rn.cal rfl (X_ald rfl <| X_o <| X_nil) (vs := [_, _]) (rest := []) rfl rfl rfl (rcv_v hX.sc (by decide)) (no 6 (by decide) (by decide) w6) ?_
    refine Rn.ieq rfl (X_nil) (by first | omega | (simp (disch := omega) only [um_eq, um_na, um_ni, Int.toNat_natCast]; omega)) (fun hc => ?_) (fun hc => absurd hc (by first | omega | decide | (simp (disch := omega) only [um_eq, um_na, um_ni, Int.toNat_natCast]; omega)))
    refine Rn.cal rfl (X_ald rfl <| X_o <| X_nil) (vs := [_, _]) (rest := []) rfl rfl rfl (rcv_v hX.sc (by decide)) (yes 7 (by decide) (by decide) w7) ?_
    refine Rn.ieq rfl (X_nil) (by first | omega | (simp (disch := omega) only [um_eq, um_na, um_ni, Int.toNat_natCast]; omega)) (fun hc => absurd hc (by first | omega | decide | (simp (disch := omega) only [um_eq, um_na, um_ni, Int.toNat_natCast]; omega))) (fun hc => ?_)
    refine Rn.ri rfl (X_i <| X_nil) rfl
  · refine Rn.cal rfl (X_ald rfl <| X_o <| X_nil) (vs := [_, _]) (rest := []) rfl rfl rfl (rcv_v hX.sc (by decide)) (no 3 (by decide) (by decide) w3) ?_
    refine Rn.ieq rfl (X_nil) (by first | omega | (simp (disch := omega) only [um_eq, um_na, um_ni, Int.toNat_natCast]; omega)) (fun hc => ?_) (fun hc => absurd hc (by first | omega | decide | (simp (disch := omega) only [um_eq, um_na, um_ni, Int.toNat_natCast]; omega)))
    refine Rn.cal rfl (X_ald rfl <| X_o <| X_nil) (vs := [_, _]) (rest := []) rfl rfl rfl (rcv_v hX.sc (by decide)) (no 4 (by decide) (by decide) w4) ?_
    refine Rn.ieq rfl (X_nil) (by first | omega | (simp (disch := omega) only [um_eq, um_na, um_ni, Int.toNat_natCast]; omega)) (fun hc => ?_) (fun hc => absurd hc (by first | omega | decide | (simp (disch := omega) only [um_eq, um_na, um_ni, Int.toNat_natCast]; omega)))
    refine Rn.cal rfl (X_ald rfl <| X_o <| X_nil) (vs := [_, _]) (rest := []) rfl rfl rfl (rcv_v hX.sc (by decide)) (no 5 (by decide) (by decide) w5) ?_
    refine Rn.ieq rfl (X_nil) (by first | omega | (simp (disch := omega) only [um_eq, um_na, um_ni, Int.toNat_natCast]; omega)) (fun hc => ?_) (fun hc => absurd hc (by first | omega | decide | (simp (disch := omega) only [um_eq, um_na, um_ni, Int.toNat_natCast]; omega)))
    refine Rn.cal rfl (X_ald rfl <| X_o <| X_nil) (vs := [_, _]) (rest := []) rfl rfl rfl (rcv_v hX.sc (by decide)) (no 6 (by decide) (by decide) w6) ?_
    refine Rn.ieq rfl (X_nil) (by first | omega | (simp (disch := omega) only [um_eq, um_na, um_ni, Int.toNat_natCast]; omega)) (fun hc => ?_) (fun hc => absurd hc (by first | omega | decide | (simp (disch := omega) only [um_eq, um_na, um_ni, Int.toNat_natCast]; omega)))
    refine Rn.cal rfl (X_ald rfl <| X_o <| X_nil) (vs := [_, _]) (rest := []) rfl rfl rfl (rcv_v hX.sc (by decide)) (no 7 (by decide) (by decide) w7) ?_
    refine Rn.ieq rfl (X_nil) (by first | omega | (simp (disch := omega) only [um_eq, um_na, um_ni, Int.toNat_natCast]; omega)) (fun hc => ?_) (fun hc => absurd hc (by first | omega | decide | (simp (disch := omega) only [um_eq, um_na, um_ni, Int.toNat_natCast]; omega)))
    refine Rn.cal rfl (X_ald rfl <| X_o <| X_nil) (vs := [_, _]) (rest := []) rfl rfl rfl (rcv_v hX.sc (by decide)) (yes 8 (by decide) (by decide) w8) ?_
    refine Rn.ieq rfl (X_nil) (by first | omega | (simp (disch := omega) only [um_eq, um_na, um_ni, Int.toNat_natCast]; omega)) (fun hc => absurd hc (by first | omega | decide | (simp (disch := omega) only [um_eq, um_na, um_ni, Int.toNat_natCast]; omega))) (fun hc => ?_)
    refine Rn.ri rfl (X_i <| X_nil) rfl
  · refine Rn.cal rfl (X_ald rfl <| X_o <| X_nil) (vs := [_, _]) (rest := []) rfl rfl rfl (rcv_v hX.sc (by decide)) (no 3 (by decide) (by decide) w3) ?_
    refine Rn.ieq rfl (X_nil) (by first | omega | (simp (disch := omega) only [um_eq, um_na, um_ni, Int.toNat_natCast]; omega)) (fun hc => ?_) (fun hc => absurd hc (by first | omega | decide | (simp (disch := omega) only [um_eq, um_na, um_ni, Int.toNat_natCast]; omega)))
    refine Rn.cal rfl (X_ald rfl <| X_o <| X_nil) (vs := [_, _]) (rest := []) rfl rfl rfl (rcv_v hX.sc (by decide)) (no 4 (by decide) (by decide) w4) ?_
    refine Rn.ieq rfl (X_nil) (by first | omega | (simp (disch := omega) only [um_eq, um_na, um_ni, Int.toNat_natCast]; omega)) (fun hc => ?_) (fun hc => absurd hc (by first | omega | decide | (simp (disch := omega) only [um_eq, um_na, um_ni, Int.toNat_natCast]; omega)))
    refine Rn.cal rfl (X_ald rfl <| X_o <| X_nil) (vs := [_, _]) (rest := []) rfl rfl rfl (rcv_v hX.sc (by decide)) (no 5 (by decide) (by decide) w5) ?_
    refine Rn.ieq rfl (X_nil) (by first | omega | (simp (disch := omega) only [um_eq, um_na, um_ni, Int.toNat_natCast]; omega)) (fun hc => ?_) (fun hc => absurd hc (by first | omega | decide | (simp (disch := omega) only [um_eq, um_na, um_ni, Int.toNat_natCast]; omega)))
    refine Rn.cal rfl (X_ald rfl <| X_o <| X_nil) (vs := [_, _]) (rest := []) rfl rfl rfl (rcv_v hX.sc (by decide)) (no 6 (by decide) (by decide) w6) ?_
    refine Rn.ieq rfl (X_nil) (by first | omega | (simp (disch := omega) only [um_eq, um_na, um_ni, Int.toNat_natCast]; omega)) (fun hc => ?_) (fun hc => absurd hc (by first | omega | decide | (simp (disch := omega) only [um_eq, um_na, um_ni, Int.toNat_natCast]; omega)))
    refine Rn.cal rfl (X_ald rfl <| X_o <| X_nil) (vs := [_, _]) (rest := []) rfl rfl rfl (rcv_v hX.sc (by decide)) (no 7 (by decide) (by decide) w7) ?_
    refine Rn.ieq rfl (X_nil) (by first | omega | (simp (disch := omega) only [um_eq, um_na, um_ni, Int.toNat_natCast]; omega)) (fun hc => ?_) (fun hc => absurd hc (by first | omega | decide | (simp (disch := omega) only [um_eq, um_na, um_ni, Int.toNat_natCast]; omega)))
    refine Rn.cal rfl (X_ald rfl <| X_o <| X_nil) (vs := [_, _]) (rest := []) rfl rfl rfl (rcv_v hX.sc (by decide)) (no 8 (by decide) (by decide) w8) ?_
    refine Rn.ieq rfl (X_nil) (by first | omega | (simp (disch := omega) only [um_eq, um_na, um_ni, Int.toNat_natCast]; omega)) (fun hc => ?_) (fun hc => absurd hc (by first | omega | decide | (simp (disch := omega) only [um_eq, um_na, um_ni, Int.toNat_natCast]; omega)))
    refine Rn.cal rfl (X_ald rfl <| X_o <| X_nil) (vs := [_, _]) (rest := []) rfl rfl rfl (rcv_v hX.sc (by decide)) (yes 9 (by decide) (by decide) w9) ?_
    refine Rn.ieq rfl (X_nil) (by first | omega | (simp (disch := omega) only [um_eq, um_na, um_ni, Int.toNat_natCast]; omega)) (fun hc => absurd hc (by first | omega | decide | (simp (disch := omega) only [um_eq, um_na, um_ni, Int.toNat_natCast]; omega))) (fun hc => ?_)
    refine Rn.ri rfl (X_i <| X_nil) rfl
  · refine Rn.cal rfl (X_ald rfl <| X_o <| X_nil) (vs := [_, _]) (rest := []) rfl rfl rfl (rcv_v hX.sc (by decide)) (no 3 (by decide) (by decide) w3) ?_
    refine Rn.ieq rfl (X_nil) (by first | omega | (simp (disch := omega) only [um_eq, um_na, um_ni, Int.toNat_natCast]; omega)) (fun hc => ?_) (fun hc => absurd hc (by first | omega | decide | (simp (disch := omega) only [um_eq, um_na, um_ni, Int.toNat_natCast]; omega)))
    refine Rn.cal rfl (X_ald rfl <| X_o <| X_nil) (vs := [_, _]) (rest := []) rfl rfl rfl (rcv_v hX.sc (by decide)) (no 4 (by decide) (by decide) w4) ?_
    refine Rn.ieq rfl (X_nil) (by first | omega | (simp (disch := omega) only [um_eq, um_na, um_ni, Int.toNat_natCast]; omega)) (fun hc => ?_) (fun hc => absurd hc (by first | omega | decide | (simp (disch := omega) only [um_eq, um_na, um_ni, Int.toNat_natCast]; omega)))
    refine Rn.cal rfl (X_ald rfl <| X_o <| X_nil) (vs := [_, _]) (rest := []) rfl rfl rfl (rcv_v hX.sc (by decide)) (no 5 (by decide) (by decide) w5) ?_
    refine Rn.ieq rfl (X_nil) (by first | omega | (simp (disch := omega) only [um_eq, um_na, um_ni, Int.toNat_natCast]; omega)) (fun hc => ?_) (fun hc => absurd hc (by first | omega | decide | (simp (disch := omega) only [um_eq, um_na, um_ni, Int.toNat_natCast]; omega)))
    refine Rn.cal rfl (X_ald rfl <| X_o <| X_nil) (vs := [_, _]) (rest := []) rfl rfl rfl (rcv_v hX.sc (by decide)) (no 6 (by decide) (by decide) w6) ?_
    refine Rn.ieq rfl (X_nil) (by first | omega | (simp (disch := omega) only [um_eq, um_na, um_ni, Int.toNat_natCast]; omega)) (fun hc => ?_) (fun hc => absurd hc (by first | omega | decide | (simp (disch := omega) only [um_eq, um_na, um_ni, Int.toNat_natCast]; omega)))
    refine Rn.cal rfl (X_ald rfl <| X_o <| X_nil) (vs := [_, _]) (rest := []) rfl rfl rfl (rcv_v hX.sc (by decide)) (no 7 (by decide) (by decide) w7) ?_
    refine Rn.ieq rfl (X_nil) (by first | omega | (simp (disch := omega) only [um_eq, um_na, um_ni, Int.toNat_natCast]; omega)) (fun hc => ?_) (fun hc => absurd hc (by first | omega | decide | (simp (disch := omega) only [um_eq, um_na, um_ni, Int.toNat_natCast]; omega)))
    refine Rn.cal rfl (X_ald rfl <| X_o <| X_nil) (vs := [_, _]) (rest := []) rfl rfl rfl (rcv_v hX.sc (by decide)) (no 8 (by decide) (by decide) w8) ?_
    refine Rn.ieq rfl (X_nil) (by first | omega | (simp (disch := omega) only [um_eq, um_na, um_ni, Int.toNat_natCast]; omega)) (fun hc => ?_) (fun hc => absurd hc (by first | omega | decide | (simp (disch := omega) only [um_eq, um_na, um_ni, Int.toNat_natCast]; omega)))
    refine Rn.cal rfl (X_ald rfl <| X_o <| X_nil) (vs := [_, _]) (rest := []) rfl rfl rfl (rcv_v hX.sc (by decide)) (no 9 (by decide) (by decide) w9) ?_
    refine Rn.ieq rfl (X_nil) (by first | omega | (simp (disch := omega) only [um_eq, um_na, um_ni, Int.toNat_natCast]; omega)) (fun hc => ?_) (fun hc => absurd hc (by first | omega | decide | (simp (disch := omega) only [um_eq, um_na, um_ni, Int.toNat_natCast]; omega)))
    refine Rn.cal rfl (X_ald rfl <| X_o <| X_nil) (vs := [_, _]) (rest := []) rfl rfl rfl (rcv_v hX.sc (by decide)) (yes 10 (by decide) (by decide) w10) ?_
    refine Rn.ieq rfl (X_nil) (by first | omega | (simp (disch := omega) only [um_eq, um_na, um_ni, Int.toNat_natCast]; omega)) (fun hc => absurd hc (by first | omega | decide | (simp (disch := omega) only [um_eq, um_na, um_ni, Int.toNat_natCast]; omega))) (fun hc => ?_)
    refine Rn.ri rfl (X_i <| X_nil) rfl
  · refine Rn.cal rfl (X_ald rfl <| X_o <| X_nil) (vs := [_, _]) (rest := []) rfl rfl rfl (rcv_v hX.sc (by decide)) (no 3 (by decide) (by decide) w3) ?_
    refine Rn.ieq rfl (X_nil) (by first | omega | (simp (disch := omega) only [um_eq, um_na, um_ni, Int.toNat_natCast]; omega)) (fun hc => ?_) (fun hc => absurd hc (by first | omega | decide | (simp (disch := omega) only [um_eq, um_na, um_ni, Int.toNat_natCast]; omega)))
    refine Rn.cal rfl (X_ald rfl <| X_o <| X_nil) (vs := [_, _]) (rest := []) rfl rfl rfl (rcv_v hX.sc (by decide)) (no 4 (by decide) (by decide) w4) ?_
    refine Rn.ieq rfl (X_nil) (by first | omega | (simp (disch := omega) only [um_eq, um_na, um_ni, Int.toNat_natCast]; omega)) (fun hc => ?_) (fun hc => absurd hc (by first | omega | decide | (simp (disch := omega) only [um_eq, um_na, um_ni, Int.toNat_natCast]; omega)))
    refine Rn.cal rfl (X_ald rfl <| X_o <| X_nil) (vs := [_, _]) (rest := []) rfl rfl rfl (rcv_v hX.sc (by decide)) (no 5 (by decide) (by decide) w5) ?_
    refine Rn.ieq rfl (X_nil) (by first | omega | (simp (disch := omega) only [um_eq, um_na, um_ni, Int.toNat_natCast]; omega)) (fun hc => ?_) (fun hc => absurd hc (by first | omega | decide | (simp (disch := omega) only [um_eq, um_na, um_ni, Int.toNat_natCast]; omega)))
    refine Rn.cal rfl (X_ald rfl <| X_o <| X_nil) (vs := [_, _]) (rest := []) rfl rfl rfl (rcv_v hX.sc (by decide)) (no 6 (by decide) (by decide) w6) ?_
    refine Rn.ieq rfl (X_nil) (by first | omega | (simp (disch := omega) only [um_eq, um_na, um_ni, Int.toNat_natCast]; omega)) (fun hc => ?_) (fun hc => absurd hc (by first | omega | decide | (simp (disch := omega) only [um_eq, um_na, um_ni, Int.toNat_natCast]; omega)))
    refine Rn.cal rfl (X_ald rfl <| X_o <| X_nil) (vs := [_, _]) (rest := []) rfl rfl rfl (rcv_v hX.sc (by decide)) (no 7 (by decide) (by decide) w7) ?_
    refine Rn.ieq rfl (X_nil) (by first | omega | (simp (disch := omega) only [um_eq, um_na, um_ni, Int.toNat_natCast]; omega)) (fun hc => ?_) (fun hc => absurd hc (by first | omega | decide | (simp (disch := omega) only [um_eq, um_na, um_ni, Int.toNat_natCast]; omega)))
    refine Rn.cal rfl (X_ald rfl <| X_o <| X_nil) (vs := [_, _]) (rest := []) rfl rfl rfl (rcv_v hX.sc (by decide)) (no 8 (by decide) (by decide) w8) ?_
    refine Rn.ieq rfl (X_nil) (by first | omega | (simp (disch := omega) only [um_eq, um_na, um_ni, Int.toNat_natCast]; omega)) (fun hc => ?_) (fun hc => absurd hc (by first | omega | decide | (simp (disch := omega) only [um_eq, um_na, um_ni, Int.toNat_natCast]; omega)))
    refine Rn.cal rfl (X_ald rfl <| X_o <| X_nil) (vs := [_, _]) (rest := []) rfl rfl rfl (rcv_v hX.sc (by decide)) (no 9 (by decide) (by decide) w9) ?_
    refine Rn.ieq rfl (X_nil) (by first | omega | (simp (disch := omega) only [um_eq, um_na, um_ni, Int.toNat_natCast]; omega)) (fun hc => ?_) (fun hc => absurd hc (by first | omega | decide | (simp (disch := omega) only [um_eq, um_na, um_ni, Int.toNat_natCast]; omega)))
    refine Rn.cal rfl (X_ald rfl <| X_o <| X_nil) (vs := [_, _]) (rest := []) rfl rfl rfl (rcv_v hX.sc (by decide)) (no 10 (by decide) (by decide) w10) ?_
    refine Rn.ieq rfl (X_nil) (by first | omega | (simp (disch := omega) only [um_eq, um_na, um_ni, Int.toNat_natCast]; omega)) (fun hc => ?_) (fun hc => absurd hc (by first | omega | decide | (simp (disch := omega) only [um_eq, um_na, um_ni, Int.toNat_natCast]; omega)))
    refine Rn.ri rfl (X_i <| X_nil) rfl
/-! the numbers of an item -/
def pE (f : Nat → Int) (n e : Nat) : Nat → Nat
  | 0 => e
  | i + 1 => tE f n (tS f n (pE f n e i))
def pS (f : Nat → Int) (n e i : Nat) : Nat := tS f n (pE f n e i)
theorem pE_in (ht : TxF n f) (he : e ≤ n) : ∀ i : Nat, e ≤ pE f n e i ∧ pE f n e i ≤ n
  | 0 => ⟨Nat.le_refl e, he⟩
  | i + 1 => by
    have ih := pE_in ht he i
    have s := tS_in (f := f) (n := n) ih.2
    have t := tE_in ht s.2
    show e ≤ tE f n (tS f n (pE f n e i)) ∧ tE f n (tS f n (pE f n e i)) ≤ n
    omega
theorem pS_in (ht : TxF n f) (he : e ≤ n) (i : Nat) : e ≤ pS f n e i ∧ pS f n e i ≤ n := by
  have p := pE_in ht he i
  have s := tS_in (f := f) (n := n) p.2
  unfold pS
  omega
def gdN (f : Nat → Int) (n e : Nat) (lo : Int) (hi : Nat → Int) (i : Nat) : Prop := tK f n (pS f n e i) = 2 ∧ lo ≤ tV f n (pS f n e i) ∧ tV f n (pS f n e i) ≤ hi i
/-- the class stands at number i -/
def AtN (C P : Nat → Int → Int) (f : Nat → Int) (n e i : Nat) : Prop := P 56 3 = tK f n (pS f n e i) ∧ P 56 4 = ((pS f n e i : Nat) : Int) ∧ P 56 5 = ((pE f n e (i + 1) : Nat) : Int) ∧ (tK f n (pS f n e i) = 2 → P 56 6 = tV f n (pS f n e i)) ∧ P 56 0 = C 56 0 ∧ (∀ a, a ≠ 56 → a ≠ 58 → P a = C a) ∧ ∀ j : Nat, j < i → P 58 (j : Int) = tV f n (pS f n e j)
theorem c_numbers {hi : Nat → Int} {b2 : Int} {x5 : Option AV} (hX : isX T) (hc : CTx C n f) (he : e ≤ n) (it8 : it < 8) (c5 : c ≤ 5) (ci : (roL S 2).getD ((it : Int)).toNat 0 = (c : Int)) (hlo : lo = if it = 0 then 1 else 0) (hm : ∀ i P, i < c → (∀ a, a ≠ 56 → a ≠ 58 → P a = C a) → Cl S 42 [vR 28, vI (it : Int), vI (i : Int)] (T, P) (some (vI (hi i)), (T, P))) (ih : ∀ i, i < c → I32 (hi i)) (h0 : AtN C C f n e 0) : (∀ j, j < c → (∀ i, i < j → gdN f n e lo hi i) → ¬ gdN f n e lo hi j → ∃ P, Rn S 39 63 ([], [some (vR 56), some (vR 28), some (vI b2), some (vI (it : Int)), some (vI 0), x5], T, C) (some (vI 0), (T, P)) ∧ AtN C P f n e j) ∧ ((∀ i, i < c → gdN f n e lo hi i) → ∃ P y, (∀ r, Rn S 39 134 ([], [some (vR 56), some (vR 28), some (vI b2), some (vI (it : Int)), some (vI (c : Int)), y], T, P) r → Rn S 39 63 ([], [some (vR 56), some (vR 28), some (vI b2), some (vI (it : Int)), some (vI 0), x5], T, C) r) ∧ AtN C P f n e c) := by
  have ht := hc.2.1
  have hO := hX.s2
  have hl : ((roL S 2).length : Int) = 8 := rfl
  have pin := pE_in ht he
  have sin := pS_in ht he
  have n150 := ht.1
  have s73 : ∀ (i : Nat) P x r, Rn S 39 82 ([vI lo], [some (vR 56), some (vR 28), some (vI b2), some (vI (it : Int)), some (vI (i : Int)), x], T, P) r → Rn S 39 73 ([], [some (vR 56), some (vR 28), some (vI b2), some (vI (it : Int)), some (vI (i : Int)), x], T, P) r := fun i P x r hr => by
    by_cases c : it = 0
    · rw [hlo, if_pos c] at hr
      refine Rn.ine rfl (X_ild rfl <| X_nil) (by first | omega | (simp (disch := omega) only [um_eq, um_na, um_ni, Int.toNat_natCast]; omega)) (fun hc => absurd hc (by first | omega | decide | (simp (disch := omega) only [um_eq, um_na, um_ni, Int.toNat_natCast]; omega))) (fun hc => ?_)
      refine Rn.jto rfl (X_i <| X_nil) ?_
      exact hr
    · rw [hlo, if_neg c] at hr
      refine Rn.ine rfl (X_ild rfl <| X_nil) (by first | omega | (simp (disch := omega) only [um_eq, um_na, um_ni, Int.toNat_natCast]; omega)) (fun hc => ?_) (fun hc => absurd hc (by first | omega | decide | (simp (disch := omega) only [um_eq, um_na, um_ni, Int.toNat_natCast]; omega)))
      refine Rn.fal rfl (X_i <| X_nil) ?_
      exact hr
  have lo1 : 0 ≤ lo ∧ lo ≤ 1 := by rw [hlo]; split <;> omega
  -- a good number is taken
  have take : ∀ (i : Nat) P x, i < c → AtN C P f n e i → gdN f n e lo hi i → ∃ P' x', (∀ r, Rn S 39 63 ([], [some (vR 56), some (vR 28), some (vI b2), some (vI (it : Int)), some (vI ((i : Int) + 1)), x'], T, P') r → Rn S 39 63 ([], [some (vR 56), some (vR 28), some (vI b2), some (vI (it : Int)), some (vI (i : Int)), x], T, P) r) ∧ AtN C P' f n e (i + 1) := by
    intro i P x hi' hP hg
    obtain ⟨p3, p4, p5, p6, p0, pa, pn⟩ := hP
    obtain ⟨g1, g2, g3⟩ := hg
    have v9 := tV_in g1
    have ii := ih i hi'
    have p6 := p6 g1
    have cm := hm i P hi' pa
    have cw := c_wY (S := S) (h := (T, P)) (v := P 56 6) (lo := lo) (hi := hi i) (by omega) (by omega) ii (by omega)
    have pc : CTx (um P 58 (i : Int) (P 56 6)) n f := hc.cg (by rw [um_na (by decide)]; exact p0) (by rw [um_fn (by decide)]; exact pa 57 (by decide) (by decide))
    obtain ⟨Q, cn, q3, q4, q5, q6, q0, qa⟩ := c_next (S := S) (e := pE f n e (i + 1)) hX pc (pin (i + 1)).2 (by rw [um_na (by decide)]; exact p5)
    refine ⟨Q, some (vI lo), fun r hr => ?_, q3, q4, q5, q6, by rw [q0, um_na (by decide)]; exact p0, fun a a1 a2 => by rw [qa a a1, um_fn a2]; exact pa a a1 a2, fun j hj => ?_⟩
    · refine Rn.cge rfl (X_ild rfl <| X_o <| X_ild rfl <| X_io rfl (by first | omega | (simp (disch := omega) only [um_eq, um_na, um_ni, Int.toNat_natCast]; omega)) (by show (it : Int) < ((roL S 2).length : Int); rw [hl]; omega) (by first | omega | (simp (disch := omega) only [um_eq, um_na, um_ni, Int.toNat_natCast]; omega)) <| X_nil) (by first | omega | (simp (disch := omega) only [um_eq, um_na, um_ni, Int.toNat_natCast]; omega)) (by show I32 ((roL S 2).getD ((it : Int)).toNat 0); rw [ci]; omega) (fun hc => ?_) (fun hc => ?_)
      · have hc' : (roL S 2).getD ((it : Int)).toNat 0 ≤ (i : Int) := hc
        rw [ci] at hc'
        omega
      · refine s73 i P x r ?_
        refine Rn.cne rfl (X_ist rfl (L' := [_, _, _, _, _, _]) rfl <| X_ald rfl <| X_gi 4 3 3 hX.sc ⟨rfl, rfl, rfl⟩ (Or.inl rfl) <| X_i <| X_nil) (by first | omega | (simp (disch := omega) only [um_eq, um_na, um_ni, Int.toNat_natCast]; omega)) (by first | omega | (simp (disch := omega) only [um_eq, um_na, um_ni, Int.toNat_natCast]; omega)) (fun hc => absurd hc (by first | omega | decide | (simp (disch := omega) only [um_eq, um_na, um_ni, Int.toNat_natCast]; omega))) (fun hc => ?_)
        refine Rn.cal rfl (X_ald rfl <| X_gi 4 6 6 hX.sc ⟨rfl, rfl, rfl⟩ (Or.inl rfl) <| X_ild rfl <| X_ald rfl <| X_ild rfl <| X_ild rfl <| X_nil) (vs := [_, _, _]) (rest := [_, _]) rfl rfl rfl rfl (cm) ?_
        refine Rn.cal rfl (X_nil) (vs := [_, _, _]) (rest := []) rfl rfl rfl rfl (cw) ?_
        refine Rn.ine rfl (X_nil) (by first | omega | (simp (disch := omega) only [um_eq, um_na, um_ni, Int.toNat_natCast]; omega)) (fun hc => ?_) (fun hc => absurd hc (by first | omega | decide | (simp (disch := omega) only [um_eq, um_na, um_ni, Int.toNat_natCast]; omega)))
        refine Rn.cal rfl (X_ald rfl <| X_gr 4 2 hX.sc ⟨rfl, rfl⟩ rfl rfl <| X_ild rfl <| X_ald rfl <| X_gi 4 6 6 hX.sc ⟨rfl, rfl, rfl⟩ (Or.inl rfl) <| X_is hX.nu (by first | omega | (simp (disch := omega) only [um_eq, um_na, um_ni, Int.toNat_natCast]; omega)) (by first | omega | (simp (disch := omega) only [um_eq, um_na, um_ni, Int.toNat_natCast]; omega)) rfl <| X_ald rfl <| X_nil) (vs := [_]) (rest := []) rfl rfl rfl (rcv_v hX.sc (by decide)) (cn) ?_
        refine Rn.jto rfl (X_inc rfl (L' := [_, _, _, _, _, _]) rfl <| X_nil) ?_
        exact hr
    · rw [qa 58 (by decide)]
      by_cases ej : j = i
      · subst ej
        rw [um_eq]
        exact p6
      · rw [um_ni (by omega)]
        exact pn j (by omega)
  -- up to number j
  have upto : ∀ j : Nat, j ≤ c → (∀ i, i < j → gdN f n e lo hi i) → ∃ P x, (∀ r, Rn S 39 63 ([], [some (vR 56), some (vR 28), some (vI b2), some (vI (it : Int)), some (vI (j : Int)), x], T, P) r → Rn S 39 63 ([], [some (vR 56), some (vR 28), some (vI b2), some (vI (it : Int)), some (vI 0), x5], T, C) r) ∧ AtN C P f n e j := by
    intro j
    induction j with
    | zero => exact fun _ _ => ⟨C, x5, fun r hr => hr, h0⟩
    | succ j ihj =>
      intro hj hg
      obtain ⟨P, x, r1, r2⟩ := ihj (by omega) (fun i hi => hg i (by omega))
      obtain ⟨P', x', t1, t2⟩ := take j P x (by omega) r2 (hg j (by omega))
      exact ⟨P', x', fun r hr => r1 r (t1 r hr), t2⟩
  refine ⟨fun j hj hg hb => ?_, fun hg => ?_⟩
  · obtain ⟨P, x, r1, hP⟩ := upto j (by omega) hg
    refine ⟨P, r1 _ ?_, hP⟩
    obtain ⟨p3, p4, p5, p6, p0, pa, pn⟩ := hP
    have k4 := tK_in (f := f) (n := n) (s := pS f n e j)
    refine Rn.cge rfl (X_ild rfl <| X_o <| X_ild rfl <| X_io rfl (by first | omega | (simp (disch := omega) only [um_eq, um_na, um_ni, Int.toNat_natCast]; omega)) (by show (it : Int) < ((roL S 2).length : Int); rw [hl]; omega) (by first | omega | (simp (disch := omega) only [um_eq, um_na, um_ni, Int.toNat_natCast]; omega)) <| X_nil) (by first | omega | (simp (disch := omega) only [um_eq, um_na, um_ni, Int.toNat_natCast]; omega)) (by show I32 ((roL S 2).getD ((it : Int)).toNat 0); rw [ci]; omega) (fun hc => ?_) (fun hc => ?_)
    · have hc' : (roL S 2).getD ((it : Int)).toNat 0 ≤ (j : Int) := hc
      rw [ci] at hc'
      omega
    · refine s73 j P x _ ?_
      by_cases k2 : tK f n (pS f n e j) = 2
      · have v9 := tV_in k2
        have p6 := p6 k2
        have ii := ih j hj
        have cm := hm j P hj pa
        have cw := c_wN (S := S) (h := (T, P)) (v := P 56 6) (lo := lo) (hi := hi j) (by omega) (by omega) ii (fun q => hb ⟨k2, by omega, by omega⟩)
        refine Rn.cne rfl (X_ist rfl (L' := [_, _, _, _, _, _]) rfl <| X_ald rfl <| X_gi 4 3 3 hX.sc ⟨rfl, rfl, rfl⟩ (Or.inl rfl) <| X_i <| X_nil) (by first | omega | (simp (disch := omega) only [um_eq, um_na, um_ni, Int.toNat_natCast]; omega)) (by first | omega | (simp (disch := omega) only [um_eq, um_na, um_ni, Int.toNat_natCast]; omega)) (fun hc => absurd hc (by first | omega | decide | (simp (disch := omega) only [um_eq, um_na, um_ni, Int.toNat_natCast]; omega))) (fun hc => ?_)
        refine Rn.cal rfl (X_ald rfl <| X_gi 4 6 6 hX.sc ⟨rfl, rfl, rfl⟩ (Or.inl rfl) <| X_ild rfl <| X_ald rfl <| X_ild rfl <| X_ild rfl <| X_nil) (vs := [_, _, _]) (rest := [_, _]) rfl rfl rfl rfl (cm) ?_
        refine Rn.cal rfl (X_nil) (vs := [_, _, _]) (rest := []) rfl rfl rfl rfl (cw) ?_
        refine Rn.ine rfl (X_nil) (by first | omega | (simp (disch := omega) only [um_eq, um_na, um_ni, Int.toNat_natCast]; omega)) (fun hc => absurd hc (by first | omega | decide | (simp (disch := omega) only [um_eq, um_na, um_ni, Int.toNat_natCast]; omega))) (fun hc => ?_)
        refine Rn.rz rfl (X_i <| X_nil) rfl (by first | exact Or.inl rfl | exact Or.inr rfl | omega)
      · refine Rn.cne rfl (X_ist rfl (L' := [_, _, _, _, _, _]) rfl <| X_ald rfl <| X_gi 4 3 3 hX.sc ⟨rfl, rfl, rfl⟩ (Or.inl rfl) <| X_i <| X_nil) (by first | omega | (simp (disch := omega) only [um_eq, um_na, um_ni, Int.toNat_natCast]; omega)) (by first | omega | (simp (disch := omega) only [um_eq, um_na, um_ni, Int.toNat_natCast]; omega)) (fun hc => ?_) (fun hc => absurd hc (by first | omega | decide | (simp (disch := omega) only [um_eq, um_na, um_ni, Int.toNat_natCast]; omega)))
        refine Rn.rz rfl (X_i <| X_nil) rfl (by first | exact Or.inl rfl | exact Or.inr rfl | omega)
  · obtain ⟨P, x, r1, hP⟩ := upto c (Nat.le_refl c) hg
    refine ⟨P, x, fun r hr => r1 r ?_, hP⟩
    refine Rn.cge rfl (X_ild rfl <| X_o <| X_ild rfl <| X_io rfl (by first | omega | (simp (disch := omega) only [um_eq, um_na, um_ni, Int.toNat_natCast]; omega)) (by show (it : Int) < ((roL S 2).length : Int); rw [hl]; omega) (by first | omega | (simp (disch := omega) only [um_eq, um_na, um_ni, Int.toNat_natCast]; omega)) <| X_nil) (by first | omega | (simp (disch := omega) only [um_eq, um_na, um_ni, Int.toNat_natCast]; omega)) (by show I32 ((roL S 2).getD ((it : Int)).toNat 0); rw [ci]; omega) (fun hc => ?_) (fun hc => ?_)
    · exact hr
    · have hc' : (c : Int) < (roL S 2).getD ((it : Int)).toNat 0 := hc
      rw [ci] at hc'
      omega
end Words
