/-! NEW OBJECTS -/
section NewRows
variable {S : List Int} {T T' V X : List Sh} {M : Nat → Int → Int} {n k0 : Nat} {L : List (Option AV)} {st : List AV} {r : List In} {τ : St} {k w z y x : Int} {rr nn : Nat → Option Nat}
theorem lenA (h : V.length = n) : (V ++ X).length = n + X.length := by rw [List.length_append, h]
theorem setA {v : Sh} (k0 : Nat) (h : V.length = n) : (V ++ X).set (n + k0) v = V ++ X.set k0 v := by
  rw [List.set_append_right _ _ (by omega), show n + k0 - V.length = k0 by omega]
theorem getA (k0 : Nat) (h : V.length = n) : (V ++ X)[n + k0]? = X[k0]? := by
  rw [List.getElem?_append_right (by omega), show n + k0 - V.length = k0 by omega]
theorem X_nw (hl : T.length = n) (hT : T ++ [(k.toNat, clN k.toNat, nor)] = T') (kk : exL S r (vR n :: st, L, T', zm M n) = some τ) : exL S ((187, k, w) :: r) (st, L, T, M) = some τ := by
  subst hl
  subst hT
  exact X_new kk
theorem X_nz (hk : 9 ≤ k.toNat ∧ k.toNat < 14) (g : 0 ≤ z ∧ z ≤ 1000) (hl : T.length = n) (hT : T ++ [(k.toNat, z.toNat, nor)] = T') (kk : exL S r (vR n :: st, L, T', zm M n) = some τ) : exL S ((188, k, w) :: r) (vI z :: st, L, T, M) = some τ := by
  subst hl
  subst hT
  exact X_na hk g kk
theorem X_mz (g : 0 ≤ z ∧ z ≤ 1000) (g2 : 0 ≤ y ∧ y ≤ 1000) (hl : T.length = n) (hT : T ++ (14, z.toNat, fun i => if i < z.toNat then some (n + 1 + i) else none) :: List.replicate z.toNat (9, y.toNat, nor) = T') (kk : exL S r (vR n :: st, L, T', zm M n) = some τ) : exL S ((197, k, w) :: r) (vI y :: vI z :: st, L, T, M) = some τ := by
  subst hl
  subst hT
  exact X_mn g g2 kk
theorem X_ps (c d : Nat) {a b : Nat} (hT : T[a]? = some (c, clN c, rr)) (hk : k.toNat / 100 = c ∧ k.toNat % 100 = d) (hf : fT c d = 2) (hs : T.set a (c, clN c, uf rr d (some b)) = T') (kk : exL S r (st, L, T', M) = some τ) : exL S ((181, k, w) :: r) (vR b :: vR a :: st, L, T, M) = some τ := by
  subst hs
  exact X_pr c d hT hk hf kk
theorem X_at {a b c d e : Nat} (hT : T[a]? = some (d, c, rr)) (hV : T[b]? = some (e, clN e, nn)) (hd : (d = 12 ∧ e = 5) ∨ (d = 13 ∧ e = 6)) (g1 : 0 ≤ x) (g2 : x < (c : Int)) (g3 : Nat.ble c 1000 = true) (hs : T.set a (d, c, uf rr x.toNat (some b)) = T') (kk : exL S r (st, L, T', M) = some τ) : exL S ((83, k, w) :: r) (vR b :: vI x :: vR a :: st, L, T, M) = some τ := by
  subst hs
  exact X_as hT hV hd g1 g2 g3 kk
end NewRows
section New
variable {S : List Int} {T U V : List Sh} {M : Nat → Int → Int} {b n : Nat}
theorem zm_lt {a : Nat} (h : a < n) : zm M n a = M a := funext (fun _ => if_neg (by omega))
theorem c_nFloor (hV : V.length = n) : ∃ M', Cl S 13 [vR n] (V ++ [(1, 9, nor)], M) (none, (V ++ [(1, 9, uf (uf nor 6 (some (n + 1))) 7 (some (n + 2))), (9, 49, nor), (9, 49, nor)], M')) ∧ ∀ a, a < n → M' a = M a := by
  refine ⟨_, ⟨_, rfl, Rn.rv rfl (X_ald rfl <| X_oi <| X_ald rfl <| X_i <| X_nz (n := n + 1) (T' := V ++ [(1, 9, nor), (9, 49, nor)]) (by decide) (by decide) (lenA hV) (List.append_assoc _ _ _) <| X_ps (T' := V ++ [(1, 9, uf nor 6 (some (n + 1))), (9, 49, nor)]) 1 6 (a := n) ((getA 0 hV).trans rfl) ⟨rfl, rfl⟩ rfl (setA 0 hV) <| X_ald rfl <| X_i <| X_nz (n := n + 2) (T' := V ++ [(1, 9, uf nor 6 (some (n + 1))), (9, 49, nor), (9, 49, nor)]) (by decide) (by decide) (lenA hV) (List.append_assoc _ _ _) <| X_ps (T' := V ++ [(1, 9, uf (uf nor 6 (some (n + 1))) 7 (some (n + 2))), (9, 49, nor), (9, 49, nor)]) 1 7 (a := n) ((getA 0 hV).trans rfl) ⟨rfl, rfl⟩ rfl (setA 0 hV) <| X_nil) rfl⟩, fun a ha => ?_⟩
  rw [zm_lt (by omega), zm_lt (by omega)]
theorem c_nNotes (hV : V.length = n) : ∃ M', Cl S 30 [vR n] (V ++ [(3, 3, nor)], M) (none, (V ++ [(3, 3, uf (uf nor 1 (some (n + 1))) 2 (some (n + 2))), (9, 8, nor), (9, 8, nor)], M')) ∧ ∀ a, a < n → M' a = M a := by
  refine ⟨_, ⟨_, rfl, Rn.rv rfl (X_ald rfl <| X_oi <| X_ald rfl <| X_i <| X_nz (n := n + 1) (T' := V ++ [(3, 3, nor), (9, 8, nor)]) (by decide) (by decide) (lenA hV) (List.append_assoc _ _ _) <| X_ps (T' := V ++ [(3, 3, uf nor 1 (some (n + 1))), (9, 8, nor)]) 3 1 (a := n) ((getA 0 hV).trans rfl) ⟨rfl, rfl⟩ rfl (setA 0 hV) <| X_ald rfl <| X_i <| X_nz (n := n + 2) (T' := V ++ [(3, 3, uf nor 1 (some (n + 1))), (9, 8, nor), (9, 8, nor)]) (by decide) (by decide) (lenA hV) (List.append_assoc _ _ _) <| X_ps (T' := V ++ [(3, 3, uf (uf nor 1 (some (n + 1))) 2 (some (n + 2))), (9, 8, nor), (9, 8, nor)]) 3 2 (a := n) ((getA 0 hV).trans rfl) ⟨rfl, rfl⟩ rfl (setA 0 hV) <| X_nil) rfl⟩, fun a ha => ?_⟩
  rw [zm_lt (by omega), zm_lt (by omega)]
theorem c_nScript (hV : V.length = n) : ∃ M', Cl S 36 [vR n] (V ++ [(4, 7, nor)], M) (none, (V ++ [(4, 7, uf (uf nor 1 (some (n + 1))) 2 (some (n + 2))), (10, 150, nor), (9, 5, nor)], M')) ∧ (∀ a, a < n + 1 → M' a = M a) := by
  refine ⟨_, ⟨_, rfl, Rn.rv rfl (X_ald rfl <| X_oi <| X_ald rfl <| X_i <| X_nz (n := n + 1) (T' := V ++ [(4, 7, nor), (10, 150, nor)]) (by decide) (by decide) (lenA hV) (List.append_assoc _ _ _) <| X_ps (T' := V ++ [(4, 7, uf nor 1 (some (n + 1))), (10, 150, nor)]) 4 1 (a := n) ((getA 0 hV).trans rfl) ⟨rfl, rfl⟩ rfl (setA 0 hV) <| X_ald rfl <| X_i <| X_nz (n := n + 2) (T' := V ++ [(4, 7, uf nor 1 (some (n + 1))), (10, 150, nor), (9, 5, nor)]) (by decide) (by decide) (lenA hV) (List.append_assoc _ _ _) <| X_ps (T' := V ++ [(4, 7, uf (uf nor 1 (some (n + 1))) 2 (some (n + 2))), (10, 150, nor), (9, 5, nor)]) 4 2 (a := n) ((getA 0 hV).trans rfl) ⟨rfl, rfl⟩ rfl (setA 0 hV) <| X_nil) rfl⟩, fun a ha => ?_⟩
  rw [zm_lt (by omega), zm_lt (by omega)]
theorem c_nSl (hV : V.length = n) : Cl S 49 [vR n] (V ++ [(5, 1, nor)], M) (none, (V ++ [(5, 1, uf nor 0 (some (n + 1))), (9, 8, nor)], zm M (n + 1))) := by
  exact ⟨_, rfl, Rn.rv rfl (X_ald rfl <| X_oi <| X_ald rfl <| X_i <| X_nz (n := n + 1) (T' := V ++ [(5, 1, nor), (9, 8, nor)]) (by decide) (by decide) (lenA hV) (List.append_assoc _ _ _) <| X_ps (T' := V ++ [(5, 1, uf nor 0 (some (n + 1))), (9, 8, nor)]) 5 0 (a := n) ((getA 0 hV).trans rfl) ⟨rfl, rfl⟩ rfl (setA 0 hV) <| X_nil) rfl⟩
theorem c_nNight : Cl S 28 [vR n] (T, M) (none, (T, M)) := ⟨_, rfl, Rn.rv rfl (X_ald rfl <| X_oi <| X_nil) rfl⟩
/-- the sleepers' part of a new Beds -/
def slL (n : Nat) : Nat → List Sh
  | 0 => []
  | i + 1 => slL n i ++ [(5, 1, uf nor 0 (some (n + 12 + 2 * i))), (9, 8, nor)]
theorem slL_len : ∀ i : Nat, (slL n i).length = 2 * i
  | 0 => rfl
  | i + 1 => by
    unfold slL
    rw [List.length_append, slL_len i]
    show 2 * i + 2 = _
    omega
def rsL (n : Nat) : Nat → Nat → Option Nat
  | 0 => nor
  | i + 1 => uf (rsL n i) i (some (n + 11 + 2 * i))
def beL (n i : Nat) : List Sh := (0, 5, uf (uf nor 0 (some (n + 1))) 4 (some (n + 2))) :: (12, 4, rsL n i) :: (14, 8, fun i => if i < 8 then some (n + 2 + 1 + i) else none) :: List.replicate 8 (9, 9, nor)
theorem beL_len (i : Nat) : (beL n i).length = 11 := rfl
theorem c_nBeds (hV : V.length = n) : ∃ M', Cl S 0 [vR n] (V ++ [(0, 5, nor)], M) (none, (V ++ (beL n 4 ++ slL n 4), M')) ∧ ∀ a, a < n → M' a = M a := by
  have loop : ∀ (k i : Nat) (M : Nat → Int → Int), i + k = 4 → ∃ M', Rn S 0 26 ([], [some (vR n), some (vI (i : Int))], V ++ (beL n i ++ slL n i), M) (none, (V ++ (beL n 4 ++ slL n 4), M')) ∧ ∀ a, a < n → M' a = M a := by
    intro k
    induction k with
    | zero =>
      intro i M hi
      have ei : i = 4 := by omega
      subst ei
      refine ⟨M, ?_, fun _ _ => rfl⟩
      refine Rn.cge rfl (X_ild rfl <| X_i <| X_nil) (by omega) (by omega) (fun hc => ?_) (fun hc => absurd hc (by omega))
      exact Rn.rv rfl X_nil rfl
    | succ k ih =>
      intro i M hi
      have hl : (V ++ (beL n i ++ slL n i)).length = n + 11 + 2 * i := by
        rw [List.length_append, List.length_append, beL_len, slL_len, hV]
        omega
      have cs := c_nSl (S := S) (V := V ++ (beL n i ++ slL n i)) (M := zm M (n + 11 + 2 * i)) hl
      obtain ⟨M', r1, r2⟩ := ih (i + 1) (zm (zm M (n + 11 + 2 * i)) (n + 11 + 2 * i + 1)) (by omega)
      refine ⟨M', ?_, fun a ha => by rw [r2 a ha, zm_lt (by omega), zm_lt (by omega)]⟩
      refine Rn.cge rfl (X_ild rfl <| X_i <| X_nil) (by omega) (by omega) (fun hc => absurd hc (by omega)) (fun hc => ?_)
      have g0 : (V ++ (beL n i ++ slL n i))[n]? = some (0, 5, uf (uf nor 0 (some (n + 1))) 4 (some (n + 2))) := (getA 0 hV).trans rfl
      refine Rn.cal rfl (X_ald rfl <| X_gr 0 0 g0 ⟨rfl, rfl⟩ rfl rfl <| X_ild rfl <| X_nw hl rfl <| X_dupr <| X_nil) (vs := [_]) (rest := [_, _, _]) rfl rfl rfl rfl cs ?_
      have eT : (V ++ (beL n i ++ slL n i)) ++ [(5, 1, uf nor 0 (some (n + 11 + 2 * i + 1))), (9, 8, nor)] = V ++ (beL n i ++ slL n (i + 1)) := by
        rw [List.append_assoc, List.append_assoc]
        show _ = V ++ (beL n i ++ (slL n i ++ [(5, 1, uf nor 0 (some (n + 12 + 2 * i))), (9, 8, nor)]))
        rw [show n + 11 + 2 * i + 1 = n + 12 + 2 * i by omega]
      rw [eT]
      have g1 : (V ++ (beL n i ++ slL n (i + 1)))[n + 1]? = some (12, 4, rsL n i) := (getA 1 hV).trans rfl
      have g2 : (V ++ (beL n i ++ slL n (i + 1)))[n + 11 + 2 * i]? = some (5, clN 5, uf nor 0 (some (n + 12 + 2 * i))) := by
        rw [show n + 11 + 2 * i = n + (11 + 2 * i) by omega, getA _ hV, List.getElem?_append_right (by rw [beL_len]; omega), beL_len]
        show (slL n i ++ _)[11 + 2 * i - 11]? = _
        rw [List.getElem?_append_right (by rw [slL_len]; omega), slL_len, show 11 + 2 * i - 11 - 2 * i = 0 by omega]
        rfl
      have g3 : (V ++ (beL n i ++ slL n (i + 1))).set (n + 1) (12, 4, uf (rsL n i) ((i : Int)).toNat (some (n + 11 + 2 * i))) = V ++ (beL n (i + 1) ++ slL n (i + 1)) := by
        rw [setA 1 hV, Int.toNat_natCast]
        rfl
      refine Rn.jto rfl (X_at g1 g2 (Or.inl ⟨rfl, rfl⟩) (by omega) (by omega) rfl g3 <| X_inc rfl (L' := [_, _]) rfl <| X_nil) ?_
      exact r1
  obtain ⟨M', r1, r2⟩ := loop 4 0 (zm (zm M (n + 1)) (n + 2)) (by omega)
  refine ⟨M', ⟨_, rfl, ?_⟩, fun a ha => by rw [r2 a ha, zm_lt (by omega), zm_lt (by omega)]⟩
  refine Rn.fal rfl (X_ald rfl <| X_oi <| X_ald rfl <| X_i <| X_nz (n := n + 1) (T' := V ++ [(0, 5, nor), (12, 4, nor)]) (by decide) (by decide) (lenA hV) (List.append_assoc _ _ _) <| X_ps (T' := V ++ [(0, 5, uf nor 0 (some (n + 1))), (12, 4, nor)]) 0 0 (a := n) ((getA 0 hV).trans rfl) ⟨rfl, rfl⟩ rfl (setA 0 hV) <| X_ald rfl <| X_i <| X_i <| X_mz (n := n + 2) (T' := V ++ ((0, 5, uf nor 0 (some (n + 1))) :: (12, 4, nor) :: (14, 8, fun i => if i < 8 then some (n + 2 + 1 + i) else none) :: List.replicate 8 (9, 9, nor))) (by decide) (by decide) (lenA hV) (List.append_assoc _ _ _) <| X_ps (T' := V ++ (beL n 0 ++ slL n 0)) 0 4 (a := n) ((getA 0 hV).trans rfl) ⟨rfl, rfl⟩ rfl (setA 0 hV) <| X_i <| X_ist rfl (L' := [_, _]) rfl <| X_nil) ?_
  exact r1
/-- a new State -/
def stL (b : Nat) : List Sh := [(6, 4, rSt b), (1, 9, rFl b), (9, 49, nor), (9, 49, nor)] ++ (beL (b + 4) 4 ++ slL (b + 4) 4) ++ [(3, 3, rNo b), (9, 8, nor), (9, 8, nor), (2, 3, nor)]
theorem stL_is (hU : U.length = b) (W : List Sh) : isSt (U ++ stL b ++ W) b := by
  have e : ∀ k, k < 27 → (U ++ stL b ++ W)[b + k]? = (stL b)[k]? := fun k hk => by
    rw [List.append_assoc, getA k hU, List.getElem?_append_left (show k < (stL b).length from hk)]
  have e0 := e 0 (by decide)
  have hsl : rsL (b + 4) 4 = rSl b := by
    funext i
    unfold rSl
    by_cases h : i < 4
    · rw [if_pos h]
      rcases (show i = 0 ∨ i = 1 ∨ i = 2 ∨ i = 3 by omega) with rfl | rfl | rfl | rfl <;> rfl
    · rw [if_neg h]
      unfold rsL rsL rsL rsL rsL uf
      rw [if_neg (by omega), if_neg (by omega), if_neg (by omega), if_neg (by omega)]
      rfl
  unfold isSt
  refine ⟨e0, e 1 (by decide), e 2 (by decide), e 3 (by decide), e 4 (by decide), (e 5 (by decide)).trans ?_, e 6 (by decide), fun i hi => ?_, fun i hi => ?_, fun i hi => ?_, e 23 (by decide), e 24 (by decide), e 25 (by decide), e 26 (by decide)⟩
  · rw [← hsl]
    rfl
  · rcases (show i = 0 ∨ i = 1 ∨ i = 2 ∨ i = 3 ∨ i = 4 ∨ i = 5 ∨ i = 6 ∨ i = 7 by omega) with rfl | rfl | rfl | rfl | rfl | rfl | rfl | rfl
    · exact e 7 (by decide)
    · exact e 8 (by decide)
    · exact e 9 (by decide)
    · exact e 10 (by decide)
    · exact e 11 (by decide)
    · exact e 12 (by decide)
    · exact e 13 (by decide)
    · exact e 14 (by decide)
  · rcases (show i = 0 ∨ i = 1 ∨ i = 2 ∨ i = 3 by omega) with rfl | rfl | rfl | rfl
    · exact e 15 (by decide)
    · exact e 17 (by decide)
    · exact e 19 (by decide)
    · exact e 21 (by decide)
  · rcases (show i = 0 ∨ i = 1 ∨ i = 2 ∨ i = 3 by omega) with rfl | rfl | rfl | rfl
    · exact e 16 (by decide)
    · exact e 18 (by decide)
    · exact e 20 (by decide)
    · exact e 22 (by decide)
theorem c_nState (hU : U.length = b) : ∃ M', Cl S 53 [vR b] (U ++ [(6, 4, nor)], M) (none, (U ++ stL b, M')) ∧ (M' (b + 1) 0 = 6 ∧ M' (b + 1) 1 = 4 ∧ M' (b + 1) 2 = 0 ∧ M' (b + 1) 3 = 6 * 4 - 1 ∧ M' (b + 1) 4 = 0 ∧ M' (b + 1) 5 = 0 ∧ M' (b + 1) 8 = -1 ∧ (∀ c, 0 ≤ c → c < 49 → M' (b + 2) c = 0)) ∧ (M' (b + 4) 1 = 0 ∧ M' (b + 4) 2 = 0 ∧ M' (b + 4) 3 = 0) ∧ M' (b + 23) 0 = 0 ∧ (∀ a, a < b → M' a = M a) := by
  have l1 : (U ++ [(6, 4, nor)]).length = b + 1 := lenA hU
  obtain ⟨M1, c1, f1⟩ := c_nFloor (S := S) (V := U ++ [(6, 4, nor)]) (M := zm M (b + 1)) l1
  have t1 : (U ++ [(6, 4, nor)]) ++ [(1, 9, uf (uf nor 6 (some (b + 1 + 1))) 7 (some (b + 1 + 2))), (9, 49, nor), (9, 49, nor)] = U ++ [(6, 4, nor), (1, 9, rFl b), (9, 49, nor), (9, 49, nor)] := List.append_assoc _ _ _
  have l2 : (U ++ [(6, 4, uf nor 0 (some (b + 1))), (1, 9, rFl b), (9, 49, nor), (9, 49, nor)]).length = b + 4 := lenA hU
  obtain ⟨M2, c2, f2⟩ := c_nBeds (S := S) (V := U ++ [(6, 4, uf nor 0 (some (b + 1))), (1, 9, rFl b), (9, 49, nor), (9, 49, nor)]) (M := zm M1 (b + 4)) l2
  have t2 : (U ++ [(6, 4, uf nor 0 (some (b + 1))), (1, 9, rFl b), (9, 49, nor), (9, 49, nor)]) ++ (beL (b + 4) 4 ++ slL (b + 4) 4) = U ++ ((6, 4, uf nor 0 (some (b + 1))) :: (1, 9, rFl b) :: (9, 49, nor) :: (9, 49, nor) :: (beL (b + 4) 4 ++ slL (b + 4) 4)) := List.append_assoc _ _ _
  have l3 : (U ++ ((6, 4, uf (uf nor 0 (some (b + 1))) 1 (some (b + 4))) :: (1, 9, rFl b) :: (9, 49, nor) :: (9, 49, nor) :: (beL (b + 4) 4 ++ slL (b + 4) 4))).length = b + 23 := lenA hU
  obtain ⟨M3, c3, f3⟩ := c_nNotes (S := S) (V := U ++ ((6, 4, uf (uf nor 0 (some (b + 1))) 1 (some (b + 4))) :: (1, 9, rFl b) :: (9, 49, nor) :: (9, 49, nor) :: (beL (b + 4) 4 ++ slL (b + 4) 4))) (M := zm M2 (b + 23)) l3
  have t3 : (U ++ ((6, 4, uf (uf nor 0 (some (b + 1))) 1 (some (b + 4))) :: (1, 9, rFl b) :: (9, 49, nor) :: (9, 49, nor) :: (beL (b + 4) 4 ++ slL (b + 4) 4))) ++ [(3, 3, uf (uf nor 1 (some (b + 23 + 1))) 2 (some (b + 23 + 2))), (9, 8, nor), (9, 8, nor)] = U ++ ((6, 4, uf (uf nor 0 (some (b + 1))) 1 (some (b + 4))) :: (1, 9, rFl b) :: (9, 49, nor) :: (9, 49, nor) :: ((beL (b + 4) 4 ++ slL (b + 4) 4) ++ [(3, 3, rNo b), (9, 8, nor), (9, 8, nor)])) := List.append_assoc _ _ _
  have l4 : (U ++ ((6, 4, uf (uf (uf nor 0 (some (b + 1))) 1 (some (b + 4))) 2 (some (b + 23))) :: (1, 9, rFl b) :: (9, 49, nor) :: (9, 49, nor) :: ((beL (b + 4) 4 ++ slL (b + 4) 4) ++ [(3, 3, rNo b), (9, 8, nor), (9, 8, nor)]))).length = b + 26 := lenA hU
  have t4 : (U ++ ((6, 4, uf (uf (uf nor 0 (some (b + 1))) 1 (some (b + 4))) 2 (some (b + 23))) :: (1, 9, rFl b) :: (9, 49, nor) :: (9, 49, nor) :: ((beL (b + 4) 4 ++ slL (b + 4) 4) ++ [(3, 3, rNo b), (9, 8, nor), (9, 8, nor)]))) ++ [(2, 3, nor)] = U ++ ((6, 4, uf (uf (uf nor 0 (some (b + 1))) 1 (some (b + 4))) 2 (some (b + 23))) :: (1, 9, rFl b) :: (9, 49, nor) :: (9, 49, nor) :: ((beL (b + 4) 4 ++ slL (b + 4) 4) ++ [(3, 3, rNo b), (9, 8, nor), (9, 8, nor), (2, 3, nor)])) := List.append_assoc _ _ _
  have hS : isSt (U ++ stL b) b := by
    have := stL_is hU []
    rw [List.append_nil] at this
    exact this
  obtain ⟨M5, c5, a1, a2, a3, a4⟩ := c_startAnew (S := S) (T := U ++ stL b) (M := zm M3 (b + 26)) (b := b) (w := 6) (h := 4) hS
  refine ⟨M5, ⟨_, rfl, ?_⟩, a1, a2, a3, fun a ha => ?_⟩
  · refine Rn.cal rfl (X_ald rfl <| X_oi <| X_ald rfl <| X_nw l1 rfl <| X_dupr <| X_nil) (vs := [_]) (rest := [_, _]) rfl rfl rfl rfl c1 ?_
    rw [t1]
    refine Rn.cal rfl (X_ps (T' := U ++ [(6, 4, uf nor 0 (some (b + 1))), (1, 9, rFl b), (9, 49, nor), (9, 49, nor)]) 6 0 (a := b) ((getA 0 hU).trans rfl) ⟨rfl, rfl⟩ rfl (setA 0 hU) <| X_ald rfl <| X_nw l2 rfl <| X_dupr <| X_nil) (vs := [_]) (rest := [_, _]) rfl rfl rfl rfl c2 ?_
    rw [t2]
    refine Rn.cal rfl (X_ps (T' := U ++ ((6, 4, uf (uf nor 0 (some (b + 1))) 1 (some (b + 4))) :: (1, 9, rFl b) :: (9, 49, nor) :: (9, 49, nor) :: (beL (b + 4) 4 ++ slL (b + 4) 4))) 6 1 (a := b) ((getA 0 hU).trans rfl) ⟨rfl, rfl⟩ rfl (setA 0 hU) <| X_ald rfl <| X_nw l3 rfl <| X_dupr <| X_nil) (vs := [_]) (rest := [_, _]) rfl rfl rfl rfl c3 ?_
    rw [t3]
    refine Rn.cal rfl (X_ps (T' := U ++ ((6, 4, uf (uf (uf nor 0 (some (b + 1))) 1 (some (b + 4))) 2 (some (b + 23))) :: (1, 9, rFl b) :: (9, 49, nor) :: (9, 49, nor) :: ((beL (b + 4) 4 ++ slL (b + 4) 4) ++ [(3, 3, rNo b), (9, 8, nor), (9, 8, nor)]))) 6 2 (a := b) ((getA 0 hU).trans rfl) ⟨rfl, rfl⟩ rfl (setA 0 hU) <| X_ald rfl <| X_nw l4 t4 <| X_dupr <| X_nil) (vs := [_]) (rest := [_, _]) rfl rfl rfl rfl c_nNight ?_
    refine Rn.cal rfl (X_ps (T' := U ++ stL b) 6 3 (a := b) ((getA 0 hU).trans rfl) ⟨rfl, rfl⟩ rfl (setA 0 hU) <| X_ald rfl <| X_i <| X_i <| X_nil) (vs := [_, _, _]) (rest := []) rfl rfl rfl (rcv_v hS.st (by decide)) c5 ?_
    exact Rn.rv rfl X_nil rfl
  · rw [a4 a (by omega) (by omega) (by omega) (by omega), zm_lt (by omega), f3 a (by omega), zm_lt (by omega), f2 a (by omega), zm_lt (by omega), f1 a (by omega), zm_lt (by omega)]
end New
