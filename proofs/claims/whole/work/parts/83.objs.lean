/-! THE TWO OBJECTS ARE MADE -/
section Objs
variable {S : List Int} {T U V W' : List Sh} {M : Nat → Int → Int} {r r' : Nat → Option Nat} {n : Nat}
theorem zm_ge {a : Nat} (h : n ≤ a) : zm M n a = fun _ => 0 := funext (fun _ => if_pos h)
def xT (r : Nat → Option Nat) (W : List Sh) : List Sh := [(7, 9, r)] ++ stL 1 ++ stL 28 ++ W
theorem xT_len {W : List Sh} : (xT r W).length = 55 + W.length := by
  unfold xT
  rw [List.length_append]
  rfl
theorem xT_app {W : List Sh} : xT r W ++ W' = xT r (W ++ W') := List.append_assoc _ _ _
def xW5 : List Sh := [(13, 2, nor), (4, 7, rSc), (10, 150, nor), (9, 5, nor), (9, 3, nor)]
def xW6 : List Sh := xW5 ++ ((14, 7, rC1) :: List.replicate 7 (9, 7, nor))
def xW : List Sh := xW6 ++ ((14, 7, rC2) :: List.replicate 7 (9, 7, nor))
theorem c_nX : ∃ M', Cl S 67 [vR 0] ([(7, 9, nor)], M) (none, (xT rX xW, M')) ∧ (M' (1 + 1) 0 = 6 ∧ M' (1 + 1) 1 = 4 ∧ M' (1 + 1) 2 = 0 ∧ M' (1 + 1) 3 = 6 * 4 - 1 ∧ M' (1 + 1) 4 = 0 ∧ M' (1 + 1) 5 = 0 ∧ M' (1 + 1) 8 = -1 ∧ (∀ c, 0 ≤ c → c < 49 → M' (1 + 2) c = 0)) ∧ (M' (1 + 4) 1 = 0 ∧ M' (1 + 4) 2 = 0 ∧ M' (1 + 4) 3 = 0) ∧ M' (1 + 23) 0 = 0 ∧ (M' 0 7 = 0 ∧ M' 0 8 = 1) ∧ M' 56 0 = 0 ∧ (∀ k, M' 59 k = 0) := by
  obtain ⟨M1, c1, a1, a2, a3, a4⟩ := c_nState (S := S) (U := [(7, 9, nor)]) (M := zm M 1) (b := 1) rfl
  obtain ⟨M2, c2, -, -, -, b4⟩ := c_nState (S := S) (U := [(7, 9, uf nor 0 (some 1))] ++ stL 1) (M := zm M1 28) (b := 28) rfl
  obtain ⟨M3, c3, d4⟩ := c_nScript (S := S) (V := xT (uf (uf (uf nor 0 (some 1)) 1 (some 28)) 2 (some 55)) [(13, 2, nor)]) (M := zm (zm M2 55) 56) (n := 56) xT_len
  have t3 : xT (uf (uf (uf nor 0 (some 1)) 1 (some 28)) 2 (some 55)) [(13, 2, nor)] ++ [(4, 7, uf (uf nor 1 (some (56 + 1))) 2 (some (56 + 2))), (10, 150, nor), (9, 5, nor)] = xT (uf (uf (uf nor 0 (some 1)) 1 (some 28)) 2 (some 55)) [(13, 2, nor), (4, 7, rSc), (10, 150, nor), (9, 5, nor)] := xT_app
  have m1 : ∀ a, a < 28 → M3 a = M1 a := fun a ha => by rw [d4 a (by omega), zm_lt (by omega), zm_lt (by omega), b4 a (by omega), zm_lt (by omega)]
  have e : ∀ a, a < 59 → a ≠ 0 → um (um (zm (zm (zm M3 59) 60) 68) 0 7 0) 0 8 1 a = M3 a := fun a ha h0 => by rw [um_fn h0, um_fn h0, zm_lt (by omega), zm_lt (by omega), zm_lt ha]
  have e1 : ∀ a, 1 ≤ a → a < 28 → um (um (zm (zm (zm M3 59) 60) 68) 0 7 0) 0 8 1 a = M1 a := fun a h1 h2 => by rw [e a (by omega) (by omega)]; exact m1 a h2
  refine ⟨um (um (zm (zm (zm M3 59) 60) 68) 0 7 0) 0 8 1, ⟨_, rfl, ?_⟩, ?_, ?_, ?_, ⟨by rw [um_ni (by decide), um_eq], um_eq⟩, ?_, fun k => ?_⟩
  · refine Rn.cal rfl (X_ald rfl <| X_oi <| X_ald rfl <| X_nw (n := 1) (T' := [(7, 9, nor)] ++ [(6, 4, nor)]) rfl rfl <| X_dupr <| X_nil) (vs := [_]) (rest := [_, _]) rfl rfl rfl rfl c1 ?_
    refine Rn.cal rfl (X_ps (T' := [(7, 9, uf nor 0 (some 1))] ++ stL 1) 7 0 (a := 0) rfl ⟨rfl, rfl⟩ rfl rfl <| X_ald rfl <| X_nw (n := 28) (T' := ([(7, 9, uf nor 0 (some 1))] ++ stL 1) ++ [(6, 4, nor)]) rfl rfl <| X_dupr <| X_nil) (vs := [_]) (rest := [_, _]) rfl rfl rfl rfl c2 ?_
    refine Rn.cal rfl (X_ps (T' := [(7, 9, uf (uf nor 0 (some 1)) 1 (some 28))] ++ stL 1 ++ stL 28) 7 1 (a := 0) rfl ⟨rfl, rfl⟩ rfl rfl <| X_ald rfl <| X_i <| X_nz (n := 55) (T' := xT (uf (uf nor 0 (some 1)) 1 (some 28)) [(13, 2, nor)]) (by decide) (by decide) rfl rfl <| X_ps (T' := xT (uf (uf (uf nor 0 (some 1)) 1 (some 28)) 2 (some 55)) [(13, 2, nor)]) 7 2 (a := 0) rfl ⟨rfl, rfl⟩ rfl rfl <| X_ald rfl <| X_nw (n := 56) (T' := xT (uf (uf (uf nor 0 (some 1)) 1 (some 28)) 2 (some 55)) [(13, 2, nor)] ++ [(4, 7, nor)]) xT_len rfl <| X_dupr <| X_nil) (vs := [_]) (rest := [_, _]) rfl rfl rfl rfl c3 ?_
    rw [t3]
    exact Rn.rv rfl (X_ps (T' := xT (uf (uf (uf (uf nor 0 (some 1)) 1 (some 28)) 2 (some 55)) 3 (some 56)) [(13, 2, nor), (4, 7, rSc), (10, 150, nor), (9, 5, nor)]) 7 3 (a := 0) rfl ⟨rfl, rfl⟩ rfl rfl <| X_ald rfl <| X_i <| X_nz (n := 59) (T' := xT (uf (uf (uf (uf nor 0 (some 1)) 1 (some 28)) 2 (some 55)) 3 (some 56)) xW5) (by decide) (by decide) xT_len xT_app <| X_ps (T' := xT (uf (uf (uf (uf (uf nor 0 (some 1)) 1 (some 28)) 2 (some 55)) 3 (some 56)) 4 (some 59)) xW5) 7 4 (a := 0) rfl ⟨rfl, rfl⟩ rfl rfl <| X_ald rfl <| X_i <| X_i <| X_mz (n := 60) (T' := xT (uf (uf (uf (uf (uf nor 0 (some 1)) 1 (some 28)) 2 (some 55)) 3 (some 56)) 4 (some 59)) xW6) (by decide) (by decide) xT_len xT_app <| X_ps (T' := xT (uf (uf (uf (uf (uf (uf nor 0 (some 1)) 1 (some 28)) 2 (some 55)) 3 (some 56)) 4 (some 59)) 5 (some 60)) xW6) 7 5 (a := 0) rfl ⟨rfl, rfl⟩ rfl rfl <| X_ald rfl <| X_i <| X_i <| X_mz (n := 68) (T' := xT (uf (uf (uf (uf (uf (uf nor 0 (some 1)) 1 (some 28)) 2 (some 55)) 3 (some 56)) 4 (some 59)) 5 (some 60)) xW) (by decide) (by decide) xT_len xT_app <| X_ps (T' := xT rX xW) 7 6 (a := 0) rfl ⟨rfl, rfl⟩ rfl rfl <| X_ald rfl <| X_l <| X_pl 7 7 7 (show (xT rX xW)[0]? = some (7, 9, rX) from rfl) ⟨rfl, rfl, rfl⟩ rfl <| X_ald rfl <| X_l <| X_pl 7 8 8 (show (xT rX xW)[0]? = some (7, 9, rX) from rfl) ⟨rfl, rfl, rfl⟩ rfl <| X_nil) rfl
  · rw [e1 (1 + 1) (by decide) (by decide), e1 (1 + 2) (by decide) (by decide)]; exact a1
  · rw [e1 (1 + 4) (by decide) (by decide)]; exact a2
  · rw [e1 (1 + 23) (by decide) (by decide)]; exact a3
  · rw [e 56 (by decide) (by decide), d4 56 (by decide), zm_ge (Nat.le_refl 56)]
  · rw [um_na (by decide), um_na (by decide), zm_lt (by decide), zm_lt (by decide), zm_ge (Nat.le_refl 59)]
theorem xW_at (k : Nat) : (xT r xW)[55 + k]? = xW[k]? := getA (V := [(7, 9, r)] ++ stL 1 ++ stL 28) (n := 55) k rfl
theorem xT_isX : isX (xT rX xW) := by
  refine ⟨rfl, xW_at 1, xW_at 2, xW_at 3, xW_at 4, xW_at 5, fun i hi => ?_, xW_at 13, fun i hi => ?_, ?_, stL_is (U := [(7, 9, rX)] ++ stL 1) (b := 28) rfl xW⟩
  · rcases (show i = 0 ∨ i = 1 ∨ i = 2 ∨ i = 3 ∨ i = 4 ∨ i = 5 ∨ i = 6 by omega) with rfl | rfl | rfl | rfl | rfl | rfl | rfl
    · exact xW_at 6
    · exact xW_at 7
    · exact xW_at 8
    · exact xW_at 9
    · exact xW_at 10
    · exact xW_at 11
    · exact xW_at 12
  · rcases (show i = 0 ∨ i = 1 ∨ i = 2 ∨ i = 3 ∨ i = 4 ∨ i = 5 ∨ i = 6 by omega) with rfl | rfl | rfl | rfl | rfl | rfl | rfl
    · exact xW_at 14
    · exact xW_at 15
    · exact xW_at 16
    · exact xW_at 17
    · exact xW_at 18
    · exact xW_at 19
    · exact xW_at 20
  · have := stL_is (U := [(7, 9, rX)]) (b := 1) rfl (stL 28 ++ xW)
    rw [← List.append_assoc] at this
    exact this
def mL : List Sh := [(8, 26, rM), (9, 748, nor), (11, 2, nor), (9, 150, nor), (9, 3, nor), (9, 49, nor), (9, 4, nor), (9, 4, nor), (9, 4, nor), (9, 61, nor), (9, 49, nor), (9, 49, nor)]
theorem mL_at (hV : V.length = 76) (k : Nat) : (V ++ mL)[76 + k]? = mL[k]? := getA k hV
theorem mL_isM (hV : V.length = 76) : isM (V ++ mL) := ⟨(mL_at hV 0).trans rfl, (mL_at hV 1).trans rfl, (mL_at hV 2).trans rfl, (mL_at hV 3).trans rfl, (mL_at hV 4).trans rfl, (mL_at hV 5).trans rfl, (mL_at hV 6).trans rfl, (mL_at hV 7).trans rfl, (mL_at hV 8).trans rfl, (mL_at hV 9).trans rfl, (mL_at hV 10).trans rfl, (mL_at hV 11).trans rfl⟩
theorem c_nM (hV : V.length = 76) : ∃ M', Cl S 115 [vR 76] (V ++ [(8, 26, nor)], M) (none, (V ++ mL, M')) ∧ (M' 77 0 = 6 ∧ M' 77 (0 + 1) = 4 ∧ M' 77 (0 + 3) = 6 * 4 - 1 ∧ ∀ k, 0 ≤ k → k < 187 → k ≠ 0 → k ≠ 1 → k ≠ 3 → M' 77 (0 + k) = 0) ∧ (∀ a, a < 76 → M' a = M a) ∧ M' 76 6 = 1 ∧ (∀ k, k ≠ 6 → M' 76 k = M 76 k) ∧ (∀ k, M' 78 k = 0) ∧ (∀ k, M' 80 k = 0) := by
  have hM := mL_isM hV
  obtain ⟨N, hN⟩ : ∃ N, N = zm (zm (zm (zm (zm (zm (zm (um (zm (zm (zm (zm M 77) 78) 79) 80) 76 6 1) 81) 82) 83) 84) 85) 86) 87 := ⟨_, rfl⟩
  obtain ⟨M', cb, b1, b2, b3⟩ := c_begins (S := S) (T := V ++ mL) (M := N) (r := 0) (w := 6) (hh := 4) hM (by decide) (by decide)
  refine ⟨M', ⟨_, rfl, ?_⟩, b1, fun a ha => ?_, ?_, fun k hk => ?_, fun k => ?_, fun k => ?_⟩
  · rw [hN] at cb
    refine Rn.cal rfl (X_ald rfl <| X_oi <| X_ald rfl <| X_i <| X_nz (n := 77) (T' := V ++ [(8, 26, nor), (9, 748, nor)]) (by decide) (by decide) (lenA hV) (List.append_assoc _ _ _) <| X_ps (T' := V ++ [(8, 26, uf nor 0 (some 77)), (9, 748, nor)]) 8 0 (a := 76) ((getA 0 hV).trans rfl) ⟨rfl, rfl⟩ rfl (setA 0 hV) <| X_ald rfl <| X_i <| X_nz (n := 78) (T' := V ++ [(8, 26, uf nor 0 (some 77)), (9, 748, nor), (11, 2, nor)]) (by decide) (by decide) (lenA hV) (List.append_assoc _ _ _) <| X_ps (T' := V ++ [(8, 26, uf (uf nor 0 (some 77)) 1 (some 78)), (9, 748, nor), (11, 2, nor)]) 8 1 (a := 76) ((getA 0 hV).trans rfl) ⟨rfl, rfl⟩ rfl (setA 0 hV) <| X_ald rfl <| X_i <| X_nz (n := 79) (T' := V ++ [(8, 26, uf (uf nor 0 (some 77)) 1 (some 78)), (9, 748, nor), (11, 2, nor), (9, 150, nor)]) (by decide) (by decide) (lenA hV) (List.append_assoc _ _ _) <| X_ps (T' := V ++ [(8, 26, uf (uf (uf nor 0 (some 77)) 1 (some 78)) 2 (some 79)), (9, 748, nor), (11, 2, nor), (9, 150, nor)]) 8 2 (a := 76) ((getA 0 hV).trans rfl) ⟨rfl, rfl⟩ rfl (setA 0 hV) <| X_ald rfl <| X_i <| X_nz (n := 80) (T' := V ++ [(8, 26, uf (uf (uf nor 0 (some 77)) 1 (some 78)) 2 (some 79)), (9, 748, nor), (11, 2, nor), (9, 150, nor), (9, 3, nor)]) (by decide) (by decide) (lenA hV) (List.append_assoc _ _ _) <| X_ps (T' := V ++ [(8, 26, uf (uf (uf (uf nor 0 (some 77)) 1 (some 78)) 2 (some 79)) 4 (some 80)), (9, 748, nor), (11, 2, nor), (9, 150, nor), (9, 3, nor)]) 8 4 (a := 76) ((getA 0 hV).trans rfl) ⟨rfl, rfl⟩ rfl (setA 0 hV) <| X_ald rfl <| X_l <| X_pl 8 6 6 (show (V ++ [(8, 26, uf (uf (uf (uf nor 0 (some 77)) 1 (some 78)) 2 (some 79)) 4 (some 80)), (9, 748, nor), (11, 2, nor), (9, 150, nor), (9, 3, nor)])[76]? = some (8, 26, uf (uf (uf (uf nor 0 (some 77)) 1 (some 78)) 2 (some 79)) 4 (some 80)) from (getA 0 hV).trans rfl) ⟨rfl, rfl, rfl⟩ rfl <| X_ald rfl <| X_i <| X_nz (n := 81) (T' := V ++ [(8, 26, uf (uf (uf (uf nor 0 (some 77)) 1 (some 78)) 2 (some 79)) 4 (some 80)), (9, 748, nor), (11, 2, nor), (9, 150, nor), (9, 3, nor), (9, 49, nor)]) (by decide) (by decide) (lenA hV) (List.append_assoc _ _ _) <| X_ps (T' := V ++ [(8, 26, uf (uf (uf (uf (uf nor 0 (some 77)) 1 (some 78)) 2 (some 79)) 4 (some 80)) 13 (some 81)), (9, 748, nor), (11, 2, nor), (9, 150, nor), (9, 3, nor), (9, 49, nor)]) 8 13 (a := 76) ((getA 0 hV).trans rfl) ⟨rfl, rfl⟩ rfl (setA 0 hV) <| X_ald rfl <| X_i <| X_nz (n := 82) (T' := V ++ [(8, 26, uf (uf (uf (uf (uf nor 0 (some 77)) 1 (some 78)) 2 (some 79)) 4 (some 80)) 13 (some 81)), (9, 748, nor), (11, 2, nor), (9, 150, nor), (9, 3, nor), (9, 49, nor), (9, 4, nor)]) (by decide) (by decide) (lenA hV) (List.append_assoc _ _ _) <| X_ps (T' := V ++ [(8, 26, uf (uf (uf (uf (uf (uf nor 0 (some 77)) 1 (some 78)) 2 (some 79)) 4 (some 80)) 13 (some 81)) 14 (some 82)), (9, 748, nor), (11, 2, nor), (9, 150, nor), (9, 3, nor), (9, 49, nor), (9, 4, nor)]) 8 14 (a := 76) ((getA 0 hV).trans rfl) ⟨rfl, rfl⟩ rfl (setA 0 hV) <| X_ald rfl <| X_i <| X_nz (n := 83) (T' := V ++ [(8, 26, uf (uf (uf (uf (uf (uf nor 0 (some 77)) 1 (some 78)) 2 (some 79)) 4 (some 80)) 13 (some 81)) 14 (some 82)), (9, 748, nor), (11, 2, nor), (9, 150, nor), (9, 3, nor), (9, 49, nor), (9, 4, nor), (9, 4, nor)]) (by decide) (by decide) (lenA hV) (List.append_assoc _ _ _) <| X_ps (T' := V ++ [(8, 26, uf (uf (uf (uf (uf (uf (uf nor 0 (some 77)) 1 (some 78)) 2 (some 79)) 4 (some 80)) 13 (some 81)) 14 (some 82)) 15 (some 83)), (9, 748, nor), (11, 2, nor), (9, 150, nor), (9, 3, nor), (9, 49, nor), (9, 4, nor), (9, 4, nor)]) 8 15 (a := 76) ((getA 0 hV).trans rfl) ⟨rfl, rfl⟩ rfl (setA 0 hV) <| X_ald rfl <| X_i <| X_nz (n := 84) (T' := V ++ [(8, 26, uf (uf (uf (uf (uf (uf (uf nor 0 (some 77)) 1 (some 78)) 2 (some 79)) 4 (some 80)) 13 (some 81)) 14 (some 82)) 15 (some 83)), (9, 748, nor), (11, 2, nor), (9, 150, nor), (9, 3, nor), (9, 49, nor), (9, 4, nor), (9, 4, nor), (9, 4, nor)]) (by decide) (by decide) (lenA hV) (List.append_assoc _ _ _) <| X_ps (T' := V ++ [(8, 26, uf (uf (uf (uf (uf (uf (uf (uf nor 0 (some 77)) 1 (some 78)) 2 (some 79)) 4 (some 80)) 13 (some 81)) 14 (some 82)) 15 (some 83)) 16 (some 84)), (9, 748, nor), (11, 2, nor), (9, 150, nor), (9, 3, nor), (9, 49, nor), (9, 4, nor), (9, 4, nor), (9, 4, nor)]) 8 16 (a := 76) ((getA 0 hV).trans rfl) ⟨rfl, rfl⟩ rfl (setA 0 hV) <| X_ald rfl <| X_i <| X_nz (n := 85) (T' := V ++ [(8, 26, uf (uf (uf (uf (uf (uf (uf (uf nor 0 (some 77)) 1 (some 78)) 2 (some 79)) 4 (some 80)) 13 (some 81)) 14 (some 82)) 15 (some 83)) 16 (some 84)), (9, 748, nor), (11, 2, nor), (9, 150, nor), (9, 3, nor), (9, 49, nor), (9, 4, nor), (9, 4, nor), (9, 4, nor), (9, 61, nor)]) (by decide) (by decide) (lenA hV) (List.append_assoc _ _ _) <| X_ps (T' := V ++ [(8, 26, uf (uf (uf (uf (uf (uf (uf (uf (uf nor 0 (some 77)) 1 (some 78)) 2 (some 79)) 4 (some 80)) 13 (some 81)) 14 (some 82)) 15 (some 83)) 16 (some 84)) 22 (some 85)), (9, 748, nor), (11, 2, nor), (9, 150, nor), (9, 3, nor), (9, 49, nor), (9, 4, nor), (9, 4, nor), (9, 4, nor), (9, 61, nor)]) 8 22 (a := 76) ((getA 0 hV).trans rfl) ⟨rfl, rfl⟩ rfl (setA 0 hV) <| X_ald rfl <| X_i <| X_nz (n := 86) (T' := V ++ [(8, 26, uf (uf (uf (uf (uf (uf (uf (uf (uf nor 0 (some 77)) 1 (some 78)) 2 (some 79)) 4 (some 80)) 13 (some 81)) 14 (some 82)) 15 (some 83)) 16 (some 84)) 22 (some 85)), (9, 748, nor), (11, 2, nor), (9, 150, nor), (9, 3, nor), (9, 49, nor), (9, 4, nor), (9, 4, nor), (9, 4, nor), (9, 61, nor), (9, 49, nor)]) (by decide) (by decide) (lenA hV) (List.append_assoc _ _ _) <| X_ps (T' := V ++ [(8, 26, uf (uf (uf (uf (uf (uf (uf (uf (uf (uf nor 0 (some 77)) 1 (some 78)) 2 (some 79)) 4 (some 80)) 13 (some 81)) 14 (some 82)) 15 (some 83)) 16 (some 84)) 22 (some 85)) 23 (some 86)), (9, 748, nor), (11, 2, nor), (9, 150, nor), (9, 3, nor), (9, 49, nor), (9, 4, nor), (9, 4, nor), (9, 4, nor), (9, 61, nor), (9, 49, nor)]) 8 23 (a := 76) ((getA 0 hV).trans rfl) ⟨rfl, rfl⟩ rfl (setA 0 hV) <| X_ald rfl <| X_i <| X_nz (n := 87) (T' := V ++ [(8, 26, uf (uf (uf (uf (uf (uf (uf (uf (uf (uf nor 0 (some 77)) 1 (some 78)) 2 (some 79)) 4 (some 80)) 13 (some 81)) 14 (some 82)) 15 (some 83)) 16 (some 84)) 22 (some 85)) 23 (some 86)), (9, 748, nor), (11, 2, nor), (9, 150, nor), (9, 3, nor), (9, 49, nor), (9, 4, nor), (9, 4, nor), (9, 4, nor), (9, 61, nor), (9, 49, nor), (9, 49, nor)]) (by decide) (by decide) (lenA hV) (List.append_assoc _ _ _) <| X_ps (T' := V ++ mL) 8 24 (a := 76) ((getA 0 hV).trans rfl) ⟨rfl, rfl⟩ rfl (setA 0 hV) <| X_ald rfl <| X_i <| X_i <| X_i <| X_nil) (vs := [_, _, _, _]) (rest := []) rfl rfl rfl (rcv_v hM.ob (by decide)) cb ?_
    exact Rn.rv rfl X_nil rfl
  · rw [b3 a (by omega), hN]
    rw [zm_lt (by omega), zm_lt (by omega), zm_lt (by omega), zm_lt (by omega), zm_lt (by omega), zm_lt (by omega), zm_lt (by omega), um_fn (by omega), zm_lt (by omega), zm_lt (by omega), zm_lt (by omega), zm_lt (by omega)]
  · rw [b3 76 (by decide), hN]
    rw [zm_lt (by omega), zm_lt (by omega), zm_lt (by omega), zm_lt (by omega), zm_lt (by omega), zm_lt (by omega), zm_lt (by omega), um_eq]
  · rw [b3 76 (by decide), hN]
    rw [zm_lt (by omega), zm_lt (by omega), zm_lt (by omega), zm_lt (by omega), zm_lt (by omega), zm_lt (by omega), zm_lt (by omega), um_ni hk, zm_lt (by omega), zm_lt (by omega), zm_lt (by omega), zm_lt (by omega)]
  · rw [b3 78 (by decide), hN]
    rw [zm_lt (by omega), zm_lt (by omega), zm_lt (by omega), zm_lt (by omega), zm_lt (by omega), zm_lt (by omega), zm_lt (by omega), um_na (by decide), zm_lt (by omega), zm_lt (by omega), zm_ge (Nat.le_refl 78)]
  · rw [b3 80 (by decide), hN]
    rw [zm_lt (by omega), zm_lt (by omega), zm_lt (by omega), zm_lt (by omega), zm_lt (by omega), zm_lt (by omega), zm_lt (by omega), um_na (by decide), zm_ge (Nat.le_refl 80)]
/-- what the law begins with -/
theorem begin_Gl : ∃ M, Gl (xT rX xW ++ mL) M 0 ∧ ∀ r, Rn S 205 18 ([], [some (vO 0), some (vR 0), some (vR 76), some (vI 0)], xT rX xW ++ mL, M) r → Rn S 205 0 ([], [some (vO 0), none, none, none], [], fun _ _ => 0) r := by
  have hV : (xT rX xW).length = 76 := xT_len
  obtain ⟨M1, c1, a1, a2, a3, a4, a5, a6⟩ := c_nX (S := S) (M := zm (fun _ _ => 0) 0)
  obtain ⟨M2, c2, b1, b2, b3, b4, b5, b6⟩ := c_nM (S := S) (V := xT rX xW) (M := zm M1 76) hV
  have hM := mL_isM hV
  have ge : ∀ j, j < 76 → (xT rX xW ++ mL)[j]? = (xT rX xW)[j]? := fun j hj => List.getElem?_append_left (by omega)
  have lw : ∀ a, a < 76 → M2 a = M1 a := fun a ha => by rw [b2 a ha, zm_lt ha]
  have m76 : ∀ k, k ≠ 6 → M2 76 k = 0 := fun k hk => by rw [b4 k hk, zm_ge (Nat.le_refl 76)]
  refine ⟨M2, ⟨xT_isX.ext (fun j hj _ => ge j hj), hM, ?_, ⟨?_, ?_, ?_⟩, fun k k0 k3 => ?_, ⟨⟨?_, ?_⟩, ?_, ?_⟩, nor, ?_, fun i b hi hb => ?_, fun i hi _ => b5 _, fun b hb => ?_, Or.inl ⟨rfl, rfl, ?_⟩⟩, fun r hr => ?_⟩
  · refine Rg_new (w := 6) (hh := 4) (by decide) (by decide) ?_ ?_ ?_ b1.1 b1.2.1 b1.2.2.1 b1.2.2.2
    · rw [lw (1 + 1) (by decide), lw (1 + 2) (by decide)]; exact a1
    · rw [lw (1 + 4) (by decide)]; exact a2
    · rw [lw (1 + 23) (by decide)]; exact a3
  · rw [lw 56 (by decide), a5, m76 3 (by decide)]
  · rw [lw 56 (by decide), a5]; decide
  · intro i i0 i1
    rw [lw 56 (by decide), a5] at i1
    omega
  · rw [lw 59 (by decide), a6, b6]
    omega
  · rw [lw 0 (by decide), a4.1, m76 5 (by decide)]
  · rw [lw 0 (by decide), a4.2, b3]
  · rw [lw 0 (by decide), a4.1]; decide
  · rw [lw 0 (by decide), a4.2]; decide
  · rw [ge 55 (by decide)]; exact xW_at 0
  · exact absurd hb (by simp [nor])
  · exact absurd hb (by simp [nor])
  · rw [List.length_append, hV]; rfl
  · refine Rn.cal rfl (X_nw (n := 0) (T' := [(7, 9, nor)]) rfl rfl <| X_dupr <| X_nil) (vs := [_]) (rest := [_]) rfl rfl rfl rfl c1 ?_
    refine Rn.cal rfl (X_ast rfl (L' := [_, _, _, _]) rfl <| X_nw (n := 76) (T' := xT rX xW ++ [(8, 26, nor)]) hV rfl <| X_dupr <| X_nil) (vs := [_]) (rest := [_]) rfl rfl rfl rfl c2 ?_
    refine Rn.fal rfl (X_ast rfl (L' := [_, _, _, _]) rfl <| X_i <| X_ist rfl (L' := [_, _, _, _]) rfl <| X_nil) ?_
    exact hr
end Objs
