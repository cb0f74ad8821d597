/-! ROWS OF NUMBERS AND OF REFERENCES, WORDS, WHAT IS MADE -/
def tyK (k : Nat) : FieldType := match k with
  | 9 => .int
  | 10 => .byte
  | 11 => .boolean
  | 12 => .object RX5
  | 13 => .object RX6
  | _ => .array .int
theorem ty_at (P : Par) : ∀ k, 9 ≤ k → k < 15 → (tyL P)[k - 9]? = some (P.2.2.1 k, tyK k) := by
  intro k h1 h2
  have h : k = 9 ∨ k = 10 ∨ k = 11 ∨ k = 12 ∨ k = 13 ∨ k = 14 := by omega
  rcases h with rfl | rfl | rfl | rfl | rfl | rfl <;> rfl
theorem i32_nat (n : Nat) : Int32.ofNat n = Int32.ofInt (n : Int) := by
  rw [← Int32.toInt_inj, i32_toInt, Int32.toInt_ofNat', ← i32_bm]
theorem c_ro {S : List Int} {P : Par} {U : State} {H : Heap} (h : Wc S P U H) {j : Nat} (hj : j < 3) : ∃ a, cV P (vO j) = .ref a ∧ va_T .int a (roL S j).length (fun i => .int (Int32.ofInt ((roL S j).getD i 0))) (aA P) U H := by
  obtain ⟨ad, h0, -, -, h3, -⟩ := h
  refine ⟨ad j, ?_, h3 j hj⟩
  show va_rf (P.2.2.2 j) = _
  rw [h0 j (by omega)]
  rfl
theorem sB_ok : ∀ i, i < 8 → ∀ j, j < 7 → (sByt.getD i []).getD j 0 = Int32.ofInt ((roL [] (11 + i)).getD j 0) := by decide +kernel
theorem sL_ok : ∀ i, i < 8 → sLen.getD i 0 = (roL [] (11 + i)).length ∧ sLen.getD i 0 ≤ 7 := by decide +kernel
theorem roL_S {S : List Int} {j : Nat} (h1 : 11 ≤ j) (h2 : j < 19) : roL S j = roL [] j := by
  have h : j = 11 ∨ j = 12 ∨ j = 13 ∨ j = 14 ∨ j = 15 ∨ j = 16 ∨ j = 17 ∨ j = 18 := by omega
  rcases h with rfl | rfl | rfl | rfl | rfl | rfl | rfl | rfl <;> rfl
theorem va_T.cg {ty : FieldType} {t N : Nat} {f g : Nat → Value} {A : Nat → Prop} {U : State} {H : Heap} (h : va_T ty t N f A U H) (e : ∀ j, j < N → f j = g j) : va_T ty t N g A U H := by
  obtain ⟨cell, h1, h2, h3, h4, h5, h6, h7⟩ := h
  exact ⟨cell, h1, h2, h3, h4, h5, fun j hj => by rw [h6 j hj, e j hj], h7⟩
theorem c_rb {S : List Int} {P : Par} {U : State} {H : Heap} (h : Wc S P U H) {j : Nat} (h1 : 11 ≤ j) (hj : j < 19) : ∃ a, cV P (vO j) = .ref a ∧ va_T .byte a (roL S j).length (fun i => .int (Int32.ofInt ((roL S j).getD i 0))) (aA P) U H := by
  obtain ⟨ad, h0, -, -, -, -, -, h6⟩ := h
  have e : j = 11 + (j - 11) := by omega
  have hi : j - 11 < 8 := by omega
  have h9 : va_T .byte (ad (11 + (j - 11))) (sLen.getD (j - 11) 0) (fun k => .int ((sByt.getD (j - 11) []).getD k 0)) (aA P) U H := (h6.1 (j - 11) hi).2.2.2
  obtain ⟨g1, g2⟩ := sL_ok (j - 11) hi
  refine ⟨ad j, ?_, ?_⟩
  · show va_rf (P.2.2.2 j) = _
    rw [h0 j (by omega)]
    rfl
  · rw [roL_S h1 hj]
    rw [g1, ← e] at h9
    refine h9.cg (fun i hi2 => ?_)
    have g3 : i < 7 := by rw [g1, ← e] at g2; omega
    have := sB_ok (j - 11) hi i g3
    rw [← e] at this
    exact congrArg Value.int this
theorem sz_app (T T' : List Sh) : sz (T ++ T') = sz T + sz T' := by
  unfold sz
  rw [List.map_append, List.sum_append]
theorem ws_push (P : Par) (T : List Sh) (M : Nat → Int → Int) (sh : Sh) : wsOf P (T, M) ++ [(P.1 + T.length, eC P sh (fun _ => 0))] = wsOf P (T ++ [sh], zm M T.length) := by
  refine ws_ext (by rw [List.length_append, ws_len]; simp) (fun k s hk => ?_)
  have hlt := (List.getElem?_eq_some_iff.mp hk).1
  simp only [List.length_append, List.length_singleton] at hlt
  by_cases hl : k < T.length
  · simp only at hk
    rw [List.getElem?_append_left hl] at hk
    rw [List.getElem?_append_left (by rw [ws_len]; exact hl), ws_at (h := (T, M)) hk]
    show some (_, eC P s (M k)) = some (_, eC P s (zm M T.length k))
    have e : zm M T.length k = M k := by
      funext i
      unfold zm
      rw [if_neg (by omega)]
    rw [e]
  · have e : k = T.length := by omega
    subst e
    simp only at hk
    rw [List.getElem?_append_right (Nat.le_refl _), Nat.sub_self] at hk
    cases hk
    rw [List.getElem?_append_right (by rw [ws_len]; exact Nat.le_refl _), ws_len, Nat.sub_self]
    show some (_, eC P sh (fun _ => 0)) = some (_, eC P sh (zm M T.length T.length))
    have e : zm M T.length T.length = fun _ => 0 := by
      funext i
      unfold zm
      rw [if_pos (Nat.le_refl _)]
    rw [e]
/-- an instruction that makes one thing -/
theorem gos_nw {S : List Int} {K : Mt} {pc q' : Nat} {st st' : List AV} {L : List (Option AV)} {T : List Sh} {M : Nat → Int → Int} (sh : Sh)
    (k : ∀ (P : Par) (p : Program) (l : Launch) (e : Env) (R : Room) (s : State) (m : MethodId) (args : Array Value) (below : List Frame) (meth : Method) (c : Code) (Q : State → Prop) (H : Heap) (locs : List Loc) (cells slots : Nat) (ls : Array Slot),
      Cx S K P p R s m args meth c → hR P (T, M) H → va_S (aA P) s.heap H locs → lR P K.2.2.2.1 L ls → cells + 1 ≤ R.cells → slots + sh.2.1 ≤ R.slots → (∀ (q : Nat) (H' : Heap), va_P P.2.1 vwCl (wsOf P (T, M) ++ [(q, eC P sh (fun _ => 0))]) H' → va_D (aA P) (wsOf P (T, M) ++ [(q, eC P sh (fun _ => 0))]) → va_S (aA P) s.heap H' locs → W p l e R s m args below meth c H' locs (cells + 1) (slots + sh.2.1) Q (F0 m q' ls (.ref q :: st'.map (cV P)))) → W p l e R s m args below meth c H locs cells slots Q (F0 m pc ls (st.map (cV P)))) :
    Gos S K pc q' (st, L, T, M) (vR T.length :: st', L, T ++ [sh], zm M T.length) := by
  refine ⟨⟨by simp, by simp only [sz_app]; omega⟩, fun P p l e R s m args below meth c Q t0 z0 C h0 hz0 hc hs a ls H locs h1 h2 h3 => ?_⟩
  have e1 : (T ++ [sh]).length - t0 = T.length - t0 + 1 := by
    have := h0.2
    simp only [List.length_append, List.length_singleton] at this ⊢
    omega
  have e0 : sz [sh] = sh.2.1 := by simp [sz]
  have e2 : sz (T ++ [sh]) - z0 = sz T - z0 + sh.2.1 := by
    simp only at hz0
    rw [sz_app, e0]
    omega
  simp only [e1, e2] at hc hs
  refine k P p l e R s m args below meth c Q H locs _ _ ls C h2 h3 h1 hc hs (fun q H' g1 g2 g3 X hX hSt => ?_)
  have u1 : H'.size ≤ s.heap.size + (T.length - t0 + 1) := by
    have := hSt.heapSize
    rw [hX] at this
    exact this
  have u3 := h0.1
  have u4 : t0 ≤ T.length := h0.2
  have hq : (wsOf P (T, M) ++ [(q, eC P sh (fun _ => 0))])[T.length]? = some (q, eC P sh (fun _ => 0)) := by
    rw [List.getElem?_append_right (by rw [ws_len]; exact Nat.le_refl _), ws_len, Nat.sub_self]; rfl
  have q1 : q < H'.size := (g1 _ _ hq).lt
  have q2 : P.1 ≤ q := g2.2 _ _ hq
  have q3 : q = P.1 + T.length := by
    rcases Nat.lt_or_ge q (P.1 + T.length) with hlt | hge
    · have hk : q - P.1 < T.length := by omega
      have e3 : (wsOf P (T, M) ++ [(q, eC P sh (fun _ => 0))])[q - P.1]? = some (P.1 + (q - P.1), eC P T[q - P.1] (M (q - P.1))) := by
        rw [List.getElem?_append_left (by rw [ws_len]; exact hk)]
        exact ws_at (h := (T, M)) (List.getElem?_eq_getElem hk)
      have := g2.1 _ _ _ _ hq e3 (by show q = P.1 + (q - P.1); omega)
      omega
    · omega
  subst q3
  rw [ws_push] at g1
  have := a ls H' locs h1 ⟨by show H'.size = P.1 + (T ++ [sh]).length; simp; omega, g1⟩ g3
  simp only [e1, e2] at this
  exact this X hX hSt
section Ops4
variable {S : List Int} {K : Mt} {pc : Nat}
theorem s_iaload (hd : decode K.2.2.1 pc = .ok (.iaload, 1)) : Seg S K pc (pc + 1) (x_iald S) := by
  rintro ⟨st, L, T, M⟩ σ' e
  unfold x_iald at e
  split at e
  · rename_i i a st0 hz
    simp only at hz
    subst hz
    split at e
    · rename_i k' n r hT
      split at e
      · rename_i hg
        obtain ⟨g0, g1, g2⟩ := hg
        simp only at hT
        cases e
        refine gos_st fun P p l e R s m args below meth c Q H locs cells slots ls C h2 h3 h1 x => ?_
        have he := ws_at (P := P) (h := (T, M)) hT
        subst g0
        rw [eC_i (by omega) (by omega)] at he
        refine va_iald C.1 C.2.1 C.2.2.2.2.2.2.2.2.1.1 h2.2 a 0 he rfl (i32_in g1 g2) hd ?_
        rw [i32_clamp, Int.toNat_of_nonneg g1]
        exact x
      · cases e
    · cases e
  · rename_i i j st0 hz
    simp only at hz
    subst hz
    split at e
    · rename_i hg
      obtain ⟨g0, g1, g2⟩ := hg
      cases e
      refine gos_st fun P p l e R s m args below meth c Q H locs cells slots ls C h2 h3 h1 x => ?_
      obtain ⟨b, hb, hT⟩ := c_ro C.2.2.2.2.2.2.2.2.1.2.2.2 g0
      refine W.eq (show _ = F0 m pc ls (.int (Int32.ofInt i) :: .ref b :: st0.map (cV P)) by rw [← hb]; rfl) ?_
      refine va_ti C.1 C.2.1 hT h3 (i32_in g1 g2) rfl hd ?_
      rw [i32_clamp]
      exact x
    · cases e
  · cases e
theorem s_baload (hd : decode K.2.2.1 pc = .ok (.baload, 1)) : Seg S K pc (pc + 1) (x_bald S) := by
  rintro ⟨st, L, T, M⟩ σ' e
  unfold x_bald at e
  split at e
  · rename_i i a st0 hz
    simp only at hz
    subst hz
    split at e
    · rename_i k' n r hT
      split at e
      · rename_i hg
        obtain ⟨g0, g1, g2⟩ := hg
        simp only at hT
        cases e
        refine gos_st fun P p l e R s m args below meth c Q H locs cells slots ls C h2 h3 h1 x => ?_
        have he := ws_at (P := P) (h := (T, M)) hT
        rcases g0 with rfl | rfl
        · rw [eC_i (by omega) (by omega)] at he
          refine va_bald C.1 C.2.1 C.2.2.2.2.2.2.2.2.1.1 h2.2 a 1 he rfl (i32_in g1 g2) hd ?_
          rw [i32_clamp, Int.toNat_of_nonneg g1]
          exact x
        · rw [eC_i (by omega) (by omega)] at he
          refine va_zald C.1 C.2.1 C.2.2.2.2.2.2.2.2.1.1 h2.2 a 2 he rfl (i32_in g1 g2) hd ?_
          rw [i32_clamp, Int.toNat_of_nonneg g1]
          exact x
      · cases e
    · cases e
  · rename_i i j st0 hz
    simp only at hz
    subst hz
    split at e
    · rename_i hg
      obtain ⟨g0, g1, g2⟩ := hg
      cases e
      refine gos_st fun P p l e R s m args below meth c Q H locs cells slots ls C h2 h3 h1 x => ?_
      obtain ⟨b, hb, hT⟩ := c_rb C.2.2.2.2.2.2.2.2.1.2.2.2 g0.1 g0.2
      refine W.eq (show _ = F0 m pc ls (.int (Int32.ofInt i) :: .ref b :: st0.map (cV P)) by rw [← hb]; rfl) ?_
      refine va_tb C.1 C.2.1 hT h3 (i32_in g1 g2) rfl hd ?_
      rw [i32_clamp]
      exact x
    · cases e
  · cases e
theorem s_iastore (hd : decode K.2.2.1 pc = .ok (.iastore, 1)) : Seg S K pc (pc + 1) x_iast := by
  rintro ⟨st, L, T, M⟩ σ' e
  unfold x_iast at e
  split at e
  · rename_i z i a st0 hz
    simp only at hz
    subst hz
    split at e
    · rename_i k' n r hT
      split at e
      · rename_i hg
        obtain ⟨g0, g1, g2⟩ := hg
        simp only at hT
        cases e
        subst g0
        refine gos_hp rfl rfl fun P p l e R s m args below meth c Q H locs cells slots ls C h2 h3 h1 x => ?_
        have he := ws_at (P := P) (h := (T, M)) hT
        rw [eC_i (by omega) (by omega)] at he
        refine va_iast C.1 C.2.1 C.2.2.2.2.2.2.2.2.1.1 h2.2 (ws_D P (T, M)) h3 a 0 he rfl (i32_in g1 g2) hd (fun H1 locs1 y1 y2 y3 => ?_)
        have e5 := ws_ua (P := P) (M := M) (i := n32 i) (z := z) (j := (Int32.ofInt i).toNatClampNeg) (v := Int32.ofInt z) hT (by omega) (by omega) (by rw [i32_clamp, Int.toNat_of_nonneg g1]) rfl
        refine x H1 locs1 ?_ y3
        show va_P P.2.1 vwCl (wsOf P (T, um M a (n32 i) (z))) H1
        rw [← e5]
        exact y1
      · cases e
    · cases e
  · cases e
theorem s_bastore (hd : decode K.2.2.1 pc = .ok (.bastore, 1)) : Seg S K pc (pc + 1) x_bast := by
  rintro ⟨st, L, T, M⟩ σ' e
  unfold x_bast at e
  split at e
  · rename_i z i a st0 hz
    simp only at hz
    subst hz
    split at e
    · rename_i k' n r hT
      split at e
      · rename_i hg
        obtain ⟨g0, g1, g2⟩ := hg
        simp only at hT
        cases e
        rcases g0 with rfl | rfl
        · refine gos_hp rfl rfl fun P p l e R s m args below meth c Q H locs cells slots ls C h2 h3 h1 x => ?_
          have he := ws_at (P := P) (h := (T, M)) hT
          rw [eC_i (by omega) (by omega)] at he
          refine va_bast C.1 C.2.1 C.2.2.2.2.2.2.2.2.1.1 h2.2 (ws_D P (T, M)) h3 a 1 he rfl (i32_in g1 g2) hd (fun H1 locs1 y1 y2 y3 => ?_)
          have e5 := ws_ua (P := P) (M := M) (i := n32 i) (z := o_i2b z) (j := (Int32.ofInt i).toNatClampNeg) (v := vp_nar .byte (Int32.ofInt z)) hT (by omega) (by omega) (by rw [i32_clamp, Int.toNat_of_nonneg g1]) (by rw [vp_nar_byte]; exact Int32.ofInt_toInt _)
          refine x H1 locs1 ?_ y3
          show va_P P.2.1 vwCl (wsOf P (T, um M a (n32 i) (o_i2b z))) H1
          rw [← e5]
          exact y1
        · refine gos_hp rfl rfl fun P p l e R s m args below meth c Q H locs cells slots ls C h2 h3 h1 x => ?_
          have he := ws_at (P := P) (h := (T, M)) hT
          rw [eC_i (by omega) (by omega)] at he
          refine va_zast C.1 C.2.1 C.2.2.2.2.2.2.2.2.1.1 h2.2 (ws_D P (T, M)) h3 a 2 he rfl (i32_in g1 g2) hd (fun H1 locs1 y1 y2 y3 => ?_)
          have e5 := ws_ua (P := P) (M := M) (i := n32 i) (z := o_nz z) (j := (Int32.ofInt i).toNatClampNeg) (v := vp_nar .boolean (Int32.ofInt z)) hT (by omega) (by omega) (by rw [i32_clamp, Int.toNat_of_nonneg g1]) (Int32.ofInt_toInt _)
          refine x H1 locs1 ?_ y3
          show va_P P.2.1 vwCl (wsOf P (T, um M a (n32 i) (o_nz z))) H1
          rw [← e5]
          exact y1
      · cases e
    · cases e
  · cases e
theorem s_aaload (hd : decode K.2.2.1 pc = .ok (.aaload, 1)) : Seg S K pc (pc + 1) x_aald := by
  rintro ⟨st, L, T, M⟩ σ' e
  unfold x_aald at e
  split at e
  · rename_i i a st0 hz
    simp only at hz
    subst hz
    split at e
    · rename_i k' n r hT
      split at e
      · rename_i hg
        obtain ⟨g0, g1, g2⟩ := hg
        simp only at hT
        cases e
        refine gos_st fun P p l e R s m args below meth c Q H locs cells slots ls C h2 h3 h1 x => ?_
        have he := ws_at (P := P) (h := (T, M)) hT
        rw [eC_r g0.1] at he
        have hlt : (n32 i).toNat < n := by omega
        have ev : va_rf ((r (n32 i).toNat).map (fun k => P.1 + k)) = cV P (rfv (r (n32 i).toNat)) := by
          cases r (n32 i).toNat <;> rfl
        refine W.aald (v := va_rf ((r (n32 i).toNat).map (fun k => P.1 + k))) (ty := tyK k') C.1 C.2.1 (h2.2 a _ he) ((C.2.2.2.2.2.2.2.2.1.1.2 (k' - 9) _ (ty_at P k' (by omega) g0.2)).1 n (fun j => va_rf ((r j).map (fun k => P.1 + k)))) ?_ (fun q => by cases q) ?_ ?_ rfl rfl hd ?_
        · have h : k' = 12 ∨ k' = 13 ∨ k' = 14 := by omega
          rcases h with rfl | rfl | rfl <;> rfl
        · show ¬ (Int32.ofInt i < 0 ∨ (arrV _ _ _).slots.size ≤ _)
          rw [arrV_size]
          exact i32_in g1 g2
        · show (arrV _ _ _).slots[_]? = _
          rw [i32_clamp, arrV_read _ _ hlt]
        · rw [ev]
          exact x
      · cases e
    · cases e
  · cases e
theorem s_aastore (hd : decode K.2.2.1 pc = .ok (.aastore, 1)) : Seg S K pc (pc + 1) x_aast := by
  rintro ⟨st, L, T, M⟩ σ' e
  unfold x_aast at e
  split at e
  · rename_i v i a st0 hz
    simp only at hz
    subst hz
    split at e
    · rename_i k' n r hT
      split at e
      · rename_i c' n' r' hV
        split at e
        · rename_i hg
          obtain ⟨g0, g1, g2, g3⟩ := hg
          simp only at hT hV
          cases e
          have hk : 12 ≤ k' ∧ k' < 15 := by omega
          have hc' : c' < 9 := by omega
          refine gos_hp (by simp) (sz_set hT) fun P p l e R s m args below meth c Q H locs cells slots ls C h2 h3 h1 x => ?_
          have he := ws_at (P := P) (h := (T, M)) hT
          rw [eC_r hk.1] at he
          have hv := ws_at (P := P) (h := (T, M)) hV
          rw [eC_o hc'] at hv
          subst g3
          have ht : (tyL P)[k' - 9]? = some (P.2.2.1 k', .object (clS c')) := by
            rcases g0 with ⟨rfl, rfl⟩ | ⟨rfl, rfl⟩ <;> rfl
          refine va_astq C.1 C.2.1 C.2.2.2.2.2.2.2.2.1.1 h2.2 (ws_D P (T, M)) h3 a (k' - 9) v c' he (r := (clS c', clT c', clN c')) ht hv (cl_at c' hc') (i32_in g1 g2) hd (fun H1 locs1 y1 y2 y3 => ?_)
          have e5 := ws_uq (P := P) (M := M) (v := v) (j := (Int32.ofInt i).toNatClampNeg) hT hk.1
          rw [i32_clamp] at e5 y1
          refine x H1 locs1 ?_ y3
          show va_P P.2.1 vwCl (wsOf P (T.set a (k', n, uf r (n32 i).toNat (some v)), M)) H1
          rw [← e5]
          exact y1
        · cases e
      · cases e
    · cases e
  · cases e
theorem s_alen (hd : decode K.2.2.1 pc = .ok (.arraylength, 1)) : Seg S K pc (pc + 1) (x_alen S) := by
  rintro ⟨st, L, T, M⟩ σ' e
  unfold x_alen at e
  split at e
  · rename_i a st0 hz
    simp only at hz
    subst hz
    split at e
    · rename_i k' n r hT
      split at e
      · rename_i hg
        simp only at hT
        cases e
        refine gos_st fun P p l e R s m args below meth c Q H locs cells slots ls C h2 h3 h1 x => ?_
        have he := ws_at (P := P) (h := (T, M)) hT
        by_cases h9 : k' < 12
        · rw [eC_i hg.1 h9] at he
          exact va_alen C.1 C.2.1 C.2.2.2.2.2.2.2.2.1.1 h2.2 a (k' - 9) he (ty_at P k' hg.1 hg.2) (i32_nat n) hd x
        · rw [eC_r (by omega)] at he
          exact va_alen C.1 C.2.1 C.2.2.2.2.2.2.2.2.1.1 h2.2 a (k' - 9) he (ty_at P k' hg.1 hg.2) (i32_nat n) hd x
      · cases e
    · cases e
  · rename_i j st0 hz
    simp only at hz
    subst hz
    split at e
    · rename_i hg
      cases e
      refine gos_st fun P p l e R s m args below meth c Q H locs cells slots ls C h2 h3 h1 x => ?_
      rcases hg with hg | hg
      · obtain ⟨b, hb, hT⟩ := c_ro C.2.2.2.2.2.2.2.2.1.2.2.2 hg
        refine W.eq (show _ = F0 m pc ls (.ref b :: st0.map (cV P)) by rw [← hb]; rfl) ?_
        exact va_tlen C.1 C.2.1 hT h3 (i32_nat _) hd x
      · obtain ⟨b, hb, hT⟩ := c_rb C.2.2.2.2.2.2.2.2.1.2.2.2 hg.1 hg.2
        refine W.eq (show _ = F0 m pc ls (.ref b :: st0.map (cV P)) by rw [← hb]; rfl) ?_
        exact va_tlen C.1 C.2.1 hT h3 (i32_nat _) hd x
    · cases e
  · cases e
theorem s_gstr {k i : Nat} (hd : decode K.2.2.1 pc = .ok (.getfield i, 3)) (hk : k < 2) (hw : Cond.fieldLink (clS K.1) i "java/lang/String" (if k = 0 then "value" else "coder") (if k = 0 then "[B" else "B") ∈ tG) : Seg S K pc (pc + 3) (x_gstr k) := by
  rintro ⟨st, L, T, M⟩ σ' e
  unfold x_gstr at e
  split at e
  · rename_i j st0 hz
    simp only at hz
    subst hz
    split at e
    · rename_i hg
      cases e
      refine gos_st fun P p l e R s m args below meth c Q H locs cells slots ls C h2 h3 h1 x => ?_
      obtain ⟨ad, h0, -, -, -, -, -, h6⟩ := C.2.2.2.2.2.2.2.2.1.2.2.2
      have hi : j - 3 < 8 := by omega
      obtain ⟨-, k1, k2, -⟩ := h6.1 (j - 3) hi
      have e3 : 3 + (j - 3) = j := by omega
      have e11 : 11 + (j - 3) = j + 8 := by omega
      simp only [e3, e11] at k1 k2
      have hb : cV P (vO j) = .ref (ad j) := by show va_rf (P.2.2.2 j) = _; rw [h0 j (by omega)]; rfl
      have hb8 : cV P (vO (j + 8)) = .ref (ad (j + 8)) := by show va_rf (P.2.2.2 (j + 8)) = _; rw [h0 (j + 8) (by omega)]; rfl
      refine W.eq (show _ = F0 m pc ls (.ref (ad j) :: st0.map (cV P)) by rw [← hb]; rfl) ?_
      have hk2 : k = 0 ∨ k = 1 := by omega
      rcases hk2 with rfl | rfl
      · refine vk_getf C.1 C.2.1 k2 h3 C.2.2.2.1 (C.2.2.2.2.1 _ hw) (fun _ h => h) hd ?_
        rw [← hb8]
        exact x
      · exact vk_getf C.1 C.2.1 k1 h3 C.2.2.2.1 (C.2.2.2.2.1 _ hw) (fun _ h => h) hd x
    · cases e
  · cases e
theorem s_gets_mt {i : Nat} (hd : decode K.2.2.1 pc = .ok (.getstatic i, 3)) (hw : Cond.fieldLink (clS K.1) i "LastAwake" "MOST_OF_TRAIT" "[I" ∈ tG) : Seg S K pc (pc + 3) (x_push (vO 1)) := by
  rintro ⟨st, L, h⟩ σ' e
  cases e
  refine gos_st fun P p l e R s m args below meth c Q H locs cells slots ls C h2 h3 h1 x => ?_
  obtain ⟨ad, h0, z1, z2, -, z4, z5, -⟩ := C.2.2.2.2.2.2.2.2.1.2.2.2
  refine va_gets C.1 C.2.1 z1 h3 C.2.2.2.1 (C.2.2.2.2.1 _ hw) (fun _ h => h) hd ?_
  have hb : cV P (vO 1) = .ref (ad 1) := by show va_rf (P.2.2.2 1) = _; rw [h0 1 (by omega)]; rfl
  rw [← hb]
  exact x
theorem s_gets_mtn {i : Nat} (hd : decode K.2.2.1 pc = .ok (.getstatic i, 3)) (hw : Cond.fieldLinkNest (clS K.1) i "LastAwake" "MOST_OF_TRAIT" "[I" "LastAwake" ∈ nW) : Seg S K pc (pc + 3) (x_push (vO 1)) := by
  rintro ⟨st, L, h⟩ σ' e
  cases e
  refine gos_st fun P p l e R s m args below meth c Q H locs cells slots ls C h2 h3 h1 x => ?_
  obtain ⟨ad, h0, z1, z2, -, z4, z5, -⟩ := C.2.2.2.2.2.2.2.2.1.2.2.2
  refine va_getsN C.1 C.2.1 z1 h3 C.2.2.2.1 ((C.2.2.2.2.2.2.2.2.1.2.1 _ hw).use rfl) (fun _ h => h) hd ?_
  have hb : cV P (vO 1) = .ref (ad 1) := by show va_rf (P.2.2.2 1) = _; rw [h0 1 (by omega)]; rfl
  rw [← hb]
  exact x
theorem s_gets_no {i : Nat} (hd : decode K.2.2.1 pc = .ok (.getstatic i, 3)) (hw : Cond.fieldLink (clS K.1) i "LastAwake$Script" "NUMBERS_OF" "[I" ∈ tG) : Seg S K pc (pc + 3) (x_push (vO 2)) := by
  rintro ⟨st, L, h⟩ σ' e
  cases e
  refine gos_st fun P p l e R s m args below meth c Q H locs cells slots ls C h2 h3 h1 x => ?_
  obtain ⟨ad, h0, z1, z2, -, z4, z5, -⟩ := C.2.2.2.2.2.2.2.2.1.2.2.2
  refine va_gets C.1 C.2.1 z2 h3 C.2.2.2.1 (C.2.2.2.2.1 _ hw) (fun _ h => h) hd ?_
  have hb : cV P (vO 2) = .ref (ad 2) := by show va_rf (P.2.2.2 2) = _; rw [h0 2 (by omega)]; rfl
  rw [← hb]
  exact x
theorem s_gets_cs {i : Nat} (hd : decode K.2.2.1 pc = .ok (.getstatic i, 3)) (hw : Cond.fieldLink (clS K.1) i "java/lang/String" "COMPACT_STRINGS" "Z" ∈ tG) : Seg S K pc (pc + 3) (x_push (vI 1)) := by
  rintro ⟨st, L, h⟩ σ' e
  cases e
  refine gos_st fun P p l e R s m args below meth c Q H locs cells slots ls C h2 h3 h1 x => ?_
  obtain ⟨ad, h0, z1, z2, -, z4, z5, -⟩ := C.2.2.2.2.2.2.2.2.1.2.2.2
  refine va_gets C.1 C.2.1 z4 h3 C.2.2.2.1 (C.2.2.2.2.1 _ hw) (fun _ h => h) hd ?_
  exact x
theorem s_gets_sf {i : Nat} (hd : decode K.2.2.1 pc = .ok (.getstatic i, 3)) (hw : Cond.fieldLink (clS K.1) i "jdk/internal/util/Preconditions" "SIOOBE_FORMATTER" "Ljava/util/function/BiFunction;" ∈ tG) : Seg S K pc (pc + 3) (x_push (vO 19)) := by
  rintro ⟨st, L, h⟩ σ' e
  cases e
  refine gos_st fun P p l e R s m args below meth c Q H locs cells slots ls C h2 h3 h1 x => ?_
  obtain ⟨ad, h0, z1, z2, -, z4, z5, -⟩ := C.2.2.2.2.2.2.2.2.1.2.2.2
  refine va_gets C.1 C.2.1 z5 h3 C.2.2.2.1 (C.2.2.2.2.1 _ hw) (fun _ h => h) hd ?_
  exact x
theorem s_ldcS {i idx : Nat} {tx : String} (hd : decode K.2.2.1 pc = .ok (.ldc idx, 2)) (hK : clS K.1 = RX4) (hi : sIdx[i]? = some (idx, tx)) : Seg S K pc (pc + 2) (x_push (vO (3 + i))) := by
  rintro ⟨st, L, h⟩ σ' e
  cases e
  refine gos_st fun P p l e R s m args below meth c Q H locs cells slots ls C h2 h3 h1 x => ?_
  obtain ⟨a, g1, g2⟩ := C.2.2.2.2.2.2.2.2.1.2.2.1 i _ hi
  refine va_ldcS C.1 C.2.1 (hK ▸ C.2.2.2.1) g2 hd ?_
  have hb : cV P (vO (3 + i)) = .ref a := by show va_rf (P.2.2.2 (3 + i)) = _; rw [g1]; rfl
  rw [← hb]
  exact x
theorem df_ok (P : Par) : ∀ c, c < 9 → ∀ k, k < clN c → defaultValue (clY c k) = vp_V ((List.range (clN c)).map (fV P c (fun _ => 0) nor)) k := by
  intro c hc k hk
  have hY := kY_ok c hc k hk
  unfold vp_V
  rw [List.getD_eq_getElem?_getD, fs_at hk]
  show _ = fV P c (fun _ => 0) nor k
  have h9 : fT c k < 4 := by rw [fT_ok c hc k hk]; exact ftc_lt _
  cases hy : clY c k with
  | int => rw [hy] at hY; rw [fV_0 (by rw [← hY]; decide) (by rw [← hY]; decide)]; rfl
  | boolean => rw [hy] at hY; rw [fV_0 (by rw [← hY]; decide) (by rw [← hY]; decide)]; rfl
  | long => rw [hy] at hY; rw [fV_1 hY.symm]; rfl
  | object _ => rw [hy] at hY; rw [fV_2 hY.symm]; rfl
  | array _ => rw [hy] at hY; rw [fV_2 hY.symm]; rfl
  | _ => rw [hy] at hY; have hY : 9 = fT c k := hY; omega
theorem s_new {c i : Nat} (hd : decode K.2.2.1 pc = .ok (.new i, 3)) (hc : c < 9) (hw : Cond.classLink (clS K.1) i (clS c) ∈ tG) (hi : Cond.instantiable (clS c) (clN c) ∈ tG) (hn : Cond.initialized (clS c) ∈ tG) : Seg S K pc (pc + 3) (x_new c) := by
  rintro ⟨st, L, T, M⟩ σ' e
  cases e
  refine gos_nw (c, clN c, nor) (fun P p l e R s m args below meth c9 Q H locs cells slots ls C h2 h3 h1 hcl hsl x => ?_)
  rw [eC_o hc] at x
  exact va_new C.1 C.2.1 C.2.2.2.2.1 (cl_tG hc) (clY c) (cl_ty c hc) C.2.2.2.1 (C.2.2.2.2.1 _ hw) (C.2.2.2.2.1 _ hi) (C.2.2.2.2.1 _ hn) C.2.2.2.2.2.2.2.2.1.1 h2.2 (ws_D P (T, M)) h3 (fun q hq => Nat.le_trans C.2.2.2.2.2.2.2.2.2.1 hq) (cl_at c hc) (df_ok P c hc) hcl hsl hd x
theorem i32_nn {z : Int} (h : 0 ≤ n32 z) : ¬ Int32.ofInt z < 0 := by
  rw [i32_0, i32_lt, n32_0]
  omega
theorem s_newa_i (hd : decode K.2.2.1 pc = .ok (.newarray .int, 2)) (hw : Cond.arrayClass .int ∈ tG) : Seg S K pc (pc + 2) (x_newa 9) := by
  rintro ⟨st, L, T, M⟩ σ' e
  unfold x_newa at e
  split at e
  · rename_i z st0 hz
    simp only at hz
    subst hz
    split at e
    · rename_i hg
      obtain ⟨-, g1, g2⟩ := hg
      cases e
      refine gos_nw (9, (n32 z).toNat, nor) (fun P p l e R s m args below meth c Q H locs cells slots ls C h2 h3 h1 hcl hsl x => ?_)
      rw [eC_i (by omega) (by omega)] at x
      refine va_newa C.1 C.2.1 (atype := .int) (ty := .int) (C.2.2.2.2.1 _ hw) rfl C.2.2.2.2.2.2.2.2.1.1 h2.2 (ws_D P (T, M)) h3 (fun q hq => Nat.le_trans C.2.2.2.2.2.2.2.2.2.1 hq) (a0 := ((n32 z).toNat, .inl (fun _ => 0))) (fun _ => rfl) (i32_nn g1) (i32_clamp z) (by show (n32 z).toNat * 4 ≤ 536870912; omega) hcl hsl hd (fun q cA H1 y0 y1 y2 y3 => ?_)
      have c1 : s.vm.findClass ("[" ++ (FieldType.int).toString) = some cA := (y0.2 6 _ rfl).2
      have c2 : s.vm.findClass ("[" ++ (FieldType.int).toString) = some (P.2.2.1 9) := (C.2.2.2.2.2.2.2.2.1.1.2 0 _ rfl).2
      have c3 : cA = P.2.2.1 9 := Option.some.inj (c1.symm.trans c2)
      subst c3
      exact x q H1 y1 y2 y3
    · cases e
  · cases e
theorem s_newa_b (hd : decode K.2.2.1 pc = .ok (.newarray .byte, 2)) (hw : Cond.arrayClass .byte ∈ tG) : Seg S K pc (pc + 2) (x_newa 10) := by
  rintro ⟨st, L, T, M⟩ σ' e
  unfold x_newa at e
  split at e
  · rename_i z st0 hz
    simp only at hz
    subst hz
    split at e
    · rename_i hg
      obtain ⟨-, g1, g2⟩ := hg
      cases e
      refine gos_nw (10, (n32 z).toNat, nor) (fun P p l e R s m args below meth c Q H locs cells slots ls C h2 h3 h1 hcl hsl x => ?_)
      rw [eC_i (by omega) (by omega)] at x
      refine va_newa C.1 C.2.1 (atype := .byte) (ty := .byte) (C.2.2.2.2.1 _ hw) rfl C.2.2.2.2.2.2.2.2.1.1 h2.2 (ws_D P (T, M)) h3 (fun q hq => Nat.le_trans C.2.2.2.2.2.2.2.2.2.1 hq) (a0 := ((n32 z).toNat, .inl (fun _ => 0))) (fun _ => rfl) (i32_nn g1) (i32_clamp z) (by show (n32 z).toNat * 1 ≤ 536870912; omega) hcl hsl hd (fun q cA H1 y0 y1 y2 y3 => ?_)
      have c1 : s.vm.findClass ("[" ++ (FieldType.byte).toString) = some cA := (y0.2 6 _ rfl).2
      have c2 : s.vm.findClass ("[" ++ (FieldType.byte).toString) = some (P.2.2.1 10) := (C.2.2.2.2.2.2.2.2.1.1.2 1 _ rfl).2
      have c3 : cA = P.2.2.1 10 := Option.some.inj (c1.symm.trans c2)
      subst c3
      exact x q H1 y1 y2 y3
    · cases e
  · cases e
theorem s_newa_z (hd : decode K.2.2.1 pc = .ok (.newarray .boolean, 2)) (hw : Cond.arrayClass .boolean ∈ tG) : Seg S K pc (pc + 2) (x_newa 11) := by
  rintro ⟨st, L, T, M⟩ σ' e
  unfold x_newa at e
  split at e
  · rename_i z st0 hz
    simp only at hz
    subst hz
    split at e
    · rename_i hg
      obtain ⟨-, g1, g2⟩ := hg
      cases e
      refine gos_nw (11, (n32 z).toNat, nor) (fun P p l e R s m args below meth c Q H locs cells slots ls C h2 h3 h1 hcl hsl x => ?_)
      rw [eC_i (by omega) (by omega)] at x
      refine va_newa C.1 C.2.1 (atype := .boolean) (ty := .boolean) (C.2.2.2.2.1 _ hw) rfl C.2.2.2.2.2.2.2.2.1.1 h2.2 (ws_D P (T, M)) h3 (fun q hq => Nat.le_trans C.2.2.2.2.2.2.2.2.2.1 hq) (a0 := ((n32 z).toNat, .inl (fun _ => 0))) (fun _ => rfl) (i32_nn g1) (i32_clamp z) (by show (n32 z).toNat * 1 ≤ 536870912; omega) hcl hsl hd (fun q cA H1 y0 y1 y2 y3 => ?_)
      have c1 : s.vm.findClass ("[" ++ (FieldType.boolean).toString) = some cA := (y0.2 6 _ rfl).2
      have c2 : s.vm.findClass ("[" ++ (FieldType.boolean).toString) = some (P.2.2.1 11) := (C.2.2.2.2.2.2.2.2.1.1.2 2 _ rfl).2
      have c3 : cA = P.2.2.1 11 := Option.some.inj (c1.symm.trans c2)
      subst c3
      exact x q H1 y1 y2 y3
    · cases e
  · cases e
theorem s_anew_sl {i : Nat} (hd : decode K.2.2.1 pc = .ok (.anewarray i, 3)) (hw : Cond.classLink (clS K.1) i RX5 ∈ tG) (hw2 : Cond.arrayOver (.object RX5) ∈ nW) : Seg S K pc (pc + 3) (x_newa 12) := by
  rintro ⟨st, L, T, M⟩ σ' e
  unfold x_newa at e
  split at e
  · rename_i z st0 hz
    simp only at hz
    subst hz
    split at e
    · rename_i hg
      obtain ⟨-, g1, g2⟩ := hg
      cases e
      refine gos_nw (12, (n32 z).toNat, nor) (fun P p l e R s m args below meth c Q H locs cells slots ls C h2 h3 h1 hcl hsl x => ?_)
      rw [eC_r (by omega)] at x
      refine va_newq C.1 C.2.1 C.2.2.2.1 (C.2.2.2.2.1 _ hw) (C.2.2.2.2.2.2.2.2.1.2.1 _ hw2) C.2.2.2.2.2.2.2.2.1.1 h2.2 (ws_D P (T, M)) h3 (fun q hq => Nat.le_trans C.2.2.2.2.2.2.2.2.2.1 hq) (i32_nn g1) (i32_clamp z) (by omega) hcl hsl hd (fun q cA H1 y0 y1 y2 y3 => ?_)
      have c1 : s.vm.findClass ("[" ++ (FieldType.object RX5).toString) = some cA := by
        obtain ⟨_, _, _, _, _, h⟩ := (y0.2 6 _ rfl).2
        exact h
      have c2 : s.vm.findClass ("[" ++ (FieldType.object RX5).toString) = some (P.2.2.1 12) := by
        obtain ⟨_, _, _, _, _, h⟩ := (C.2.2.2.2.2.2.2.2.1.1.2 3 _ rfl).2
        exact h
      have c3 : cA = P.2.2.1 12 := Option.some.inj (c1.symm.trans c2)
      subst c3
      exact x q H1 y1 y2 y3
    · cases e
  · cases e
theorem s_anew_st {i : Nat} (hd : decode K.2.2.1 pc = .ok (.anewarray i, 3)) (hw : Cond.classLink (clS K.1) i RX6 ∈ tG) (hw2 : Cond.arrayOver (.object RX6) ∈ nW) : Seg S K pc (pc + 3) (x_newa 13) := by
  rintro ⟨st, L, T, M⟩ σ' e
  unfold x_newa at e
  split at e
  · rename_i z st0 hz
    simp only at hz
    subst hz
    split at e
    · rename_i hg
      obtain ⟨-, g1, g2⟩ := hg
      cases e
      refine gos_nw (13, (n32 z).toNat, nor) (fun P p l e R s m args below meth c Q H locs cells slots ls C h2 h3 h1 hcl hsl x => ?_)
      rw [eC_r (by omega)] at x
      refine va_newq C.1 C.2.1 C.2.2.2.1 (C.2.2.2.2.1 _ hw) (C.2.2.2.2.2.2.2.2.1.2.1 _ hw2) C.2.2.2.2.2.2.2.2.1.1 h2.2 (ws_D P (T, M)) h3 (fun q hq => Nat.le_trans C.2.2.2.2.2.2.2.2.2.1 hq) (i32_nn g1) (i32_clamp z) (by omega) hcl hsl hd (fun q cA H1 y0 y1 y2 y3 => ?_)
      have c1 : s.vm.findClass ("[" ++ (FieldType.object RX6).toString) = some cA := by
        obtain ⟨_, _, _, _, _, h⟩ := (y0.2 6 _ rfl).2
        exact h
      have c2 : s.vm.findClass ("[" ++ (FieldType.object RX6).toString) = some (P.2.2.1 13) := by
        obtain ⟨_, _, _, _, _, h⟩ := (C.2.2.2.2.2.2.2.2.1.1.2 4 _ rfl).2
        exact h
      have c3 : cA = P.2.2.1 13 := Option.some.inj (c1.symm.trans c2)
      subst c3
      exact x q H1 y1 y2 y3
    · cases e
  · cases e
end Ops4
