/-! STORES, ARITHMETIC, JUMPS -/
def lvO (P : Par) (L : List (Option AV)) : List (Nat × Value) := (List.range L.length).filterMap (fun k => (L[k]?.join).map (fun v => (k, cV P v)))
theorem lvO_mem {P : Par} {L : List (Option AV)} {q : Nat × Value} : q ∈ lvO P L ↔ ∃ v, L[q.1]? = some (some v) ∧ q.2 = cV P v := by
  unfold lvO
  rw [List.mem_filterMap]
  constructor
  · rintro ⟨k, hk, h⟩
    cases e : L[k]? with
    | none => rw [e] at h; cases h
    | some o =>
      cases o with
      | none => rw [e] at h; cases h
      | some v =>
        rw [e] at h
        cases h
        exact ⟨v, e, rfl⟩
  · rintro ⟨v, h1, h2⟩
    refine ⟨q.1, List.mem_range.mpr (List.getElem?_eq_some_iff.mp h1).1, ?_⟩
    rw [h1]
    show some (q.1, cV P v) = some q
    rw [← h2]
theorem lR_has {P : Par} {nL : Nat} {L : List (Option AV)} {ls : Array Slot} (h : lR P nL L ls) : lv_has ls nL (lvO P L) := by
  refine ⟨h.2.1, h.2.2.1, fun q hq => ?_⟩
  obtain ⟨v, h1, h2⟩ := lvO_mem.mp hq
  rw [h2]
  exact h.2.2.2 _ _ h1
theorem cat1_c {P : Par} {v : AV} : (cV P v).category = 2 ↔ cat1 v = false := by
  rcases v with z | z | z
  · simp [cV, Value.category, cat1]
  · simp [cV, Value.category, cat1]
  · rcases rf_or P z with ⟨a, h⟩ | h
    · rw [h]; rcases z with z | z | z <;> simp [Value.category, cat1]
    · rw [h]; rcases z with z | z | z <;> simp [Value.category, cat1]
theorem clr_len (L : List (Option AV)) (k : Nat) : (clr L k).length = L.length := by
  unfold clr
  split
  · rfl
  · split
    · rw [List.length_set]
    · rfl
theorem clr_get {L : List (Option AV)} {i k : Nat} {v : AV} (h : (clr L i)[k]? = some (some v)) : L[k]? = some (some v) ∧ (k + 1 = i → cat1 v = true) := by
  unfold clr at h
  split at h
  · exact ⟨h, fun q => by omega⟩
  · rename_i j
    split at h
    · rename_i z hz
      rw [List.getElem?_set] at h
      split at h
      · split at h <;> cases h
      · rename_i hne
        exact ⟨h, fun q => by omega⟩
    · rename_i hno
      refine ⟨h, fun q => ?_⟩
      have hk : k = j := by omega
      subst hk
      rcases v with z | z | z
      · rfl
      · exact absurd h (hno z)
      · rfl
theorem lR_st1 {P : Par} {nL i : Nat} {L : List (Option AV)} {v : AV} {ls ls' : Array Slot} (h : lR P nL L ls) (h' : lv_has ls' nL ((i, cV P v) :: (lvO P L).filter (fun q => !(q.1 == i) && !(q.1 + 1 == i && q.2.category == 2)))) : lR P nL (st1 L i v) ls' := by
  refine ⟨by unfold st1; rw [List.length_set, clr_len]; exact h.1, h'.1, h'.2.1, fun k w hw => ?_⟩
  unfold st1 at hw
  rw [List.getElem?_set] at hw
  split at hw
  · rename_i hki
    subst hki
    split at hw
    · cases hw
      exact h'.2.2 (i, cV P v) List.mem_cons_self
    · cases hw
  · rename_i hne
    obtain ⟨g1, g2⟩ := clr_get hw
    refine h'.2.2 (k, cV P w) (List.mem_cons_of_mem _ (List.mem_filter.mpr ⟨lvO_mem.mpr ⟨w, g1, rfl⟩, ?_⟩))
    have a1 : (k == i) = false := by simpa using fun q => hne q.symm
    have a2 : (k + 1 == i && (cV P w).category == 2) = false := by
      by_cases q : k + 1 = i
      · have := g2 q
        have : ¬ (cV P w).category = 2 := fun z => by rw [cat1_c.mp z] at this; cases this
        simp [this]
      · simp [q]
    show (!(k == i) && !(k + 1 == i && (cV P w).category == 2)) = true
    rw [a1, a2]
    rfl
theorem lR_st2 {P : Par} {nL i : Nat} {L : List (Option AV)} {v : AV} {ls ls' : Array Slot} (h : lR P nL L ls) (h' : lv_has ls' nL ((i, cV P v) :: (lvO P L).filter (fun q => !(q.1 == i) && (!(q.1 == i + 1) && !(q.1 + 1 == i && q.2.category == 2))))) : lR P nL (st2 L i v) ls' := by
  refine ⟨by unfold st2; rw [List.length_set, List.length_set, clr_len]; exact h.1, h'.1, h'.2.1, fun k w hw => ?_⟩
  unfold st2 at hw
  rw [List.getElem?_set] at hw
  split at hw
  · split at hw <;> cases hw
  · rename_i hne1
    rw [List.getElem?_set] at hw
    split at hw
    · rename_i hki
      subst hki
      split at hw
      · cases hw
        exact h'.2.2 (i, cV P v) List.mem_cons_self
      · cases hw
    · rename_i hne
      obtain ⟨g1, g2⟩ := clr_get hw
      refine h'.2.2 (k, cV P w) (List.mem_cons_of_mem _ (List.mem_filter.mpr ⟨lvO_mem.mpr ⟨w, g1, rfl⟩, ?_⟩))
      have a1 : (k == i) = false := by simpa using fun q => hne q.symm
      have a3 : (k == i + 1) = false := by simpa using fun q => hne1 q.symm
      have a2 : (k + 1 == i && (cV P w).category == 2) = false := by
        by_cases q : k + 1 = i
        · have := g2 q
          have : ¬ (cV P w).category = 2 := fun z => by rw [cat1_c.mp z] at this; cases this
          simp [this]
        · simp [q]
      show (!(k == i) && (!(k == i + 1) && !(k + 1 == i && (cV P w).category == 2))) = true
      rw [a1, a2, a3]
      rfl
theorem cat1_k {P : Par} {v : AV} (h : cat1 v = true) : (cV P v).category = 1 := by
  have h2 : ¬ (cV P v).category = 2 := fun q => by rw [cat1_c.mp q] at h; cases h
  cases hv : cV P v <;> rw [hv] at h2 <;> first | rfl | exact absurd rfl h2
theorem cj1_eq {z : Int} : c1 0 (n32 z) = true ↔ Int32.ofInt z = 0 := by
  unfold c1
  rw [i32_0]
  simp only [decide_eq_true_eq, i32_eq, i32_lt, i32_le, n32_0, ne_eq]
theorem cj2_eq {x y : Int} : c2 0 (n32 x) (n32 y) = true ↔ Int32.ofInt x = Int32.ofInt y := by
  unfold c2
  simp only [decide_eq_true_eq, i32_eq, i32_lt, i32_le, ne_eq]
theorem cj1_ne {z : Int} : c1 1 (n32 z) = true ↔ ¬ Int32.ofInt z = 0 := by
  unfold c1
  rw [i32_0]
  simp only [decide_eq_true_eq, i32_eq, i32_lt, i32_le, n32_0, ne_eq]
theorem cj2_ne {x y : Int} : c2 1 (n32 x) (n32 y) = true ↔ ¬ Int32.ofInt x = Int32.ofInt y := by
  unfold c2
  simp only [decide_eq_true_eq, i32_eq, i32_lt, i32_le, ne_eq]
theorem cj1_lt {z : Int} : c1 2 (n32 z) = true ↔ Int32.ofInt z < 0 := by
  unfold c1
  rw [i32_0]
  simp only [decide_eq_true_eq, i32_eq, i32_lt, i32_le, n32_0, ne_eq]
theorem cj2_lt {x y : Int} : c2 2 (n32 x) (n32 y) = true ↔ Int32.ofInt x < Int32.ofInt y := by
  unfold c2
  simp only [decide_eq_true_eq, i32_eq, i32_lt, i32_le, ne_eq]
theorem cj1_ge {z : Int} : c1 3 (n32 z) = true ↔ 0 ≤ Int32.ofInt z := by
  unfold c1
  rw [i32_0]
  simp only [decide_eq_true_eq, i32_eq, i32_lt, i32_le, n32_0, ne_eq]
theorem cj2_ge {x y : Int} : c2 3 (n32 x) (n32 y) = true ↔ Int32.ofInt y ≤ Int32.ofInt x := by
  unfold c2
  simp only [decide_eq_true_eq, i32_eq, i32_lt, i32_le, ne_eq]
theorem cj1_gt {z : Int} : c1 4 (n32 z) = true ↔ 0 < Int32.ofInt z := by
  unfold c1
  rw [i32_0]
  simp only [decide_eq_true_eq, i32_eq, i32_lt, i32_le, n32_0, ne_eq]
theorem cj2_gt {x y : Int} : c2 4 (n32 x) (n32 y) = true ↔ Int32.ofInt y < Int32.ofInt x := by
  unfold c2
  simp only [decide_eq_true_eq, i32_eq, i32_lt, i32_le, ne_eq]
theorem cj1_le {z : Int} : c1 5 (n32 z) = true ↔ Int32.ofInt z ≤ 0 := by
  unfold c1
  rw [i32_0]
  simp only [decide_eq_true_eq, i32_eq, i32_lt, i32_le, n32_0, ne_eq]
theorem cj2_le {x y : Int} : c2 5 (n32 x) (n32 y) = true ↔ Int32.ofInt x ≤ Int32.ofInt y := by
  unfold c2
  simp only [decide_eq_true_eq, i32_eq, i32_lt, i32_le, ne_eq]
section Ops2
variable {S : List Int} {K : Mt} {pc : Nat}
theorem s_istore {i : Nat} (hd : decode K.2.2.1 pc = .ok (.istore i, 2)) : Seg S K pc (pc + 2) (x_ist i) := by
  rintro ⟨st, L, h⟩ σ' e
  unfold x_ist at e
  split at e
  · rename_i z st0 hz
    simp only at hz
    subst hz
    split at e
    · rename_i hlt
      cases e
      refine gos_same fun P p l e R s m args below meth c Q H locs cells slots ls C h2 h3 h1 a => ?_
      exact lv_istore C.1 C.2.1 hd (lR_has h1) (by rw [← h1.1]; exact hlt) rfl (fun ls' h' => a ls' (lR_st1 (v := .inl z) h1 h'))
    · cases e
  · cases e
theorem s_istore_n {k : Fin 4} {i : Nat} (hd : decode K.2.2.1 pc = .ok (.istore_n k, 1)) (hi : (k : Nat) = i) : Seg S K pc (pc + 1) (x_ist i) := by
  rintro ⟨st, L, h⟩ σ' e
  unfold x_ist at e
  split at e
  · rename_i z st0 hz
    simp only at hz
    subst hz
    split at e
    · rename_i hlt
      cases e
      refine gos_same fun P p l e R s m args below meth c Q H locs cells slots ls C h2 h3 h1 a => ?_
      exact lv_istore_n C.1 C.2.1 hd hi (lR_has h1) (by rw [← h1.1]; exact hlt) rfl (fun ls' h' => a ls' (lR_st1 (v := .inl z) h1 h'))
    · cases e
  · cases e
theorem s_lstore {i : Nat} (hd : decode K.2.2.1 pc = .ok (.lstore i, 2)) : Seg S K pc (pc + 2) (x_lst i) := by
  rintro ⟨st, L, h⟩ σ' e
  unfold x_lst at e
  split at e
  · rename_i z st0 hz
    simp only at hz
    subst hz
    split at e
    · rename_i hlt
      cases e
      refine gos_same fun P p l e R s m args below meth c Q H locs cells slots ls C h2 h3 h1 a => ?_
      exact lv_lstore C.1 C.2.1 hd (lR_has h1) (by rw [← h1.1]; exact hlt) rfl (fun ls' h' => a ls' (lR_st2 (v := .inr (.inl z)) h1 h'))
    · cases e
  · cases e
theorem s_lstore_n {k : Fin 4} {i : Nat} (hd : decode K.2.2.1 pc = .ok (.lstore_n k, 1)) (hi : (k : Nat) = i) : Seg S K pc (pc + 1) (x_lst i) := by
  rintro ⟨st, L, h⟩ σ' e
  unfold x_lst at e
  split at e
  · rename_i z st0 hz
    simp only at hz
    subst hz
    split at e
    · rename_i hlt
      cases e
      refine gos_same fun P p l e R s m args below meth c Q H locs cells slots ls C h2 h3 h1 a => ?_
      exact lv_lstore_n C.1 C.2.1 hd hi (lR_has h1) (by rw [← h1.1]; exact hlt) rfl (fun ls' h' => a ls' (lR_st2 (v := .inr (.inl z)) h1 h'))
    · cases e
  · cases e
theorem s_astore {i : Nat} (hd : decode K.2.2.1 pc = .ok (.astore i, 2)) : Seg S K pc (pc + 2) (x_ast i) := by
  rintro ⟨st, L, h⟩ σ' e
  unfold x_ast at e
  split at e
  · rename_i z st0 hz
    simp only at hz
    subst hz
    split at e
    · rename_i hlt
      cases e
      refine gos_same fun P p l e R s m args below meth c Q H locs cells slots ls C h2 h3 h1 a => ?_
      rcases rf_or P z with ⟨b, hb⟩ | hb
      · refine W.eq (show _ = F0 m pc ls (.ref b :: st0.map (cV P)) by rw [← hb]; rfl) ?_
        exact lv_astore C.1 C.2.1 hd (lR_has h1) (by rw [← h1.1]; exact hlt) rfl (fun ls' h' => a ls' (lR_st1 (v := .inr (.inr z)) h1 (by rw [hb]; exact h')))
      · refine W.eq (show _ = F0 m pc ls (.null :: st0.map (cV P)) by rw [← hb]; rfl) ?_
        exact lv_astoreN C.1 C.2.1 hd (lR_has h1) (by rw [← h1.1]; exact hlt) rfl (fun ls' h' => a ls' (lR_st1 (v := .inr (.inr z)) h1 (by rw [hb]; exact h')))
    · cases e
  · cases e
theorem s_astore_n {k : Fin 4} {i : Nat} (hd : decode K.2.2.1 pc = .ok (.astore_n k, 1)) (hi : (k : Nat) = i) : Seg S K pc (pc + 1) (x_ast i) := by
  rintro ⟨st, L, h⟩ σ' e
  unfold x_ast at e
  split at e
  · rename_i z st0 hz
    simp only at hz
    subst hz
    split at e
    · rename_i hlt
      cases e
      refine gos_same fun P p l e R s m args below meth c Q H locs cells slots ls C h2 h3 h1 a => ?_
      rcases rf_or P z with ⟨b, hb⟩ | hb
      · refine W.eq (show _ = F0 m pc ls (.ref b :: st0.map (cV P)) by rw [← hb]; rfl) ?_
        exact lv_astore_n C.1 C.2.1 hd hi (lR_has h1) (by rw [← h1.1]; exact hlt) rfl (fun ls' h' => a ls' (lR_st1 (v := .inr (.inr z)) h1 (by rw [hb]; exact h')))
      · refine W.eq (show _ = F0 m pc ls (.null :: st0.map (cV P)) by rw [← hb]; rfl) ?_
        exact lv_astore_nN C.1 C.2.1 hd hi (lR_has h1) (by rw [← h1.1]; exact hlt) rfl (fun ls' h' => a ls' (lR_st1 (v := .inr (.inr z)) h1 (by rw [hb]; exact h')))
    · cases e
  · cases e
theorem s_iinc {i : Nat} {n : Int} (hd : decode K.2.2.1 pc = .ok (.iinc i n, 3)) : Seg S K pc (pc + 3) (x_inc i n) := by
  rintro ⟨st, L, h⟩ σ' e
  unfold x_inc at e
  split at e
  · rename_i z hz
    simp only at hz
    cases e
    refine gos_same fun P p l e R s m args below meth c Q H locs cells slots ls C h2 h3 h1 a => ?_
    have hm : (i, Value.int (Int32.ofInt z)) ∈ lvO P L := lvO_mem.mpr ⟨.inl z, hz, rfl⟩
    obtain ⟨k, hk⟩ := List.getElem?_of_mem hm
    have hlt : i < K.2.2.2.1 := by rw [← h1.1]; exact (List.getElem?_eq_some_iff.mp hz).1
    exact lv_iinc C.1 C.2.1 hd (lR_has h1) hk (v := Int32.ofInt (z + n)) (by rw [Int32.ofInt_add]) hlt rfl (fun ls' h' => a ls' (lR_st1 (v := .inl (z + n)) h1 h'))
  · cases e
theorem s_iadd (hd : decode K.2.2.1 pc = .ok (.iadd, 1)) : Seg S K pc (pc + 1) (x_ii (fun x y => x + y)) := by
  rintro ⟨st, L, h⟩ σ' e
  unfold x_ii at e
  split at e
  · rename_i y x st0 hz
    simp only at hz
    subst hz
    cases e
    refine gos_st fun P p l e R s m args below meth c Q H locs cells slots ls C h2 h3 h1 a => ?_
    exact lv_iadd C.1 C.2.1 hd (by rw [← Int32.ofInt_add]; exact a)
  · cases e
theorem s_isub (hd : decode K.2.2.1 pc = .ok (.isub, 1)) : Seg S K pc (pc + 1) (x_ii (fun x y => x - y)) := by
  rintro ⟨st, L, h⟩ σ' e
  unfold x_ii at e
  split at e
  · rename_i y x st0 hz
    simp only at hz
    subst hz
    cases e
    refine gos_st fun P p l e R s m args below meth c Q H locs cells slots ls C h2 h3 h1 a => ?_
    exact lv_isub C.1 C.2.1 hd (by rw [← Int32.ofInt_sub]; exact a)
  · cases e
theorem s_imul (hd : decode K.2.2.1 pc = .ok (.imul, 1)) : Seg S K pc (pc + 1) (x_ii (fun x y => x * y)) := by
  rintro ⟨st, L, h⟩ σ' e
  unfold x_ii at e
  split at e
  · rename_i y x st0 hz
    simp only at hz
    subst hz
    cases e
    refine gos_st fun P p l e R s m args below meth c Q H locs cells slots ls C h2 h3 h1 a => ?_
    exact lv_imul C.1 C.2.1 hd (by rw [← Int32.ofInt_mul]; exact a)
  · cases e
theorem s_ishl (hd : decode K.2.2.1 pc = .ok (.ishl, 1)) : Seg S K pc (pc + 1) (x_ii o_shl) := by
  rintro ⟨st, L, h⟩ σ' e
  unfold x_ii at e
  split at e
  · rename_i y x st0 hz
    simp only at hz
    subst hz
    cases e
    refine gos_st fun P p l e R s m args below meth c Q H locs cells slots ls C h2 h3 h1 a => ?_
    exact lv_ishl C.1 C.2.1 hd (by rw [← Int32.ofInt_toInt (Int32.ofInt x <<< (Int32.ofInt y &&& 31))]; exact a)
  · cases e
theorem s_ishr (hd : decode K.2.2.1 pc = .ok (.ishr, 1)) : Seg S K pc (pc + 1) (x_ii o_shr) := by
  rintro ⟨st, L, h⟩ σ' e
  unfold x_ii at e
  split at e
  · rename_i y x st0 hz
    simp only at hz
    subst hz
    cases e
    refine gos_st fun P p l e R s m args below meth c Q H locs cells slots ls C h2 h3 h1 a => ?_
    exact lv_ishr C.1 C.2.1 hd (by rw [← Int32.ofInt_toInt (Int32.ofInt x >>> (Int32.ofInt y &&& 31))]; exact a)
  · cases e
theorem s_iand (hd : decode K.2.2.1 pc = .ok (.iand, 1)) : Seg S K pc (pc + 1) (x_ii o_and) := by
  rintro ⟨st, L, h⟩ σ' e
  unfold x_ii at e
  split at e
  · rename_i y x st0 hz
    simp only at hz
    subst hz
    cases e
    refine gos_st fun P p l e R s m args below meth c Q H locs cells slots ls C h2 h3 h1 a => ?_
    exact lv_iand C.1 C.2.1 hd (by rw [← Int32.ofInt_toInt (Int32.ofInt x &&& Int32.ofInt y)]; exact a)
  · cases e
theorem s_ior (hd : decode K.2.2.1 pc = .ok (.ior, 1)) : Seg S K pc (pc + 1) (x_ii o_or) := by
  rintro ⟨st, L, h⟩ σ' e
  unfold x_ii at e
  split at e
  · rename_i y x st0 hz
    simp only at hz
    subst hz
    cases e
    refine gos_st fun P p l e R s m args below meth c Q H locs cells slots ls C h2 h3 h1 a => ?_
    exact lv_ior C.1 C.2.1 hd (by rw [← Int32.ofInt_toInt (Int32.ofInt x ||| Int32.ofInt y)]; exact a)
  · cases e
theorem s_iushr (hd : decode K.2.2.1 pc = .ok (.iushr, 1)) : Seg S K pc (pc + 1) (x_ii o_ushr) := by
  rintro ⟨st, L, h⟩ σ' e
  unfold x_ii at e
  split at e
  · rename_i y x st0 hz
    simp only at hz
    subst hz
    cases e
    refine gos_st fun P p l e R s m args below meth c Q H locs cells slots ls C h2 h3 h1 a => ?_
    exact lv_iushr C.1 C.2.1 hd (Int32.ofInt_toInt _).symm a
  · cases e
theorem s_ladd (hd : decode K.2.2.1 pc = .ok (.ladd, 1)) : Seg S K pc (pc + 1) (x_ll (fun x y => x + y)) := by
  rintro ⟨st, L, h⟩ σ' e
  unfold x_ll at e
  split at e
  · rename_i y x st0 hz
    simp only at hz
    subst hz
    cases e
    refine gos_st fun P p l e R s m args below meth c Q H locs cells slots ls C h2 h3 h1 a => ?_
    exact lv_ladd C.1 C.2.1 hd (by rw [← Int64.ofInt_add]; exact a)
  · cases e
theorem s_lsub (hd : decode K.2.2.1 pc = .ok (.lsub, 1)) : Seg S K pc (pc + 1) (x_ll (fun x y => x - y)) := by
  rintro ⟨st, L, h⟩ σ' e
  unfold x_ll at e
  split at e
  · rename_i y x st0 hz
    simp only at hz
    subst hz
    cases e
    refine gos_st fun P p l e R s m args below meth c Q H locs cells slots ls C h2 h3 h1 a => ?_
    exact lv_lsub C.1 C.2.1 hd (by rw [← Int64.ofInt_sub]; exact a)
  · cases e
theorem s_lmul (hd : decode K.2.2.1 pc = .ok (.lmul, 1)) : Seg S K pc (pc + 1) (x_ll (fun x y => x * y)) := by
  rintro ⟨st, L, h⟩ σ' e
  unfold x_ll at e
  split at e
  · rename_i y x st0 hz
    simp only at hz
    subst hz
    cases e
    refine gos_st fun P p l e R s m args below meth c Q H locs cells slots ls C h2 h3 h1 a => ?_
    exact lv_lmul C.1 C.2.1 hd (by rw [← Int64.ofInt_mul]; exact a)
  · cases e
theorem s_lcmp (hd : decode K.2.2.1 pc = .ok (.lcmp, 1)) : Seg S K pc (pc + 1) (x_lcmp) := by
  rintro ⟨st, L, h⟩ σ' e
  unfold x_lcmp at e
  split at e
  · rename_i y x st0 hz
    simp only at hz
    subst hz
    cases e
    refine gos_st fun P p l e R s m args below meth c Q H locs cells slots ls C h2 h3 h1 a => ?_
    exact W.lcmp C.1 C.2.1 hd (by rw [i64_cmp]; exact a)
  · cases e
theorem s_idiv (hd : decode K.2.2.1 pc = .ok (.idiv, 1)) : Seg S K pc (pc + 1) (x_id Int.tdiv) := by
  rintro ⟨st, L, h⟩ σ' e
  unfold x_id at e
  split at e
  · rename_i y x st0 hz
    simp only at hz
    subst hz
    split at e
    · cases e
    · rename_i hne
      cases e
      refine gos_st fun P p l e R s m args below meth c Q H locs cells slots ls C h2 h3 h1 a => ?_
      exact lv_idiv C.1 C.2.1 hd (fun q => hne ((i32_eq0 y).mp q)) (by rw [← i32_div]; exact a)
  · cases e
theorem s_irem (hd : decode K.2.2.1 pc = .ok (.irem, 1)) : Seg S K pc (pc + 1) (x_id Int.tmod) := by
  rintro ⟨st, L, h⟩ σ' e
  unfold x_id at e
  split at e
  · rename_i y x st0 hz
    simp only at hz
    subst hz
    split at e
    · cases e
    · rename_i hne
      cases e
      refine gos_st fun P p l e R s m args below meth c Q H locs cells slots ls C h2 h3 h1 a => ?_
      exact lv_irem C.1 C.2.1 hd (fun q => hne ((i32_eq0 y).mp q)) (by rw [← i32_mod]; exact a)
  · cases e
theorem s_ldiv (hd : decode K.2.2.1 pc = .ok (.ldiv, 1)) : Seg S K pc (pc + 1) (x_ld Int.tdiv) := by
  rintro ⟨st, L, h⟩ σ' e
  unfold x_ld at e
  split at e
  · rename_i y x st0 hz
    simp only at hz
    subst hz
    split at e
    · cases e
    · rename_i hne
      cases e
      refine gos_st fun P p l e R s m args below meth c Q H locs cells slots ls C h2 h3 h1 a => ?_
      exact lv_ldiv C.1 C.2.1 hd (fun q => hne ((i64_eq0 y).mp q)) (by rw [← i64_div]; exact a)
  · cases e
theorem s_lrem (hd : decode K.2.2.1 pc = .ok (.lrem, 1)) : Seg S K pc (pc + 1) (x_ld Int.tmod) := by
  rintro ⟨st, L, h⟩ σ' e
  unfold x_ld at e
  split at e
  · rename_i y x st0 hz
    simp only at hz
    subst hz
    split at e
    · cases e
    · rename_i hne
      cases e
      refine gos_st fun P p l e R s m args below meth c Q H locs cells slots ls C h2 h3 h1 a => ?_
      exact lv_lrem C.1 C.2.1 hd (fun q => hne ((i64_eq0 y).mp q)) (by rw [← i64_mod]; exact a)
  · cases e
theorem s_ineg (hd : decode K.2.2.1 pc = .ok (.ineg, 1)) : Seg S K pc (pc + 1) (x_i (fun x => -x)) := by
  rintro ⟨st, L, h⟩ σ' e
  unfold x_i at e
  split at e
  · rename_i x st0 hz
    simp only at hz
    subst hz
    cases e
    refine gos_st fun P p l e R s m args below meth c Q H locs cells slots ls C h2 h3 h1 a => ?_
    exact lv_ineg C.1 C.2.1 hd (by rw [← Int32.ofInt_neg]; exact a)
  · cases e
theorem s_i2b (hd : decode K.2.2.1 pc = .ok (.i2b, 1)) : Seg S K pc (pc + 1) (x_i o_i2b) := by
  rintro ⟨st, L, h⟩ σ' e
  unfold x_i at e
  split at e
  · rename_i x st0 hz
    simp only at hz
    subst hz
    cases e
    refine gos_st fun P p l e R s m args below meth c Q H locs cells slots ls C h2 h3 h1 a => ?_
    exact lv_i2b C.1 C.2.1 hd (Int32.ofInt_toInt _).symm a
  · cases e
theorem s_i2c (hd : decode K.2.2.1 pc = .ok (.i2c, 1)) : Seg S K pc (pc + 1) (x_i o_i2c) := by
  rintro ⟨st, L, h⟩ σ' e
  unfold x_i at e
  split at e
  · rename_i x st0 hz
    simp only at hz
    subst hz
    cases e
    refine gos_st fun P p l e R s m args below meth c Q H locs cells slots ls C h2 h3 h1 a => ?_
    exact lv_i2c C.1 C.2.1 hd (Int32.ofInt_toInt _).symm a
  · cases e
theorem s_i2l (hd : decode K.2.2.1 pc = .ok (.i2l, 1)) : Seg S K pc (pc + 1) (x_i2l) := by
  rintro ⟨st, L, h⟩ σ' e
  unfold x_i2l at e
  split at e
  · rename_i x st0 hz
    simp only at hz
    subst hz
    cases e
    refine gos_st fun P p l e R s m args below meth c Q H locs cells slots ls C h2 h3 h1 a => ?_
    exact lv_i2l C.1 C.2.1 hd (i32_64 x) a
  · cases e
theorem s_l2i (hd : decode K.2.2.1 pc = .ok (.l2i, 1)) : Seg S K pc (pc + 1) (x_l2i) := by
  rintro ⟨st, L, h⟩ σ' e
  unfold x_l2i at e
  split at e
  · rename_i x st0 hz
    simp only at hz
    subst hz
    cases e
    refine gos_st fun P p l e R s m args below meth c Q H locs cells slots ls C h2 h3 h1 a => ?_
    exact lv_l2i C.1 C.2.1 hd Int64.toInt32_ofInt a
  · cases e
theorem s_dup (hd : decode K.2.2.1 pc = .ok (.dup, 1)) : Seg S K pc (pc + 1) (x_dup) := by
  rintro ⟨st, L, h⟩ σ' e
  unfold x_dup at e
  split at e
  · rename_i v st0 hz
    simp only at hz
    subst hz
    split at e
    · rename_i hc
      cases e
      refine gos_st fun P p l e R s m args below meth c Q H locs cells slots ls C h2 h3 h1 a => ?_
      exact lv_dup C.1 C.2.1 hd (cat1_k hc) a
    · cases e
  · cases e
theorem s_pop (hd : decode K.2.2.1 pc = .ok (.pop, 1)) : Seg S K pc (pc + 1) (x_pop) := by
  rintro ⟨st, L, h⟩ σ' e
  unfold x_pop at e
  split at e
  · rename_i v st0 hz
    simp only at hz
    subst hz
    split at e
    · rename_i hc
      cases e
      refine gos_st fun P p l e R s m args below meth c Q H locs cells slots ls C h2 h3 h1 a => ?_
      exact lv_pop C.1 C.2.1 hd (cat1_k hc) a
    · cases e
  · cases e
theorem s_dup2 (hd : decode K.2.2.1 pc = .ok (.dup2, 1)) : Seg S K pc (pc + 1) (x_dup2) := by
  rintro ⟨st, L, h⟩ σ' e
  unfold x_dup2 at e
  split at e
  · rename_i v w st0 hz
    simp only at hz
    subst hz
    split at e
    · rename_i hc
      rw [Bool.and_eq_true] at hc
      cases e
      refine gos_st fun P p l e R s m args below meth c Q H locs cells slots ls C h2 h3 h1 a => ?_
      exact lv_dup2_11 C.1 C.2.1 hd (cat1_k hc.1) (cat1_k hc.2) a
    · cases e
  · cases e
theorem i_goto {q : Nat} {off : Int} (hd : decode K.2.2.1 pc = .ok (.goto off, 3)) (ht : (pc : Int) + off = (q : Int)) : Imp S K pc (j_to q) := by
  rintro ⟨st, L, h⟩ q' σ' e
  cases e
  refine gos_st fun P p l e R s m args below meth c Q H locs cells slots ls C h2 h3 h1 a => ?_
  exact lv_goto C.1 C.2.1 hd ht a
theorem i_if_eq {q : Nat} {off : Int} (hd : decode K.2.2.1 pc = .ok (.ifCond .eq off, 3)) (ht : (pc : Int) + off = (q : Int)) : Imp S K pc (j_if 0 q (pc + 3)) := by
  rintro ⟨st, L, h⟩ q' σ' e
  unfold j_if at e
  split at e
  · rename_i z st0 hz
    simp only at hz
    subst hz
    cases e
    refine gos_st fun P p l e R s m args below meth c Q H locs cells slots ls C h2 h3 h1 a => ?_
    refine lv_if_eq C.1 C.2.1 hd ht (fun hc => ?_) (fun hc => ?_)
    · rw [if_pos (cj1_eq.mpr hc)] at a; exact a
    · rw [if_neg (fun q => hc (cj1_eq.mp q))] at a; exact a
  · cases e
theorem i_if_ne {q : Nat} {off : Int} (hd : decode K.2.2.1 pc = .ok (.ifCond .ne off, 3)) (ht : (pc : Int) + off = (q : Int)) : Imp S K pc (j_if 1 q (pc + 3)) := by
  rintro ⟨st, L, h⟩ q' σ' e
  unfold j_if at e
  split at e
  · rename_i z st0 hz
    simp only at hz
    subst hz
    cases e
    refine gos_st fun P p l e R s m args below meth c Q H locs cells slots ls C h2 h3 h1 a => ?_
    refine lv_if_ne C.1 C.2.1 hd ht (fun hc => ?_) (fun hc => ?_)
    · rw [if_pos (cj1_ne.mpr hc)] at a; exact a
    · rw [if_neg (fun q => (cj1_ne.mp q) hc)] at a; exact a
  · cases e
theorem i_if_lt {q : Nat} {off : Int} (hd : decode K.2.2.1 pc = .ok (.ifCond .lt off, 3)) (ht : (pc : Int) + off = (q : Int)) : Imp S K pc (j_if 2 q (pc + 3)) := by
  rintro ⟨st, L, h⟩ q' σ' e
  unfold j_if at e
  split at e
  · rename_i z st0 hz
    simp only at hz
    subst hz
    cases e
    refine gos_st fun P p l e R s m args below meth c Q H locs cells slots ls C h2 h3 h1 a => ?_
    refine lv_if_lt C.1 C.2.1 hd ht (fun hc => ?_) (fun hc => ?_)
    · rw [if_pos (cj1_lt.mpr hc)] at a; exact a
    · rw [if_neg (fun q => hc (cj1_lt.mp q))] at a; exact a
  · cases e
theorem i_if_ge {q : Nat} {off : Int} (hd : decode K.2.2.1 pc = .ok (.ifCond .ge off, 3)) (ht : (pc : Int) + off = (q : Int)) : Imp S K pc (j_if 3 q (pc + 3)) := by
  rintro ⟨st, L, h⟩ q' σ' e
  unfold j_if at e
  split at e
  · rename_i z st0 hz
    simp only at hz
    subst hz
    cases e
    refine gos_st fun P p l e R s m args below meth c Q H locs cells slots ls C h2 h3 h1 a => ?_
    refine lv_if_ge C.1 C.2.1 hd ht (fun hc => ?_) (fun hc => ?_)
    · rw [if_pos (cj1_ge.mpr hc)] at a; exact a
    · rw [if_neg (fun q => hc (cj1_ge.mp q))] at a; exact a
  · cases e
theorem i_if_gt {q : Nat} {off : Int} (hd : decode K.2.2.1 pc = .ok (.ifCond .gt off, 3)) (ht : (pc : Int) + off = (q : Int)) : Imp S K pc (j_if 4 q (pc + 3)) := by
  rintro ⟨st, L, h⟩ q' σ' e
  unfold j_if at e
  split at e
  · rename_i z st0 hz
    simp only at hz
    subst hz
    cases e
    refine gos_st fun P p l e R s m args below meth c Q H locs cells slots ls C h2 h3 h1 a => ?_
    refine lv_if_gt C.1 C.2.1 hd ht (fun hc => ?_) (fun hc => ?_)
    · rw [if_pos (cj1_gt.mpr hc)] at a; exact a
    · rw [if_neg (fun q => hc (cj1_gt.mp q))] at a; exact a
  · cases e
theorem i_if_le {q : Nat} {off : Int} (hd : decode K.2.2.1 pc = .ok (.ifCond .le off, 3)) (ht : (pc : Int) + off = (q : Int)) : Imp S K pc (j_if 5 q (pc + 3)) := by
  rintro ⟨st, L, h⟩ q' σ' e
  unfold j_if at e
  split at e
  · rename_i z st0 hz
    simp only at hz
    subst hz
    cases e
    refine gos_st fun P p l e R s m args below meth c Q H locs cells slots ls C h2 h3 h1 a => ?_
    refine lv_if_le C.1 C.2.1 hd ht (fun hc => ?_) (fun hc => ?_)
    · rw [if_pos (cj1_le.mpr hc)] at a; exact a
    · rw [if_neg (fun q => hc (cj1_le.mp q))] at a; exact a
  · cases e
theorem i_icmp_eq {q : Nat} {off : Int} (hd : decode K.2.2.1 pc = .ok (.if_icmp .eq off, 3)) (ht : (pc : Int) + off = (q : Int)) : Imp S K pc (j_cmp 0 q (pc + 3)) := by
  rintro ⟨st, L, h⟩ q' σ' e
  unfold j_cmp at e
  split at e
  · rename_i y x st0 hz
    simp only at hz
    subst hz
    cases e
    refine gos_st fun P p l e R s m args below meth c Q H locs cells slots ls C h2 h3 h1 a => ?_
    refine lv_icmp_eq C.1 C.2.1 hd ht (fun hc => ?_) (fun hc => ?_)
    · rw [if_pos (cj2_eq.mpr hc)] at a; exact a
    · rw [if_neg (fun q => hc (cj2_eq.mp q))] at a; exact a
  · cases e
theorem i_icmp_ne {q : Nat} {off : Int} (hd : decode K.2.2.1 pc = .ok (.if_icmp .ne off, 3)) (ht : (pc : Int) + off = (q : Int)) : Imp S K pc (j_cmp 1 q (pc + 3)) := by
  rintro ⟨st, L, h⟩ q' σ' e
  unfold j_cmp at e
  split at e
  · rename_i y x st0 hz
    simp only at hz
    subst hz
    cases e
    refine gos_st fun P p l e R s m args below meth c Q H locs cells slots ls C h2 h3 h1 a => ?_
    refine lv_icmp_ne C.1 C.2.1 hd ht (fun hc => ?_) (fun hc => ?_)
    · rw [if_pos (cj2_ne.mpr hc)] at a; exact a
    · rw [if_neg (fun q => (cj2_ne.mp q) hc)] at a; exact a
  · cases e
theorem i_icmp_lt {q : Nat} {off : Int} (hd : decode K.2.2.1 pc = .ok (.if_icmp .lt off, 3)) (ht : (pc : Int) + off = (q : Int)) : Imp S K pc (j_cmp 2 q (pc + 3)) := by
  rintro ⟨st, L, h⟩ q' σ' e
  unfold j_cmp at e
  split at e
  · rename_i y x st0 hz
    simp only at hz
    subst hz
    cases e
    refine gos_st fun P p l e R s m args below meth c Q H locs cells slots ls C h2 h3 h1 a => ?_
    refine lv_icmp_lt C.1 C.2.1 hd ht (fun hc => ?_) (fun hc => ?_)
    · rw [if_pos (cj2_lt.mpr hc)] at a; exact a
    · rw [if_neg (fun q => hc (cj2_lt.mp q))] at a; exact a
  · cases e
theorem i_icmp_ge {q : Nat} {off : Int} (hd : decode K.2.2.1 pc = .ok (.if_icmp .ge off, 3)) (ht : (pc : Int) + off = (q : Int)) : Imp S K pc (j_cmp 3 q (pc + 3)) := by
  rintro ⟨st, L, h⟩ q' σ' e
  unfold j_cmp at e
  split at e
  · rename_i y x st0 hz
    simp only at hz
    subst hz
    cases e
    refine gos_st fun P p l e R s m args below meth c Q H locs cells slots ls C h2 h3 h1 a => ?_
    refine lv_icmp_ge C.1 C.2.1 hd ht (fun hc => ?_) (fun hc => ?_)
    · rw [if_pos (cj2_ge.mpr hc)] at a; exact a
    · rw [if_neg (fun q => hc (cj2_ge.mp q))] at a; exact a
  · cases e
theorem i_icmp_gt {q : Nat} {off : Int} (hd : decode K.2.2.1 pc = .ok (.if_icmp .gt off, 3)) (ht : (pc : Int) + off = (q : Int)) : Imp S K pc (j_cmp 4 q (pc + 3)) := by
  rintro ⟨st, L, h⟩ q' σ' e
  unfold j_cmp at e
  split at e
  · rename_i y x st0 hz
    simp only at hz
    subst hz
    cases e
    refine gos_st fun P p l e R s m args below meth c Q H locs cells slots ls C h2 h3 h1 a => ?_
    refine lv_icmp_gt C.1 C.2.1 hd ht (fun hc => ?_) (fun hc => ?_)
    · rw [if_pos (cj2_gt.mpr hc)] at a; exact a
    · rw [if_neg (fun q => hc (cj2_gt.mp q))] at a; exact a
  · cases e
theorem i_icmp_le {q : Nat} {off : Int} (hd : decode K.2.2.1 pc = .ok (.if_icmp .le off, 3)) (ht : (pc : Int) + off = (q : Int)) : Imp S K pc (j_cmp 5 q (pc + 3)) := by
  rintro ⟨st, L, h⟩ q' σ' e
  unfold j_cmp at e
  split at e
  · rename_i y x st0 hz
    simp only at hz
    subst hz
    cases e
    refine gos_st fun P p l e R s m args below meth c Q H locs cells slots ls C h2 h3 h1 a => ?_
    refine lv_icmp_le C.1 C.2.1 hd ht (fun hc => ?_) (fun hc => ?_)
    · rw [if_pos (cj2_le.mpr hc)] at a; exact a
    · rw [if_neg (fun q => hc (cj2_le.mp q))] at a; exact a
  · cases e
theorem i_nn {q : Nat} {off : Int} (hd : decode K.2.2.1 pc = .ok (.ifnonnull off, 3)) (ht : (pc : Int) + off = (q : Int)) : Imp S K pc (j_nn q (pc + 3)) := by
  rintro ⟨st, L, h⟩ q' σ' e
  unfold j_nn at e
  split at e
  · rename_i z st0 hz
    simp only at hz
    subst hz
    cases e
    refine gos_st fun P p l e R s m args below meth c Q H locs cells slots ls C h2 h3 h1 a => ?_
    exact lv_ifnonnull C.1 C.2.1 hd ht a
  · rename_i z st0 hz
    simp only at hz
    subst hz
    cases e
    refine gos_st fun P p l e R s m args below meth c Q H locs cells slots ls C h2 h3 h1 a => ?_
    exact lv_ifnonnullN C.1 C.2.1 hd a
  · cases e
theorem i_tsw {d lo hi : Int} {offs : Array Int} {len q : Nat} {qs : List Nat} (hd : decode K.2.2.1 pc = .ok (.tableswitch d lo hi offs, len)) (hq : (pc : Int) + d = (q : Int)) (hqs : offs.toList.map (fun o => (pc : Int) + o) = qs.map (fun k : Nat => (k : Int))) (hlen : hi = lo + (qs.length : Int) - 1) : Imp S K pc (j_sw lo qs q) := by
  rintro ⟨st, L, h⟩ q' σ' e
  unfold j_sw at e
  split at e
  · rename_i z st0 hz
    simp only at hz
    subst hz
    cases e
    refine gos_st fun P p l e R s m args below meth c Q H locs cells slots ls C h2 h3 h1 a => ?_
    by_cases h0 : lo ≤ n32 z
    · rw [if_pos h0] at a
      by_cases h9 : n32 z ≤ hi
      · have hk : (n32 z - lo).toNat < qs.length := by omega
        have e1 : qs.getD (n32 z - lo).toNat q = qs[(n32 z - lo).toNat] := by rw [List.getD_eq_getElem?_getD, List.getElem?_eq_getElem hk]; rfl
        rw [e1] at a
        have hl : offs.toList.length = qs.length := by have := congrArg List.length hqs; simpa using this
        have hk2 : (n32 z - lo).toNat < offs.toList.length := by omega
        have e2 := congrArg (fun l => l[(n32 z - lo).toNat]?) hqs
        simp only [List.getElem?_map, List.getElem?_eq_getElem hk, List.getElem?_eq_getElem hk2, Option.map_some, Option.some.injEq] at e2
        refine lv_tableIn C.1 C.2.1 hd (by rw [i32_toInt]; omega) (by rw [i32_toInt]; omega) (off := offs.toList[(n32 z - lo).toNat]) ?_ e2 a
        rw [i32_toInt, ← Array.getElem?_toList, List.getElem?_eq_getElem hk2]
      · have e1 : qs.getD (n32 z - lo).toNat q = q := by rw [List.getD_eq_getElem?_getD, List.getElem?_eq_none (by omega)]; rfl
        rw [e1] at a
        exact lv_tableOut C.1 C.2.1 hd (by rw [i32_toInt]; right; omega) hq a
    · rw [if_neg h0] at a
      exact lv_tableOut C.1 C.2.1 hd (by rw [i32_toInt]; left; omega) hq a
  · cases e
theorem i_lsw {d o0 o1 : Int} {len q q0 q1 : Nat} (hd : decode K.2.2.1 pc = .ok (.lookupswitch d #[(0, o0), (1, o1)], len)) (hq : (pc : Int) + d = (q : Int)) (h0 : (pc : Int) + o0 = (q0 : Int)) (h1 : (pc : Int) + o1 = (q1 : Int)) : Imp S K pc (j_sw 0 [q0, q1] q) := by
  rintro ⟨st, L, h⟩ q' σ' e
  unfold j_sw at e
  split at e
  · rename_i z st0 hz
    simp only at hz
    subst hz
    cases e
    refine gos_st fun P p l e R s m args below meth c Q H locs cells slots ls C h2 h3 h9 a => ?_
    by_cases e0 : n32 z = 0
    · rw [e0] at a
      exact lv_lookup C.1 C.2.1 hd rfl (off := o0) (by rw [i32_toInt, e0]; simp [Op.lookupswitch.offset_cons]) h0 a
    · by_cases e1 : n32 z = 1
      · rw [e1] at a
        exact lv_lookup C.1 C.2.1 hd rfl (off := o1) (by rw [i32_toInt, e1]; simp [Op.lookupswitch.offset_cons]) h1 a
      · have e2 : (if (0 : Int) ≤ n32 z then ([q0, q1] : List Nat).getD (n32 z - 0).toNat q else q) = q := by
          by_cases hp : (0 : Int) ≤ n32 z
          · rw [if_pos hp, List.getD_eq_getElem?_getD, List.getElem?_eq_none (by simp; omega)]; rfl
          · rw [if_neg hp]
        rw [e2] at a
        exact lv_lookup C.1 C.2.1 hd rfl (off := d) (by rw [i32_toInt]; simp [Op.lookupswitch.offset_cons, Op.lookupswitch.offset, e0, e1, Ne.symm e0, Ne.symm e1]) hq a
  · cases e
end Ops2
