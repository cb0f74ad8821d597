/-! WHAT THE SMALL MACHINE DOES, THE JVM DOES -/
/-- a method: own class, name, code, locals, frames and words that are left to it -/
abbrev Mt : Type := Nat × String × ByteArray × Nat × Nat × Nat
def Cx (S : List Int) (K : Mt) (P : Par) (p : Program) (R : Room) (s : State) (m : MethodId) (args : Array Value) (meth : Method) (c : Code) : Prop :=
  p.tables.exec = Jvm.exec ∧ c.code = K.2.2.1 ∧ c.maxLocals = K.2.2.2.1 ∧ s.vm.findClass (clS K.1) = some m.cls ∧ (∀ w ∈ tG, w.before args s = true) ∧ (K.2.1 = "<init>" → meth.name = "<init>") ∧ K.2.2.2.2.1 ≤ R.frames ∧ K.2.2.2.2.2 ≤ R.locals ∧ Wd S P s ∧ P.1 ≤ s.heap.size ∧ meth.locks = false
def Ats (S : List Int) (K : Mt) (P : Par) (p : Program) (l : Launch) (e : Env) (R : Room) (s : State) (m : MethodId) (args : Array Value) (below : List Frame) (meth : Method) (c : Code) (Q : State → Prop) (t0 z0 pc : Nat) (σ : St) : Prop :=
  ∀ (ls : Array Slot) (H : Heap) (locs : List Loc), lR P K.2.2.2.1 σ.2.1 ls → hR P σ.2.2 H → va_S (aA P) s.heap H locs → W p l e R s m args below meth c H locs (σ.2.2.1.length - t0) (sz σ.2.2.1 - z0) Q (F0 m pc ls (σ.1.map (cV P)))
/-- from σ at pc the machine comes to σ' at q -/
def Gos (S : List Int) (K : Mt) (pc q : Nat) (σ σ' : St) : Prop := LeT σ.2.2.1 σ'.2.2.1 ∧ ∀ (P : Par) (p : Program) (l : Launch) (e : Env) (R : Room) (s : State) (m : MethodId) (args : Array Value) (below : List Frame) (meth : Method) (c : Code) (Q : State → Prop) (t0 z0 : Nat),
  Cx S K P p R s m args meth c → (s.heap.size = P.1 + t0 ∧ t0 ≤ σ.2.2.1.length) → z0 ≤ sz σ.2.2.1 → σ'.2.2.1.length - t0 ≤ R.cells → sz σ'.2.2.1 - z0 ≤ R.slots → Ats S K P p l e R s m args below meth c Q t0 z0 q σ' → Ats S K P p l e R s m args below meth c Q t0 z0 pc σ
def Seg (S : List Int) (K : Mt) (pc q : Nat) (g : St → Option St) : Prop := ∀ σ σ', g σ = some σ' → Gos S K pc q σ σ'
def Imp (S : List Int) (K : Mt) (pc : Nat) (f : Fn) : Prop := ∀ σ q σ', f σ = some (q, σ') → Gos S K pc q σ σ'
theorem Gos.rf (S : List Int) (K : Mt) (pc : Nat) (σ : St) : Gos S K pc pc σ σ := ⟨LeT.rf _, fun _ _ _ _ _ _ _ _ _ _ _ _ _ _ _ _ _ _ _ h => h⟩
theorem Gos.tr {S : List Int} {K : Mt} {a b d : Nat} {σ τ υ : St} (h : Gos S K a b σ τ) (g : Gos S K b d τ υ) : Gos S K a d σ υ :=
  ⟨h.1.tr g.1, fun P p l e R s m args below meth c Q t0 z0 C h1 h2 h3 h4 k => h.2 P p l e R s m args below meth c Q t0 z0 C h1 h2 (Nat.le_trans (Nat.sub_le_sub_right g.1.1 _) h3) (Nat.le_trans (Nat.sub_le_sub_right g.1.2 _) h4) (g.2 P p l e R s m args below meth c Q t0 z0 C ⟨h1.1, Nat.le_trans h1.2 h.1.1⟩ (Nat.le_trans h2 h.1.2) h3 h4 k)⟩
theorem imp_to (S : List Int) (K : Mt) (q : Nat) : Imp S K q (j_to q) := by
  intro σ q' υ e
  cases e
  exact Gos.rf _ _ _ _
/-- an instruction that leaves the heap as it is -/
theorem gos_same {S : List Int} {K : Mt} {pc q : Nat} {st st' : List AV} {L L' : List (Option AV)} {h : Hp}
    (k : ∀ (P : Par) (p : Program) (l : Launch) (e : Env) (R : Room) (s : State) (m : MethodId) (args : Array Value) (below : List Frame) (meth : Method) (c : Code) (Q : State → Prop) (H : Heap) (locs : List Loc) (cells slots : Nat) (ls : Array Slot),
      Cx S K P p R s m args meth c → hR P h H → va_S (aA P) s.heap H locs → lR P K.2.2.2.1 L ls → (∀ ls', lR P K.2.2.2.1 L' ls' → W p l e R s m args below meth c H locs cells slots Q (F0 m q ls' (st'.map (cV P)))) → W p l e R s m args below meth c H locs cells slots Q (F0 m pc ls (st.map (cV P)))) :
    Gos S K pc q (st, L, h) (st', L', h) :=
  ⟨LeT.rf _, fun P p l e R s m args below meth c Q t0 z0 C _ _ _ _ a ls H locs h1 h2 h3 => k P p l e R s m args below meth c Q H locs _ _ ls C h2 h3 h1 (fun ls' h => a ls' H locs h h2 h3)⟩
/-- an instruction that leaves the locals and the heap -/
theorem gos_st {S : List Int} {K : Mt} {pc q : Nat} {st st' : List AV} {L : List (Option AV)} {h : Hp}
    (k : ∀ (P : Par) (p : Program) (l : Launch) (e : Env) (R : Room) (s : State) (m : MethodId) (args : Array Value) (below : List Frame) (meth : Method) (c : Code) (Q : State → Prop) (H : Heap) (locs : List Loc) (cells slots : Nat) (ls : Array Slot),
      Cx S K P p R s m args meth c → hR P h H → va_S (aA P) s.heap H locs → lR P K.2.2.2.1 L ls → W p l e R s m args below meth c H locs cells slots Q (F0 m q ls (st'.map (cV P))) → W p l e R s m args below meth c H locs cells slots Q (F0 m pc ls (st.map (cV P)))) :
    Gos S K pc q (st, L, h) (st', L, h) :=
  gos_same (fun P p l e R s m args below meth c Q H locs cells slots ls C h2 h3 h1 a => k P p l e R s m args below meth c Q H locs cells slots ls C h2 h3 h1 (a ls h1))
section Ops
variable {S : List Int} {K : Mt} {pc : Nat}
theorem s_iconst {n : Int} (hd : decode K.2.2.1 pc = .ok (.iconst n, 1)) : Seg S K pc (pc + 1) (x_push (vI n)) := by
  rintro ⟨st, L, h⟩ σ' e
  cases e
  refine gos_st fun P p l e R s m args below meth c Q H locs cells slots ls C h2 h3 h1 a => ?_
  exact lv_iconst C.1 C.2.1 hd rfl a
theorem s_bipush {n : Int} (hd : decode K.2.2.1 pc = .ok (.bipush n, 2)) (hn : (Int8.ofInt n).toInt32 = Int32.ofInt n) : Seg S K pc (pc + 2) (x_push (vI n)) := by
  rintro ⟨st, L, h⟩ σ' e
  cases e
  refine gos_st fun P p l e R s m args below meth c Q H locs cells slots ls C h2 h3 h1 a => ?_
  exact lv_bipush C.1 C.2.1 hd hn a
theorem s_sipush {n : Int} (hd : decode K.2.2.1 pc = .ok (.sipush n, 3)) (hn : (Int16.ofInt n).toInt32 = Int32.ofInt n) : Seg S K pc (pc + 3) (x_push (vI n)) := by
  rintro ⟨st, L, h⟩ σ' e
  cases e
  refine gos_st fun P p l e R s m args below meth c Q H locs cells slots ls C h2 h3 h1 a => ?_
  exact lv_sipush C.1 C.2.1 hd hn a
theorem s_ldc {n : Int} {i : Nat} (hd : decode K.2.2.1 pc = .ok (.ldc i, 2)) (hn : Cond.constant (clS K.1) i (Int32.ofInt n) ∈ tG) : Seg S K pc (pc + 2) (x_push (vI n)) := by
  rintro ⟨st, L, h⟩ σ' e
  cases e
  refine gos_st fun P p l e R s m args below meth c Q H locs cells slots ls C h2 h3 h1 a => ?_
  exact lv_ldc C.1 C.2.1 C.2.2.2.1 (C.2.2.2.2.1 _ hn) hd a
theorem s_ldcw {n : Int} {i : Nat} (hd : decode K.2.2.1 pc = .ok (.ldc_w i, 3)) (hn : Cond.constant (clS K.1) i (Int32.ofInt n) ∈ tG) : Seg S K pc (pc + 3) (x_push (vI n)) := by
  rintro ⟨st, L, h⟩ σ' e
  cases e
  refine gos_st fun P p l e R s m args below meth c Q H locs cells slots ls C h2 h3 h1 a => ?_
  exact lv_ldcw C.1 C.2.1 C.2.2.2.1 (C.2.2.2.2.1 _ hn) hd a
theorem s_lconst {n : Fin 2} {z : Int} (hd : decode K.2.2.1 pc = .ok (.lconst n, 1)) (hz : Int64.ofNat (n : Nat) = Int64.ofInt z) : Seg S K pc (pc + 1) (x_push (vL z)) := by
  rintro ⟨st, L, h⟩ σ' e
  cases e
  refine gos_st fun P p l e R s m args below meth c Q H locs cells slots ls C h2 h3 h1 a => ?_
  exact lv_lconst C.1 C.2.1 hd hz a
theorem s_ldc2 {n : Int} {i : Nat} (hd : decode K.2.2.1 pc = .ok (.ldc2_w i, 3)) (hn : Cond.constantLong (clS K.1) i (Int64.ofInt n) ∈ tG) : Seg S K pc (pc + 3) (x_push (vL n)) := by
  rintro ⟨st, L, h⟩ σ' e
  cases e
  refine gos_st fun P p l e R s m args below meth c Q H locs cells slots ls C h2 h3 h1 a => ?_
  exact lv_ldc2 C.1 C.2.1 C.2.2.2.1 (C.2.2.2.2.1 _ hn) hd a
theorem s_iload_n {k : Fin 4} {i : Nat} (hd : decode K.2.2.1 pc = .ok (.iload_n k, 1)) (hi : (k : Nat) = i) : Seg S K pc (pc + 1) (x_ild i) := by
  rintro ⟨st, L, h⟩ σ' e
  unfold x_ild at e
  split at e
  · rename_i z hz
    cases e
    refine gos_st fun P p l e R s m args below meth c Q H locs cells slots ls C h2 h3 h1 a => ?_
    exact lv_iload_n C.1 C.2.1 hd hi (h1.2.2.2 i _ hz) a
  · cases e
theorem s_iload {i : Nat} (hd : decode K.2.2.1 pc = .ok (.iload i, 2)) : Seg S K pc (pc + 2) (x_ild i) := by
  rintro ⟨st, L, h⟩ σ' e
  unfold x_ild at e
  split at e
  · rename_i z hz
    cases e
    refine gos_st fun P p l e R s m args below meth c Q H locs cells slots ls C h2 h3 h1 a => ?_
    exact lv_iload C.1 C.2.1 hd (h1.2.2.2 i _ hz) a
  · cases e
theorem s_lload_n {k : Fin 4} {i : Nat} (hd : decode K.2.2.1 pc = .ok (.lload_n k, 1)) (hi : (k : Nat) = i) : Seg S K pc (pc + 1) (x_lld i) := by
  rintro ⟨st, L, h⟩ σ' e
  unfold x_lld at e
  split at e
  · rename_i z hz
    cases e
    refine gos_st fun P p l e R s m args below meth c Q H locs cells slots ls C h2 h3 h1 a => ?_
    exact lv_lload_n C.1 C.2.1 hd hi (h1.2.2.2 i _ hz) a
  · cases e
theorem s_lload {i : Nat} (hd : decode K.2.2.1 pc = .ok (.lload i, 2)) : Seg S K pc (pc + 2) (x_lld i) := by
  rintro ⟨st, L, h⟩ σ' e
  unfold x_lld at e
  split at e
  · rename_i z hz
    cases e
    refine gos_st fun P p l e R s m args below meth c Q H locs cells slots ls C h2 h3 h1 a => ?_
    exact lv_lload C.1 C.2.1 hd (h1.2.2.2 i _ hz) a
  · cases e
theorem s_aload_n {k : Fin 4} {i : Nat} (hd : decode K.2.2.1 pc = .ok (.aload_n k, 1)) (hi : (k : Nat) = i) : Seg S K pc (pc + 1) (x_ald i) := by
  rintro ⟨st, L, h⟩ σ' e
  unfold x_ald at e
  split at e
  · rename_i z hz
    cases e
    refine gos_st fun P p l e R s m args below meth c Q H locs cells slots ls C h2 h3 h1 a => ?_
    have h9 := h1.2.2.2 i _ hz
    rcases rf_or P z with ⟨b, hb⟩ | hb
    · rw [hb] at h9
      exact lv_aload_n C.1 C.2.1 hd hi h9 (by rw [← hb]; exact a)
    · rw [hb] at h9
      exact lv_aload_nN C.1 C.2.1 hd hi h9 (by rw [← hb]; exact a)
  · cases e
theorem s_aload {i : Nat} (hd : decode K.2.2.1 pc = .ok (.aload i, 2)) : Seg S K pc (pc + 2) (x_ald i) := by
  rintro ⟨st, L, h⟩ σ' e
  unfold x_ald at e
  split at e
  · rename_i z hz
    cases e
    refine gos_st fun P p l e R s m args below meth c Q H locs cells slots ls C h2 h3 h1 a => ?_
    have h9 := h1.2.2.2 i _ hz
    rcases rf_or P z with ⟨b, hb⟩ | hb
    · rw [hb] at h9
      exact lv_aload C.1 C.2.1 hd h9 (by rw [← hb]; exact a)
    · rw [hb] at h9
      exact lv_aloadN C.1 C.2.1 hd h9 (by rw [← hb]; exact a)
  · cases e
end Ops
