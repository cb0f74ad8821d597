/-! THE SMALL MACHINE RUNS METHODS, AND WHAT IT DOES THE JVM DOES -/
def blk (m pc : Nat) : Option (List In × Tn) := (mB m).2.2.lookup pc
def run (S : List Int) : Nat → Nat → Nat → St → Option (Option AV × Hp)
  | 0, _, _, _ => none
  | f + 1, m, pc, σ => match blk m pc with
    | none => none
    | some (is, t) => (exL S is σ).bind (fun σ1 =>
      if t.1 = 6 then rtv (mB m).2.1 σ1
      else if t.1 = 7 then
        (if t.2.2.2.1.toNat ≤ σ1.1.length ∧ σ1.1.length ≤ t.2.2.2.1.toNat + 4 ∧ rcv (t.2.2.2.2.getD 0 0) (t.2.2.2.2.getD 1 0) (σ1.1.take t.2.2.2.1.toNat).reverse σ1.2.2.1 = true then
          (ini (mB t.2.1).1 (σ1.1.take t.2.2.2.1.toNat).reverse).bind (fun L' => (run S f t.2.1 0 ([], L', σ1.2.2)).bind (fun r => run S f m t.2.2.1 (r.1.toList ++ σ1.1.drop t.2.2.2.1.toNat, σ1.2.1, r.2)))
        else none)
      else (jmp t σ1).bind (fun r => run S f m r.1 r.2))
def opN (c : ClassFile.Cond) : Int := match c with
  | .eq => 0
  | .ne => 1
  | .lt => 2
  | .ge => 3
  | .gt => 4
  | .le => 5
def rmOk (m fr lo : Nat) : Bool := decide ((mK m).2.2.2.2.1 + 1 ≤ fr ∧ 8 + ((mK m).2.2.2.1 + 11) + (mK m).2.2.2.2.2 ≤ lo)
def chkT (o rk fr lo : Nat) (cc : ByteArray) (pc : Nat) (t : Tn) : Bool := if t.1 = 0 then decide (t.2.1 = pc) else match decode cc pc with
  | .ok (.goto off, len) => decide (len = 3 ∧ t.1 = 1 ∧ (pc : Int) + off = (t.2.1 : Int))
  | .ok (.ifCond c off, len) => decide (len = 3 ∧ t.1 = 2 ∧ (pc : Int) + off = (t.2.1 : Int) ∧ t.2.2.1 = pc + 3 ∧ t.2.2.2.1 = opN c)
  | .ok (.if_icmp c off, len) => decide (len = 3 ∧ t.1 = 3 ∧ (pc : Int) + off = (t.2.1 : Int) ∧ t.2.2.1 = pc + 3 ∧ t.2.2.2.1 = opN c)
  | .ok (.ifnonnull off, len) => decide (len = 3 ∧ t.1 = 4 ∧ (pc : Int) + off = (t.2.1 : Int) ∧ t.2.2.1 = pc + 3)
  | .ok (.tableswitch d lw hi offs, _) => decide (t.1 = 5 ∧ (pc : Int) + d = (t.2.1 : Int) ∧ offs.toList.map (fun o => (pc : Int) + o) = t.2.2.2.2.map (fun k : Nat => (k : Int)) ∧ t.2.2.2.1 = lw ∧ hi = lw + (t.2.2.2.2.length : Int) - 1)
  | .ok (.lookupswitch d ps, _) => (match ps.toList with
    | [(k0, o0), (k1, o1)] => decide (t.1 = 8 ∧ k0 = 0 ∧ k1 = 1 ∧ (pc : Int) + d = (t.2.1 : Int) ∧ t.2.2.2.1 = 0 ∧ t.2.2.2.2.map (fun k : Nat => (k : Int)) = [(pc : Int) + o0, (pc : Int) + o1])
    | _ => false)
  | .ok (.ireturn, len) => decide (len = 1 ∧ t.1 = 6 ∧ (rk = 1 ∨ rk = 3 ∨ rk = 4 ∨ rk = 5))
  | .ok (.lreturn, len) => decide (len = 1 ∧ t.1 = 6 ∧ rk = 2)
  | .ok (.return_, len) => decide (len = 1 ∧ t.1 = 6 ∧ rk = 0)
  | .ok (.invokestatic i, len) => (match lk2 iTab o i with
    | some r => decide (len = 3 ∧ t.1 = 7 ∧ t.2.2.1 = pc + 3 ∧ (r.2.2.2.1 = 0 ∨ r.2.2.2.1 = 3) ∧ t.2.1 = r.2.2.1 ∧ t.2.2.2.1 = (mN r.2.2.1 : Int) ∧ t.2.2.2.2 = [0, 0]) && rmOk r.2.2.1 fr lo
    | none => false)
  | .ok (.invokespecial i, len) => (match lk2 iTab o i with
    | some r => decide (len = 3 ∧ t.1 = 7 ∧ t.2.2.1 = pc + 3 ∧ (r.2.2.2.1 = 2 ∨ r.2.2.2.1 = 4) ∧ t.2.1 = r.2.2.1 ∧ t.2.2.2.1 = (mN r.2.2.1 : Int) + 1 ∧ t.2.2.2.2 = [2, 0]) && rmOk r.2.2.1 fr lo
    | none => false)
  | .ok (.invokevirtual i, len) => (match lk2 iTab o i with
    | some r => decide (len = 3 ∧ t.1 = 7 ∧ t.2.2.1 = pc + 3 ∧ r.2.2.2.1 = 1 ∧ t.2.1 = r.2.2.1 ∧ t.2.2.2.1 = (mN r.2.2.1 : Int) + 1 ∧ t.2.2.2.2 = [1, r.2.2.2.2.1]) && rmOk r.2.2.1 fr lo
    | none => false)
  | _ => false
-- what a method's end is
def Qm (P : Par) (r : Option AV × Hp) : Array Value → State → Outcome → State → Prop := fun _ st o t => o = .returned (r.1.map (cV P)) ∧ hR P r.2 t.heap ∧ va_F (aA P) st t
def Rok (S : List Int) (m pc : Nat) (σ : St) (r : Option AV × Hp) : Prop := LeT σ.2.2.1 r.2.1 ∧ ∀ (P : Par) (p : Program) (l : Launch) (e : Env) (R : Room) (s : State) (m' : MethodId) (args : Array Value) (below : List Frame) (meth : Method) (c : Code) (t0 z0 : Nat),
  Cx S (mK m) P p R s m' args meth c → meth.sig.returnType = rtT (mB m).2.1 → (s.heap.size = P.1 + t0 ∧ t0 ≤ σ.2.2.1.length) → z0 ≤ sz σ.2.2.1 → r.2.1.length - t0 ≤ R.cells → sz r.2.1 - z0 ≤ R.slots → Ats S (mK m) P p l e R s m' args below meth c (MQ below (Qm P r) args s (r.2.1.length - t0) (sz r.2.1 - z0) (aA P)) t0 z0 pc σ
theorem Rok.go {S : List Int} {m pc q : Nat} {σ τ : St} {r : Option AV × Hp} (g : Gos S (mK m) pc q σ τ) (k : Rok S m q τ r) : Rok S m pc σ r :=
  ⟨g.1.tr k.1, fun P p l e R s m' args below meth c t0 z0 C hr h0 hz hc hs => g.2 P p l e R s m' args below meth c _ t0 z0 C h0 hz (Nat.le_trans (Nat.sub_le_sub_right k.1.1 _) hc) (Nat.le_trans (Nat.sub_le_sub_right k.1.2 _) hs) (k.2 P p l e R s m' args below meth c t0 z0 C hr ⟨h0.1, Nat.le_trans h0.2 g.1.1⟩ (Nat.le_trans hz g.1.2) hc hs)⟩
theorem ret_i {S : List Int} {m pc : Nat} {L : List (Option AV)} {h : Hp} {z : Int} (hd : decode (mK m).2.2.1 pc = .ok (.ireturn, 1)) (hk : okr (mB m).2.1 z = true) : Rok S m pc ([.inl z], L, h) (some (.inl z), h) := by
  refine ⟨LeT.rf _, fun P p l e R s m' args below meth c t0 z0 C hr h0 hz hc hs ls H locs h1 h2 h3 => ?_⟩
  have hq : ∀ t : State, t.heap = H → s.WarmedH t.vm → Qm P (some (.inl z), h) args s (.returned (some (.int (Int32.ofInt z)))) t := fun t ht _ => ⟨rfl, by rw [ht]; exact h2, h3.F ht⟩
  have hlocks := C.2.2.2.2.2.2.2.2.2.2
  unfold okr at hk
  split at hk
  · rename_i e9
    rw [e9] at hr
    exact W.iret C.1 C.2.1 hr hq h3.2.2 hd hlocks
  · rename_i e9
    rw [e9] at hr
    exact W.zret C.1 C.2.1 hr (b_fits (of_decide_eq_true hk)).1 hq h3.2.2 hd hlocks
  · rename_i e9
    rw [e9] at hr
    have hz0 := of_decide_eq_true hk
    subst hz0
    exact W.zret (v := Int32.ofInt 0) C.1 C.2.1 hr (by decide) hq h3.2.2 hd hlocks
  · rename_i e9
    rw [e9] at hr
    have hz0 := of_decide_eq_true hk
    have en : Int32.ofInt z = nI z.toNat := by
      show _ = Int32.ofNat z.toNat
      rw [i32_nat, Int.toNat_of_nonneg hz0.1]
    refine W.zret (v := Int32.ofInt z) C.1 C.2.1 hr ?_ hq h3.2.2 hd hlocks
    rw [en]
    exact (pk_charN (by omega)).1
  · cases hk
theorem ret_l {S : List Int} {m pc : Nat} {L : List (Option AV)} {h : Hp} {z : Int} (hd : decode (mK m).2.2.1 pc = .ok (.lreturn, 1)) (hk : (mB m).2.1 = 2) : Rok S m pc ([.inr (.inl z)], L, h) (some (.inr (.inl z)), h) := by
  refine ⟨LeT.rf _, fun P p l e R s m' args below meth c t0 z0 C hr h0 hz hc hs ls H locs h1 h2 h3 => ?_⟩
  rw [hk] at hr
  exact W.lret C.1 C.2.1 hr (fun t ht _ => ⟨rfl, by rw [ht]; exact h2, h3.F ht⟩) h3.2.2 hd C.2.2.2.2.2.2.2.2.2.2
theorem ret_v {S : List Int} {m pc : Nat} {L : List (Option AV)} {h : Hp} (hd : decode (mK m).2.2.1 pc = .ok (.return_, 1)) (hk : (mB m).2.1 = 0) : Rok S m pc ([], L, h) (none, h) := by
  refine ⟨LeT.rf _, fun P p l e R s m' args below meth c t0 z0 C hr h0 hz hc hs ls H locs h1 h2 h3 => ?_⟩
  rw [hk] at hr
  exact W.vret C.1 C.2.1 hr (fun t ht _ => ⟨rfl, by rw [ht]; exact h2, h3.F ht⟩) h3.2.2 hd C.2.2.2.2.2.2.2.2.2.2
-- a method's entry
theorem lg_lvs (P : Par) (vs : List AV) : lg_sl (vs.map (cV P)) = (lvs vs).map (fun o => match o with
    | some v => Slot.val (cV P v)
    | none => Slot.second) := by
  unfold lg_sl lvs
  induction vs with
  | nil => rfl
  | cons v t ih =>
    simp only [List.map_cons, List.flatMap_cons, List.map_append, ih]
    congr 1
    cases h : cat1 v with
    | true => rw [if_neg (by rw [cat1_k h]; decide)]; rfl
    | false => rw [if_pos (cat1_c.mpr h)]; rfl
theorem ini_lR {P : Par} {nL : Nat} {vs : List AV} {L : List (Option AV)} (h : ini nL vs = some L) : lR P nL L ((lg_sl (vs.map (cV P)) ++ List.replicate (nL - (lg_sl (vs.map (cV P))).length) Slot.unset).toArray) := by
  unfold ini at h
  obtain ⟨hl, rfl⟩ := ite_some h
  have el : (lg_sl (vs.map (cV P))).length = (lvs vs).length := by rw [lg_lvs, List.length_map]
  obtain ⟨g1, g2, -⟩ := lv_entry (vs.map (cV P)) (n := nL) (by rw [el]; exact hl)
  refine ⟨by simp; omega, g1, g2, fun k v hk => ?_⟩
  have hlt := (List.getElem?_eq_some_iff.mp hk).1
  by_cases hk2 : k < (lvs vs).length
  · rw [List.getElem?_append_left hk2] at hk
    rw [List.getElem?_toArray, List.getElem?_append_left (by rw [el]; exact hk2), lg_lvs, List.getElem?_map, hk]
    rfl
  · rw [List.getElem?_append_right (by omega), List.getElem?_replicate] at hk
    split at hk <;> cases hk
abbrev rmM (m : Nat) (a b : Nat) : Room := { frames := (mK m).2.2.2.2.1, cells := a, slots := b, locals := (mK m).2.2.2.2.2 }
abbrev PcM (S : List Int) (P : Par) (vs : List AV) (h : Hp) : Array Value → State → Prop := va_Pc (vs.map (cV P)) (fun U => hR P h U.heap ∧ Wd S P U)
theorem y_facts {m : Nat} (hm : m < 205) : (mY m).cls = clS (mK m).1 ∧ (mY m).name = (mK m).2.1 ∧ (mK m).2.2.2.1 = (mB m).1 ∧ plainName (mY m).cls = true ∧ ((mY m).cls ≠ "java/lang/invoke/MethodHandle" ∧ (mY m).cls ≠ "java/lang/invoke/VarHandle") ∧ (parseMethodDescriptor (mY m).desc).map (fun d => d.parameters.length) = some (mN m) ∧ Cond.initialized (mY m).cls ∈ tG := by
  have h := yOk_all m hm
  unfold yOk at h
  simp only [Bool.and_eq_true, decide_eq_true_eq] at h
  exact ⟨h.1, h.2.1, h.2.2.1, h.2.2.2.1, h.2.2.2.2.1, h.2.2.2.2.2.1, inW_tG h.2.2.2.2.2.2⟩
theorem met_of {S : List Int} {m : Nat} {vs : List AV} {L' : List (Option AV)} {h : Hp} {r : Option AV × Hp} (hm : m < 205) (hi : ini (mB m).1 vs = some L') (k : Rok S m 0 ([], L', h) r) (l : Launch) (P : Par) :
    Met l (mY m) (cW m :: tG) (rmM m (r.2.1.length - h.1.length) (sz r.2.1 - sz h.1)) (PcM S P vs h) (Qm P r) (r.2.1.length - h.1.length) (sz r.2.1 - sz h.1) (aA P) := by
  obtain ⟨y1, y2, y3, y4, y5, y6, y7⟩ := y_facts hm
  refine Met.ofW (cc := (mK m).2.2.1) (maxL := (mK m).2.2.2.1) (ret := rtT (mB m).2.1) y4 rfl ?_
  intro p e s m' args below meth c s₁ B hml hv
  obtain ⟨rfl, hh, hw⟩ := hv
  have hts := atoms_spec (ws := cW m :: tG) B.pre
  have hown : s.vm.findClass (mY m).cls = some m'.cls := findClass_of_methodNamed B.named
  have hin := (name_of_methodNamed B.named B.method).1
  have hb : P.1 ≤ s.heap.size := by rw [hh.1]; exact Nat.le_add_right _ _
  have C : Cx S (mK m) P p (rmM m (r.2.1.length - h.1.length) (sz r.2.1 - sz h.1)) s m' (vs.map (cV P)).toArray meth c :=
    ⟨B.exec, B.bytes, hml, by rw [← y1]; exact hown, fun w hw => hts w (List.mem_cons_of_mem _ hw), fun h => (hin.trans y2).trans h, Nat.le_refl _, Nat.le_refl _, hw, hb, B.notSynchronized⟩
  have hl : lR P (mK m).2.2.2.1 L' ((lg_sl (vs.map (cV P)) ++ List.replicate ((mK m).2.2.2.1 - (lg_sl (vs.map (cV P))).length) Slot.unset).toArray) := by
    rw [y3]
    exact ini_lR hi
  rw [lg_entry_eq]
  have w := k.2 P p l e (rmM m (r.2.1.length - h.1.length) (sz r.2.1 - sz h.1)) s m' (vs.map (cV P)).toArray below meth c h.1.length (sz h.1) C B.returns ⟨hh.1, Nat.le_refl _⟩ (Nat.le_refl _) (Nat.le_refl _) (Nat.le_refl _) _ s.heap [] hl hh va_S.rf
  simp only [Nat.sub_self] at w
  exact w
theorem gos_call {S : List Int} {K : Mt} {pc : Nat} {st rest : List AV} {L : List (Option AV)} {h : Hp} {r : Option AV × Hp} (hle : LeT h.1 r.2.1)
    (hrun : ∀ (P : Par) (p : Program) (l : Launch) (e : Env) (R : Room) (s : State) (m : MethodId) (args : Array Value) (below : List Frame) (meth : Method) (c : Code) (H : Heap) (locs : List Loc) (cells slots : Nat) (ls : Array Slot),
      Cx S K P p R s m args meth c → hR P h H → va_S (aA P) s.heap H locs → lR P K.2.2.2.1 L ls → cells + (r.2.1.length - h.1.length) ≤ R.cells → slots + (sz r.2.1 - sz h.1) ≤ R.slots → ∃ aa, va_Run p l e R s m args below meth c H locs cells slots (r.2.1.length - h.1.length) (sz r.2.1 - sz h.1) (F0 m pc ls (st.map (cV P))) (rest.map (cV P)) (Qm P r aa) (aA P)) :
    Gos S K pc (pc + 3) (st, L, h) (r.1.toList ++ rest, L, r.2) := by
  refine ⟨hle, fun P p l e R s m args below meth c Q t0 z0 C h0 hz0 hc hs a ls H locs h1 h2 h3 X hX hSt => ?_⟩
  have u4 : t0 ≤ h.1.length := h0.2
  have u5 : z0 ≤ sz h.1 := hz0
  have u6 := hle.1
  have u7 := hle.2
  have e1 : h.1.length - t0 + (r.2.1.length - h.1.length) = r.2.1.length - t0 := by omega
  have e2 : sz h.1 - z0 + (sz r.2.1 - sz h.1) = sz r.2.1 - z0 := by omega
  obtain ⟨aa, hr⟩ := hrun P p l e R s m args below meth c H locs (h.1.length - t0) (sz h.1 - z0) ls C h2 h3 h1 (by rw [e1]; exact hc) (by rw [e2]; exact hs)
  obtain ⟨v, st₀, t, T', Lc, k0, X', hL, k1, k2, ⟨hv, hh, hF⟩, stp⟩ := hr X hX hSt
  cases hv
  rw [e1, e2] at X'
  have hS1 : va_S (aA P) s.heap T'.heap (locs ++ Lc) := by
    obtain ⟨f1, f2⟩ := hF
    rw [k0] at f1 f2
    refine ⟨Nat.le_trans h3.1 (by rw [k1]; exact f1), fun q q1 q2 => ?_, fun q hq => ?_⟩
    · rw [k1, f2 q (Nat.lt_of_lt_of_le q1 h3.1) q2]
      exact h3.2.1 q q1 q2
    · rcases List.mem_append.mp hq with g | g
      · exact h3.2.2 q g
      · exact hL q g
  have w := a ls T'.heap (locs ++ Lc) h1 (by rw [k1]; exact hh) hS1
  obtain ⟨t2, a1, b1⟩ := w T' rfl X'
  refine ⟨t2, stp t2 ?_, b1⟩
  have e3 : ((r.1.map (cV P)).toList ++ rest.map (cV P)) = (r.1.toList ++ rest).map (cV P) := by
    cases r.1 <;> simp
  show Steps p.tables e below (T'.setTop (F0 m (pc + 3) ls ((r.1.map (cV P)).toList ++ rest.map (cV P)))) t2
  rw [e3]
  exact a1
