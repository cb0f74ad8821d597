/-! WHAT THE SMALL MACHINE RUNS, THE JVM RUNS -/
theorem jmp_ok {S : List Int} {K : Mt} {pc rk : Nat} {t : Tn} (h : chkT K.1 rk K.2.2.2.2.1 K.2.2.2.2.2 K.2.2.1 pc t = true) (h6 : ¬ t.1 = 6) (h7 : ¬ t.1 = 7) : Imp S K pc (jmp t) := by
  obtain ⟨k, a, b, z, l⟩ := t
  unfold chkT at h
  split at h
  · rename_i e0
    simp only at e0
    subst e0
    have h9 := of_decide_eq_true h
    simp only at h9
    subst h9
    exact imp_to S K a
  · simp only at h6 h7
    cases hdec : decode K.2.2.1 pc with
    | error x => rw [hdec] at h; cases h
    | ok q =>
      obtain ⟨ins, len⟩ := q
      rw [hdec] at h
      cases ins with
      | goto off =>
        obtain ⟨rfl, h0, h1⟩ := of_decide_eq_true h
        simp only at h0 h1
        subst h0
        exact i_goto hdec h1
      | ifCond c off =>
        obtain ⟨rfl, h0, h1, h2, h3⟩ := of_decide_eq_true h
        simp only at h0 h1 h2 h3
        subst h0 h2 h3
        cases c with
        | eq => exact i_if_eq hdec h1
        | ne => exact i_if_ne hdec h1
        | lt => exact i_if_lt hdec h1
        | ge => exact i_if_ge hdec h1
        | gt => exact i_if_gt hdec h1
        | le => exact i_if_le hdec h1
      | if_icmp c off =>
        obtain ⟨rfl, h0, h1, h2, h3⟩ := of_decide_eq_true h
        simp only at h0 h1 h2 h3
        subst h0 h2 h3
        cases c with
        | eq => exact i_icmp_eq hdec h1
        | ne => exact i_icmp_ne hdec h1
        | lt => exact i_icmp_lt hdec h1
        | ge => exact i_icmp_ge hdec h1
        | gt => exact i_icmp_gt hdec h1
        | le => exact i_icmp_le hdec h1
      | ifnonnull off =>
        obtain ⟨rfl, h0, h1, h2⟩ := of_decide_eq_true h
        simp only at h0 h1 h2
        subst h0 h2
        exact i_nn hdec h1
      | tableswitch d lw hi offs =>
        obtain ⟨h0, h1, h2, h3, h4⟩ := of_decide_eq_true h
        simp only at h0 h1 h2 h3 h4
        subst h0 h3
        exact i_tsw hdec h1 h2 h4
      | lookupswitch d ps =>
        simp only at h
        split at h
        · rename_i k0 o0 k1 o1 hps
          obtain ⟨h0, h1, h2, h3, h4, h5⟩ := of_decide_eq_true h
          subst h0 h1 h2 h4
          have ep : ps = #[(0, o0), (1, o1)] := by
            apply Array.toList_inj.mp
            rw [hps]
          subst ep
          match l, h5 with
          | [q0, q1], h5 =>
            simp only [List.map_cons, List.map_nil, List.cons.injEq, and_true] at h5
            exact i_lsw hdec h3 h5.1.symm h5.2.symm
          | [], h5 => simp at h5
          | [_], h5 => simp at h5
          | _ :: _ :: _ :: _, h5 => simp at h5
        · cases h
      | ireturn => exact absurd (of_decide_eq_true h).2.1 h6
      | lreturn => exact absurd (of_decide_eq_true h).2.1 h6
      | return_ => exact absurd (of_decide_eq_true h).2.1 h6
      | invokestatic i =>
        simp only at h
        split at h
        · rw [Bool.and_eq_true] at h
          exact absurd (of_decide_eq_true h.1).2.1 h7
        · cases h
      | invokespecial i =>
        simp only at h
        split at h
        · rw [Bool.and_eq_true] at h
          exact absurd (of_decide_eq_true h.1).2.1 h7
        · cases h
      | invokevirtual i =>
        simp only at h
        split at h
        · rw [Bool.and_eq_true] at h
          exact absurd (of_decide_eq_true h.1).2.1 h7
        · cases h
      | _ => cases h
def okB (m : Nat) (b : Bk) : Bool := match chkI (mK m).1 (mK m).2.1 (mK m).2.2.2.2.1 (mK m).2.2.2.2.2 (mK m).2.2.1 b.1 b.2.1 with
  | some q => chkT (mK m).1 (mB m).2.1 (mK m).2.2.2.2.1 (mK m).2.2.2.2.2 (mK m).2.2.1 q b.2.2
  | none => false
def okM (m : Nat) : Bool := (mB m).2.2.all (okB m)
theorem lookup_mem {α : Type} {l : List (Nat × α)} {k : Nat} {v : α} (h : l.lookup k = some v) : (k, v) ∈ l := by
  induction l with
  | nil => cases h
  | cons x t ih =>
    obtain ⟨a, b⟩ := x
    rw [List.lookup_cons] at h
    by_cases e : k = a
    · subst e
      simp at h
      subst h
      exact List.mem_cons_self
    · have : (k == a) = false := by simpa using e
      rw [this] at h
      exact List.mem_cons_of_mem _ (ih h)
theorem ret_ok {S : List Int} {m pc : Nat} {t : Tn} {σ : St} {r : Option AV × Hp} (h : chkT (mK m).1 (mB m).2.1 (mK m).2.2.2.2.1 (mK m).2.2.2.2.2 (mK m).2.2.1 pc t = true) (h6 : t.1 = 6) (e : rtv (mB m).2.1 σ = some r) : Rok S m pc σ r := by
  obtain ⟨k, a, b, z, l⟩ := t
  simp only at h6
  subst h6
  unfold chkT at h
  rw [if_neg (by simp)] at h
  cases hdec : decode (mK m).2.2.1 pc with
  | error x => rw [hdec] at h; cases h
  | ok q =>
    obtain ⟨ins, len⟩ := q
    rw [hdec] at h
    obtain ⟨st, L, hp⟩ := σ
    unfold rtv at e
    cases ins with
    | ireturn =>
      obtain ⟨rfl, -, h1⟩ := of_decide_eq_true h
      split at e
      · obtain ⟨g, -⟩ := ite_some e
        omega
      · rename_i z hz
        simp only at hz
        subst hz
        obtain ⟨g, rfl⟩ := ite_some e
        exact ret_i hdec g
      · obtain ⟨g, -⟩ := ite_some e
        omega
      · cases e
    | lreturn =>
      obtain ⟨rfl, -, h1⟩ := of_decide_eq_true h
      split at e
      · obtain ⟨g, -⟩ := ite_some e
        omega
      · obtain ⟨g, -⟩ := ite_some e
        rw [h1] at g
        cases g
      · rename_i z hz
        simp only at hz
        subst hz
        obtain ⟨g, rfl⟩ := ite_some e
        exact ret_l hdec g
      · cases e
    | return_ =>
      obtain ⟨rfl, -, h1⟩ := of_decide_eq_true h
      split at e
      · rename_i hz
        simp only at hz
        subst hz
        obtain ⟨g, rfl⟩ := ite_some e
        exact ret_v hdec g
      · obtain ⟨g, -⟩ := ite_some e
        rw [h1] at g
        cases g
      · obtain ⟨g, -⟩ := ite_some e
        omega
      · cases e
    | goto off => exact absurd (of_decide_eq_true h).2.1 (by simp)
    | ifCond c off => exact absurd (of_decide_eq_true h).2.1 (by simp)
    | if_icmp c off => exact absurd (of_decide_eq_true h).2.1 (by simp)
    | ifnonnull off => exact absurd (of_decide_eq_true h).2.1 (by simp)
    | tableswitch d lw hi offs => exact absurd (of_decide_eq_true h).1 (by simp)
    | lookupswitch d ps =>
      simp only at h
      split at h
      · exact absurd (of_decide_eq_true h).1 (by simp)
      · cases h
    | invokestatic i =>
      simp only at h
      split at h
      · rw [Bool.and_eq_true] at h
        exact absurd (of_decide_eq_true h.1).2.1 (by simp)
      · cases h
    | invokespecial i =>
      simp only at h
      split at h
      · rw [Bool.and_eq_true] at h
        exact absurd (of_decide_eq_true h.1).2.1 (by simp)
      · cases h
    | invokevirtual i =>
      simp only at h
      split at h
      · rw [Bool.and_eq_true] at h
        exact absurd (of_decide_eq_true h.1).2.1 (by simp)
      · cases h
    | _ => cases h
theorem call_ok {S : List Int} {m pc : Nat} {t : Tn} {st : List AV} {L L' : List (Option AV)} {hp : Hp} {r : Option AV × Hp} (h : chkT (mK m).1 (mB m).2.1 (mK m).2.2.2.2.1 (mK m).2.2.2.2.2 (mK m).2.2.1 pc t = true) (h7 : t.1 = 7) (g1 : t.2.2.2.1.toNat ≤ st.length) (g2 : st.length ≤ t.2.2.2.1.toNat + 4) (g3 : rcv (t.2.2.2.2.getD 0 0) (t.2.2.2.2.getD 1 0) (st.take t.2.2.2.1.toNat).reverse hp.1 = true)
    (hi : ini (mB t.2.1).1 (st.take t.2.2.2.1.toNat).reverse = some L') (k : t.2.1 < 205 → Rok S t.2.1 0 ([], L', hp) r) : Gos S (mK m) pc t.2.2.1 (st, L, hp) (r.1.toList ++ st.drop t.2.2.2.1.toNat, L, r.2) := by
  obtain ⟨k7, a, b, z, l⟩ := t
  simp only at h7 g1 g2 g3 hi k ⊢
  subst h7
  unfold chkT at h
  rw [if_neg (by simp)] at h
  cases hdec : decode (mK m).2.2.1 pc with
  | error x => rw [hdec] at h; cases h
  | ok q =>
    obtain ⟨ins, len⟩ := q
    rw [hdec] at h
    cases ins with
    | invokestatic i =>
      simp only at h
      split at h
      · rename_i x hx
        rw [Bool.and_eq_true] at h
        obtain ⟨ha, hrm⟩ := h
        have hrm := of_decide_eq_true hrm
        obtain ⟨rfl, -, e1, e2, e3, e4, e5⟩ := of_decide_eq_true ha
        obtain ⟨m1, m2, m3⟩ := lk2_mem hx
        have w := List.all_eq_true.mp iTab_ok x m1
        unfold iOk at w
        rw [Bool.and_eq_true, m2, m3] at w
        obtain ⟨w0, w⟩ := w
        have w0 := of_decide_eq_true w0
        subst e1 e3 e4 e5
        have en : ((mN x.2.2.1 : Nat) : Int).toNat = mN x.2.2.1 := Int.toNat_natCast _
        rw [en] at g1 g2 hi ⊢
        rcases e2 with e2 | e2
        · rw [e2] at w
          simp only [Bool.and_eq_true] at w
          exact call_s hdec w0 (inW_tG w.1) (inW_tG w.2) hrm rfl g1 g2 hi (k w0)
        · rw [e2] at w
          simp only [Bool.and_eq_true] at w
          exact call_sn hdec w0 (inN_nW w.1) (inW_tG w.2) hrm rfl g1 g2 hi (k w0)
      · cases h
    | invokespecial i =>
      simp only at h
      split at h
      · rename_i x hx
        rw [Bool.and_eq_true] at h
        obtain ⟨ha, hrm⟩ := h
        have hrm := of_decide_eq_true hrm
        obtain ⟨rfl, -, e1, e2, e3, e4, e5⟩ := of_decide_eq_true ha
        obtain ⟨m1, m2, m3⟩ := lk2_mem hx
        have w := List.all_eq_true.mp iTab_ok x m1
        unfold iOk at w
        rw [Bool.and_eq_true, m2, m3] at w
        obtain ⟨w0, w⟩ := w
        have w0 := of_decide_eq_true w0
        subst e1 e3 e4 e5
        have en : ((mN x.2.2.1 : Nat) + 1 : Int).toNat = mN x.2.2.1 + 1 := by omega
        rw [en] at g1 g2 g3 hi ⊢
        rcases e2 with e2 | e2
        · rw [e2] at w
          simp only [Bool.and_eq_true, decide_eq_true_eq] at w
          exact call_i hdec w0 (inW_tG w.1) (inW_tG w.2.1) w.2.2 hrm rfl g1 g2 g3 hi (k w0)
        · rw [e2] at w
          simp only [Bool.and_eq_true, decide_eq_true_eq] at w
          exact call_in hdec w0 (inN_nW w.1) (inW_tG w.2.1) w.2.2 hrm rfl g1 g2 g3 hi (k w0)
      · cases h
    | invokevirtual i =>
      simp only at h
      split at h
      · rename_i x hx
        rw [Bool.and_eq_true] at h
        obtain ⟨ha, hrm⟩ := h
        have hrm := of_decide_eq_true hrm
        obtain ⟨rfl, -, e1, e2, e3, e4, e5⟩ := of_decide_eq_true ha
        obtain ⟨m1, m2, m3⟩ := lk2_mem hx
        have w := List.all_eq_true.mp iTab_ok x m1
        unfold iOk at w
        rw [Bool.and_eq_true, m2, m3] at w
        obtain ⟨w0, w⟩ := w
        have w0 := of_decide_eq_true w0
        subst e1 e3 e4 e5
        have en : ((mN x.2.2.1 : Nat) + 1 : Int).toNat = mN x.2.2.1 + 1 := by omega
        rw [en] at g1 g2 g3 hi ⊢
        rw [e2] at w
        simp only [Bool.and_eq_true, decide_eq_true_eq] at w
        exact call_v hdec w0 (inW_tG w.1) (inW_tG w.2.1) (inW_tG w.2.2.1) w.2.2.2.1 w.2.2.2.2 hrm rfl g1 g2 g3 hi (k w0)
      · cases h
    | goto off => exact absurd (of_decide_eq_true h).2.1 (by simp)
    | ifCond c off => exact absurd (of_decide_eq_true h).2.1 (by simp)
    | if_icmp c off => exact absurd (of_decide_eq_true h).2.1 (by simp)
    | ifnonnull off => exact absurd (of_decide_eq_true h).2.1 (by simp)
    | ireturn => exact absurd (of_decide_eq_true h).2.1 (by simp)
    | lreturn => exact absurd (of_decide_eq_true h).2.1 (by simp)
    | return_ => exact absurd (of_decide_eq_true h).2.1 (by simp)
    | tableswitch d lw hi offs => exact absurd (of_decide_eq_true h).1 (by simp)
    | lookupswitch d ps =>
      simp only at h
      split at h
      · exact absurd (of_decide_eq_true h).1 (by simp)
      · cases h
    | _ => cases h
theorem run_ok {S : List Int} (hall : ∀ m, m < 206 → okM m = true) : ∀ (f m pc : Nat) (σ : St) (r : Option AV × Hp), m < 206 → run S f m pc σ = some r → Rok S m pc σ r
  | 0, _, _, _, _, _, h => by cases h
  | f + 1, m, pc, σ, r, hm, h => by
    unfold run at h
    cases hb : blk m pc with
    | none => rw [hb] at h; cases h
    | some x =>
      obtain ⟨is, t⟩ := x
      rw [hb] at h
      simp only at h
      have hk := List.all_eq_true.mp (hall m hm) (pc, is, t) (lookup_mem hb)
      unfold okB at hk
      split at hk
      · rename_i q hq
        cases h1 : exL S is σ with
        | none => rw [h1] at h; cases h
        | some σ1 =>
          rw [h1] at h
          simp only [Option.bind_some] at h
          refine Rok.go (exL_ok is pc q σ σ1 hq h1) ?_
          split at h
          · rename_i h6
            exact ret_ok hk h6 h
          · rename_i h6
            split at h
            · rename_i h7
              split at h
              · rename_i hg
                obtain ⟨g1, g2, g3⟩ := hg
                cases h2 : ini (mB t.2.1).1 (σ1.1.take t.2.2.2.1.toNat).reverse with
                | none => rw [h2] at h; cases h
                | some L' =>
                  rw [h2] at h
                  simp only [Option.bind_some] at h
                  cases h3 : run S f t.2.1 0 ([], L', σ1.2.2) with
                  | none => rw [h3] at h; cases h
                  | some r1 =>
                    rw [h3] at h
                    simp only [Option.bind_some] at h
                    exact Rok.go (call_ok (st := σ1.1) (L := σ1.2.1) (hp := σ1.2.2) hk h7 g1 g2 g3 h2 (fun h205 => run_ok hall f t.2.1 0 _ r1 (Nat.lt_of_lt_of_le h205 (by decide)) h3)) (run_ok hall f m t.2.2.1 _ r hm h)
              · cases h
            · rename_i h7
              cases h2 : jmp t σ1 with
              | none => rw [h2] at h; cases h
              | some x =>
                obtain ⟨q2, σ2⟩ := x
                rw [h2] at h
                simp only [Option.bind_some] at h
                exact Rok.go (jmp_ok hk h6 h7 σ1 q2 σ2 h2) (run_ok hall f m q2 σ2 r hm h)
      · cases hk
