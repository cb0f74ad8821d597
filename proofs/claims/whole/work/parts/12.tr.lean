/-! FROM THE BYTES TO THE SMALL MACHINE'S INSTRUCTIONS -/
def lk2 {α : Type} (l : List (Nat × Nat × α)) (o i : Nat) : Option (Nat × Nat × α) := l.find? (fun r => r.1 == o && r.2.1 == i)
theorem lk2_mem {α : Type} {l : List (Nat × Nat × α)} {o i : Nat} {r : Nat × Nat × α} (h : lk2 l o i = some r) : r ∈ l ∧ r.1 = o ∧ r.2.1 = i := by
  unfold lk2 at h
  have h1 := List.find?_some h
  simp only [Bool.and_eq_true, beq_iff_eq] at h1
  exact ⟨List.mem_of_find?_eq_some h, h1.1, h1.2⟩
def sPl (i : Nat) : Option Nat := match i with
  | 72 => some 0
  | 78 => some 1
  | 80 => some 2
  | 82 => some 3
  | 84 => some 4
  | 86 => some 5
  | 88 => some 6
  | 90 => some 7
  | _ => none
theorem sPl_ok {i j : Nat} (h : sPl i = some j) : ∃ tx, sIdx[j]? = some (i, tx) := by
  unfold sPl at h
  split at h <;> first | (cases h; exact ⟨_, rfl⟩) | cases h
theorem ite_some {α : Type} {c : Prop} [Decidable c] {x y : α} (h : (if c then some x else none) = some y) : c ∧ x = y := by
  split at h
  · rename_i hc
    exact ⟨hc, Option.some.inj h⟩
  · cases h
/-- an instruction of the machine as one of the small machine's, in a method of that class and name that has so many frames and words left -/
def tr (o : Nat) (nm : String) (fr lo : Nat) (q : Instr × Nat) : Option In := match q.1 with
  | .iadd => if q.2 = 1 then some (96, 0, 0) else none
  | .isub => if q.2 = 1 then some (100, 0, 0) else none
  | .imul => if q.2 = 1 then some (104, 0, 0) else none
  | .idiv => if q.2 = 1 then some (108, 0, 0) else none
  | .irem => if q.2 = 1 then some (112, 0, 0) else none
  | .ineg => if q.2 = 1 then some (116, 0, 0) else none
  | .ishl => if q.2 = 1 then some (120, 0, 0) else none
  | .ishr => if q.2 = 1 then some (122, 0, 0) else none
  | .iushr => if q.2 = 1 then some (124, 0, 0) else none
  | .iand => if q.2 = 1 then some (126, 0, 0) else none
  | .ior => if q.2 = 1 then some (128, 0, 0) else none
  | .ladd => if q.2 = 1 then some (97, 0, 0) else none
  | .lsub => if q.2 = 1 then some (101, 0, 0) else none
  | .lmul => if q.2 = 1 then some (105, 0, 0) else none
  | .ldiv => if q.2 = 1 then some (109, 0, 0) else none
  | .lrem => if q.2 = 1 then some (113, 0, 0) else none
  | .lcmp => if q.2 = 1 then some (148, 0, 0) else none
  | .i2l => if q.2 = 1 then some (133, 0, 0) else none
  | .l2i => if q.2 = 1 then some (136, 0, 0) else none
  | .i2b => if q.2 = 1 then some (145, 0, 0) else none
  | .i2c => if q.2 = 1 then some (146, 0, 0) else none
  | .dup => if q.2 = 1 then some (89, 0, 0) else none
  | .dup2 => if q.2 = 1 then some (92, 0, 0) else none
  | .pop => if q.2 = 1 then some (87, 0, 0) else none
  | .iaload => if q.2 = 1 then some (46, 0, 0) else none
  | .baload => if q.2 = 1 then some (51, 0, 0) else none
  | .aaload => if q.2 = 1 then some (50, 0, 0) else none
  | .iastore => if q.2 = 1 then some (79, 0, 0) else none
  | .bastore => if q.2 = 1 then some (84, 0, 0) else none
  | .aastore => if q.2 = 1 then some (83, 0, 0) else none
  | .arraylength => if q.2 = 1 then some (190, 0, 0) else none
  | .iload k => if q.2 = 2 then some (21, (k : Int), 0) else none
  | .iload_n k => if q.2 = 1 then some (21, ((k : Nat) : Int), 0) else none
  | .lload k => if q.2 = 2 then some (22, (k : Int), 0) else none
  | .lload_n k => if q.2 = 1 then some (22, ((k : Nat) : Int), 0) else none
  | .aload k => if q.2 = 2 then some (25, (k : Int), 0) else none
  | .aload_n k => if q.2 = 1 then some (25, ((k : Nat) : Int), 0) else none
  | .istore k => if q.2 = 2 then some (54, (k : Int), 0) else none
  | .istore_n k => if q.2 = 1 then some (54, ((k : Nat) : Int), 0) else none
  | .lstore k => if q.2 = 2 then some (55, (k : Int), 0) else none
  | .lstore_n k => if q.2 = 1 then some (55, ((k : Nat) : Int), 0) else none
  | .astore k => if q.2 = 2 then some (58, (k : Int), 0) else none
  | .astore_n k => if q.2 = 1 then some (58, ((k : Nat) : Int), 0) else none
  | .iconst n => if q.2 = 1 then some (2, n, 0) else none
  | .bipush n => if q.2 = 2 ∧ (Int8.ofInt n).toInt32 = Int32.ofInt n then some (2, n, 0) else none
  | .sipush n => if q.2 = 3 ∧ (Int16.ofInt n).toInt32 = Int32.ofInt n then some (2, n, 0) else none
  | .lconst n => if q.2 = 1 ∧ Int64.ofNat (n : Nat) = Int64.ofInt (n : Nat) then some (9, ((n : Nat) : Int), 0) else none
  | .ldc i => if q.2 = 2 then (match lk2 kTab o i with
    | some r => some (2, r.2.2.1, 0)
    | none => if clS o = RX4 then (match sPl i with
      | some j => some (178, ((3 + j : Nat) : Int), 0)
      | none => none) else none) else none
  | .ldc_w i => if q.2 = 3 then (match lk2 kTab o i with
    | some r => some (2, r.2.2.1, 0)
    | none => none) else none
  | .ldc2_w i => if q.2 = 3 then (match lk2 lTab o i with
    | some r => some (9, r.2.2.1, 0)
    | none => none) else none
  | .iinc i n => if q.2 = 3 then some (132, (i : Int), n) else none
  | .getstatic i => if q.2 = 3 then (match lk2 gTab o i with
    | some r => (match r.2.2.1 with
      | 0 => some (178, 1, 0)
      | 1 => some (178, 1, 0)
      | 2 => some (178, 2, 0)
      | 3 => some (2, 1, 0)
      | 4 => some (178, 19, 0)
      | _ => none)
    | none => none) else none
  | .getfield i => if q.2 = 3 then (match lk2 fTab o i with
    | some r => if r.2.2.1 < 9 then some (180, ((r.2.2.1 * 100 + r.2.2.2.1 : Nat) : Int), 0) else some (205, (r.2.2.2.1 : Int), 0)
    | none => none) else none
  | .putfield i => if q.2 = 3 then (match lk2 fTab o i with
    | some r => if r.2.2.1 < 9 ∧ (if fT r.2.2.1 r.2.2.2.1 = 2 then (clT r.2.2.1 r.2.2.2.1).2.2.2 = true ∧ nm = "<init>" ∧ (clT r.2.2.1 r.2.2.2.1).1 = clS o else (clT r.2.2.1 r.2.2.2.1).2.2.2 = false) then some (181, ((r.2.2.1 * 100 + r.2.2.2.1 : Nat) : Int), 0) else none
    | none => none) else none
  | .new i => if q.2 = 3 then (match lk2 nTab o i with
    | some r => some (187, (r.2.2.1 : Int), 0)
    | none => none) else none
  | .newarray t => if q.2 = 2 then (match t with
    | .int => some (188, 9, 0)
    | .byte => some (188, 10, 0)
    | .boolean => some (188, 11, 0)
    | _ => none) else none
  | .anewarray i => if q.2 = 3 then (match lk2 aTab o i with
    | some r => some (188, (r.2.2.1 : Int), 0)
    | none => none) else none
  | .multianewarray i n => if q.2 = 4 ∧ n = 2 then (match lk2 mTab o i with
    | some _ => some (197, 0, 0)
    | none => none) else none
  | .invokespecial i => if q.2 = 3 ∧ 1 ≤ fr ∧ 12 ≤ lo then (match lk2 oTab o i with
    | some _ => some (202, 0, 0)
    | none => none) else none
  | .invokestatic i => if q.2 = 3 ∧ 1 ≤ fr ∧ 21 ≤ lo then (match lk2 xTab o i with
    | some r => some (210, (r.2.2.1 : Int), 0)
    | none => if 40 ≤ lo then (match lk2 cTab o i with
      | some _ => some (201, 0, 0)
      | none => none) else none) else none
  | _ => none
theorem cl100 : ∀ c, c < 9 → ∀ k, k < clN c → (c * 100 + k) / 100 = c ∧ (c * 100 + k) % 100 = k := by decide +kernel
set_option maxHeartbeats 4000000 in
theorem tr_ok {S : List Int} {K : Mt} {pc o fr lo : Nat} {nm : String} {ins : Instr} {len : Nat} {i : In} (hK : K.1 = o) (hN : K.2.1 = nm) (hF : K.2.2.2.2.1 = fr) (hL : K.2.2.2.2.2 = lo) (h : tr o nm fr lo (ins, len) = some i) (hd : decode K.2.2.1 pc = .ok (ins, len)) : Seg S K pc (pc + len) (ex S i) := by
  cases ins with
  | iadd =>
    obtain ⟨rfl, rfl⟩ := ite_some h
    exact s_iadd hd
  | isub =>
    obtain ⟨rfl, rfl⟩ := ite_some h
    exact s_isub hd
  | imul =>
    obtain ⟨rfl, rfl⟩ := ite_some h
    exact s_imul hd
  | idiv =>
    obtain ⟨rfl, rfl⟩ := ite_some h
    exact s_idiv hd
  | irem =>
    obtain ⟨rfl, rfl⟩ := ite_some h
    exact s_irem hd
  | ineg =>
    obtain ⟨rfl, rfl⟩ := ite_some h
    exact s_ineg hd
  | ishl =>
    obtain ⟨rfl, rfl⟩ := ite_some h
    exact s_ishl hd
  | ishr =>
    obtain ⟨rfl, rfl⟩ := ite_some h
    exact s_ishr hd
  | iushr =>
    obtain ⟨rfl, rfl⟩ := ite_some h
    exact s_iushr hd
  | iand =>
    obtain ⟨rfl, rfl⟩ := ite_some h
    exact s_iand hd
  | ior =>
    obtain ⟨rfl, rfl⟩ := ite_some h
    exact s_ior hd
  | ladd =>
    obtain ⟨rfl, rfl⟩ := ite_some h
    exact s_ladd hd
  | lsub =>
    obtain ⟨rfl, rfl⟩ := ite_some h
    exact s_lsub hd
  | lmul =>
    obtain ⟨rfl, rfl⟩ := ite_some h
    exact s_lmul hd
  | ldiv =>
    obtain ⟨rfl, rfl⟩ := ite_some h
    exact s_ldiv hd
  | lrem =>
    obtain ⟨rfl, rfl⟩ := ite_some h
    exact s_lrem hd
  | lcmp =>
    obtain ⟨rfl, rfl⟩ := ite_some h
    exact s_lcmp hd
  | i2l =>
    obtain ⟨rfl, rfl⟩ := ite_some h
    exact s_i2l hd
  | l2i =>
    obtain ⟨rfl, rfl⟩ := ite_some h
    exact s_l2i hd
  | i2b =>
    obtain ⟨rfl, rfl⟩ := ite_some h
    exact s_i2b hd
  | i2c =>
    obtain ⟨rfl, rfl⟩ := ite_some h
    exact s_i2c hd
  | dup =>
    obtain ⟨rfl, rfl⟩ := ite_some h
    exact s_dup hd
  | dup2 =>
    obtain ⟨rfl, rfl⟩ := ite_some h
    exact s_dup2 hd
  | pop =>
    obtain ⟨rfl, rfl⟩ := ite_some h
    exact s_pop hd
  | iaload =>
    obtain ⟨rfl, rfl⟩ := ite_some h
    exact s_iaload hd
  | baload =>
    obtain ⟨rfl, rfl⟩ := ite_some h
    exact s_baload hd
  | aaload =>
    obtain ⟨rfl, rfl⟩ := ite_some h
    exact s_aaload hd
  | iastore =>
    obtain ⟨rfl, rfl⟩ := ite_some h
    exact s_iastore hd
  | bastore =>
    obtain ⟨rfl, rfl⟩ := ite_some h
    exact s_bastore hd
  | aastore =>
    obtain ⟨rfl, rfl⟩ := ite_some h
    exact s_aastore hd
  | arraylength =>
    obtain ⟨rfl, rfl⟩ := ite_some h
    exact s_alen hd
  | iload k =>
    obtain ⟨rfl, rfl⟩ := ite_some h
    exact s_iload hd
  | iload_n k =>
    obtain ⟨rfl, rfl⟩ := ite_some h
    exact s_iload_n hd rfl
  | lload k =>
    obtain ⟨rfl, rfl⟩ := ite_some h
    exact s_lload hd
  | lload_n k =>
    obtain ⟨rfl, rfl⟩ := ite_some h
    exact s_lload_n hd rfl
  | aload k =>
    obtain ⟨rfl, rfl⟩ := ite_some h
    exact s_aload hd
  | aload_n k =>
    obtain ⟨rfl, rfl⟩ := ite_some h
    exact s_aload_n hd rfl
  | istore k =>
    obtain ⟨rfl, rfl⟩ := ite_some h
    exact s_istore hd
  | istore_n k =>
    obtain ⟨rfl, rfl⟩ := ite_some h
    exact s_istore_n hd rfl
  | lstore k =>
    obtain ⟨rfl, rfl⟩ := ite_some h
    exact s_lstore hd
  | lstore_n k =>
    obtain ⟨rfl, rfl⟩ := ite_some h
    exact s_lstore_n hd rfl
  | astore k =>
    obtain ⟨rfl, rfl⟩ := ite_some h
    exact s_astore hd
  | astore_n k =>
    obtain ⟨rfl, rfl⟩ := ite_some h
    exact s_astore_n hd rfl
  | iconst n =>
    obtain ⟨rfl, rfl⟩ := ite_some h
    exact s_iconst hd
  | bipush n =>
    obtain ⟨⟨rfl, g⟩, rfl⟩ := ite_some h
    exact s_bipush hd g
  | sipush n =>
    obtain ⟨⟨rfl, g⟩, rfl⟩ := ite_some h
    exact s_sipush hd g
  | lconst n =>
    obtain ⟨⟨rfl, g⟩, rfl⟩ := ite_some h
    exact s_lconst hd g
  | ldc i =>
    simp only [tr] at h
    split at h
    · rename_i g
      subst g
      split at h
      · rename_i r hr
        cases h
        obtain ⟨m1, m2, m3⟩ := lk2_mem hr
        have w := inW_tG (List.all_eq_true.mp kTab_ok r m1)
        rw [m2, m3, ← hK] at w
        exact s_ldc hd w
      · split at h
        · rename_i g2
          split at h
          · rename_i j hj
            cases h
            obtain ⟨tx, ht⟩ := sPl_ok hj
            exact s_ldcS hd (by rw [hK]; exact g2) ht
          · cases h
        · cases h
    · cases h
  | ldc_w i =>
    simp only [tr] at h
    split at h
    · rename_i g
      subst g
      split at h
      · rename_i r hr
        cases h
        obtain ⟨m1, m2, m3⟩ := lk2_mem hr
        have w := inW_tG (List.all_eq_true.mp kTab_ok r m1)
        rw [m2, m3, ← hK] at w
        exact s_ldcw hd w
      · cases h
    · cases h
  | ldc2_w i =>
    simp only [tr] at h
    split at h
    · rename_i g
      subst g
      split at h
      · rename_i r hr
        cases h
        obtain ⟨m1, m2, m3⟩ := lk2_mem hr
        have w := inW_tG (List.all_eq_true.mp lTab_ok r m1)
        rw [m2, m3, ← hK] at w
        exact s_ldc2 hd w
      · cases h
    · cases h
  | iinc i n =>
    obtain ⟨rfl, rfl⟩ := ite_some h
    exact s_iinc hd
  | getstatic i =>
    simp only [tr] at h
    split at h
    · rename_i g
      subst g
      split at h
      · rename_i r hr
        obtain ⟨m1, m2, m3⟩ := lk2_mem hr
        have w := List.all_eq_true.mp gTab_ok r m1
        unfold gOk at w
        split at h
        · rename_i e9; rw [e9] at w; cases h
          simp only at w
          rw [m2, m3, ← hK] at w
          exact s_gets_mt hd (inW_tG w)
        · rename_i e9; rw [e9] at w; cases h
          simp only at w
          rw [m2, m3, ← hK] at w
          exact s_gets_mtn hd (inN_nW w)
        · rename_i e9; rw [e9] at w; cases h
          simp only at w
          rw [m2, m3, ← hK] at w
          exact s_gets_no hd (inW_tG w)
        · rename_i e9; rw [e9] at w; cases h
          simp only at w
          rw [m2, m3, ← hK] at w
          exact s_gets_cs hd (inW_tG w)
        · rename_i e9; rw [e9] at w; cases h
          simp only at w
          rw [m2, m3, ← hK] at w
          exact s_gets_sf hd (inW_tG w)
        · cases h
      · cases h
    · cases h
  | getfield i =>
    simp only [tr] at h
    split at h
    · rename_i g
      subst g
      split at h
      · rename_i r hr
        obtain ⟨m1, m2, m3⟩ := lk2_mem hr
        have w := List.all_eq_true.mp fTab_ok r m1
        unfold fOk at w
        split at h
        · rename_i g2
          cases h
          rw [if_pos g2, Bool.and_eq_true, decide_eq_true_eq, m2, m3, ← hK] at w
          have hk := cl100 _ g2 _ w.1
          show Seg S K pc (pc + 3) (x_get ((r.2.2.1 * 100 + r.2.2.2.1) / 100) ((r.2.2.1 * 100 + r.2.2.2.1) % 100))
          rw [hk.1, hk.2]
          exact s_get hd g2 w.1 (inW_tG w.2)
        · rename_i g2
          cases h
          rw [if_neg g2, Bool.and_eq_true, decide_eq_true_eq, m2, m3, ← hK] at w
          exact s_gstr hd w.1 (inW_tG w.2)
      · cases h
    · cases h
  | putfield i =>
    simp only [tr] at h
    split at h
    · rename_i g
      subst g
      split at h
      · rename_i r hr
        obtain ⟨m1, m2, m3⟩ := lk2_mem hr
        have w := List.all_eq_true.mp fTab_ok r m1
        unfold fOk at w
        obtain ⟨⟨g2, g3⟩, rfl⟩ := ite_some h
        rw [if_pos g2, Bool.and_eq_true, decide_eq_true_eq, m2, m3, ← hK] at w
        have hk := cl100 _ g2 _ w.1
        show Seg S K pc (pc + 3) (if fT ((r.2.2.1 * 100 + r.2.2.2.1) / 100) ((r.2.2.1 * 100 + r.2.2.2.1) % 100) = 1 then x_putl ((r.2.2.1 * 100 + r.2.2.2.1) / 100) ((r.2.2.1 * 100 + r.2.2.2.1) % 100) else if fT ((r.2.2.1 * 100 + r.2.2.2.1) / 100) ((r.2.2.1 * 100 + r.2.2.2.1) % 100) = 2 then x_putr ((r.2.2.1 * 100 + r.2.2.2.1) / 100) ((r.2.2.1 * 100 + r.2.2.2.1) % 100) else x_puti ((r.2.2.1 * 100 + r.2.2.2.1) / 100) ((r.2.2.1 * 100 + r.2.2.2.1) % 100))
        rw [hk.1, hk.2]
        by_cases f1 : fT r.2.2.1 r.2.2.2.1 = 1
        · rw [if_pos f1]
          rw [if_neg (by omega)] at g3
          exact s_putl hd g2 w.1 (inW_tG w.2) g3 f1
        · rw [if_neg f1]
          by_cases f2 : fT r.2.2.1 r.2.2.2.1 = 2
          · rw [if_pos f2]
            rw [if_pos f2] at g3
            exact s_putr hd g2 w.1 (inW_tG w.2) g3.1 (hN.trans g3.2.1) (by rw [hK]; exact g3.2.2) f2
          · rw [if_neg f2]
            rw [if_neg f2] at g3
            exact s_puti hd g2 w.1 (inW_tG w.2) g3 f1 f2
      · cases h
    · cases h
  | new i =>
    simp only [tr] at h
    split at h
    · rename_i g
      subst g
      split at h
      · rename_i r hr
        cases h
        obtain ⟨m1, m2, m3⟩ := lk2_mem hr
        have w := List.all_eq_true.mp nTab_ok r m1
        unfold nOk at w
        rw [m2, m3, ← hK] at w
        simp only [Bool.and_eq_true, decide_eq_true_eq] at w
        exact s_new hd w.1 (inW_tG w.2.1) (inW_tG w.2.2.1) (inW_tG w.2.2.2)
      · cases h
    · cases h
  | newarray t =>
    simp only [tr] at h
    split at h
    · rename_i g
      subst g
      cases t with
      | int => cases h; exact s_newa_i hd aW_i
      | byte => cases h; exact s_newa_b hd aW_b
      | boolean => cases h; exact s_newa_z hd aW_z
      | _ => cases h
    · cases h
  | anewarray i =>
    simp only [tr] at h
    split at h
    · rename_i g
      subst g
      split at h
      · rename_i r hr
        cases h
        obtain ⟨m1, m2, m3⟩ := lk2_mem hr
        have w := List.all_eq_true.mp aTab_ok r m1
        unfold aOk at w
        rw [m2, m3, ← hK] at w
        simp only [Bool.and_eq_true, decide_eq_true_eq] at w
        obtain ⟨w1, w2, w3⟩ := w
        rcases w1 with w1 | w1
        · rw [w1] at w2 w3 ⊢
          exact s_anew_sl hd (inW_tG w2) (inN_nW w3)
        · rw [w1] at w2 w3 ⊢
          exact s_anew_st hd (inW_tG w2) (inN_nW w3)
      · cases h
    · cases h
  | multianewarray i n =>
    simp only [tr] at h
    split at h
    · rename_i g
      obtain ⟨rfl, rfl⟩ := g
      split at h
      · rename_i r hr
        cases h
        obtain ⟨m1, m2, m3⟩ := lk2_mem hr
        have w := List.all_eq_true.mp mTab_ok r m1
        unfold mOk at w
        rw [m2, m3, ← hK] at w
        simp only [Bool.and_eq_true] at w
        exact s_mna hd (inW_tG w.1) (inN_nW w.2.1) (inW_tG w.2.2)
      · cases h
    · cases h
  | invokespecial i =>
    simp only [tr] at h
    split at h
    · rename_i g
      obtain ⟨rfl, g1, g2⟩ := g
      split at h
      · rename_i r hr
        cases h
        obtain ⟨m1, m2, m3⟩ := lk2_mem hr
        have w := List.all_eq_true.mp oTab_ok r m1
        unfold oOk at w
        rw [m2, m3, ← hK] at w
        simp only [Bool.and_eq_true] at w
        exact s_oin hd (inW_tG w.1) (inW_tG w.2.1) (inW_tG w.2.2) (by rw [hF]; exact g1) (by rw [hL]; exact g2)
      · cases h
    · cases h
  | invokestatic i =>
    simp only [tr] at h
    split at h
    · rename_i g
      obtain ⟨rfl, g1, g2⟩ := g
      split at h
      · rename_i r hr
        cases h
        obtain ⟨m1, m2, m3⟩ := lk2_mem hr
        have w := List.all_eq_true.mp xTab_ok r m1
        unfold xOk at w
        rw [m2, m3, ← hK] at w
        split at w
        · rename_i e9
          simp only [Bool.and_eq_true] at w
          rw [e9]
          exact s_max hd (inW_tG w.1) (inW_tG w.2.1) (inW_tG w.2.2.1) (inW_tG w.2.2.2) (by rw [hF]; exact g1) (by rw [hL]; exact g2)
        · rename_i e9
          simp only [Bool.and_eq_true] at w
          rw [e9]
          exact s_min hd (inW_tG w.1) (inW_tG w.2.1) (inW_tG w.2.2.1) (inW_tG w.2.2.2) (by rw [hF]; exact g1) (by rw [hL]; exact g2)
        · cases w
      · split at h
        · rename_i g3
          split at h
          · rename_i r hr
            cases h
            obtain ⟨m1, m2, m3⟩ := lk2_mem hr
            have w := List.all_eq_true.mp cTab_ok r m1
            unfold cOk at w
            rw [m2, m3, ← hK] at w
            simp only [Bool.and_eq_true] at w
            exact s_acp hd (inW_tG w.1) (inW_tG w.2.1) (inW_tG w.2.2.1) (inW_tG w.2.2.2) (by rw [hF]; exact g1) (by rw [hL]; exact g3)
          · cases h
        · cases h
    · cases h
  | _ => (have h : none = some i := h); cases h
def chkI (o : Nat) (nm : String) (fr lo : Nat) (cc : ByteArray) : Nat → List In → Option Nat
  | pc, [] => some pc
  | pc, i :: r => match decode cc pc with
    | .ok q => if tr o nm fr lo q = some i then chkI o nm fr lo cc (pc + q.2) r else none
    | .error _ => none
theorem exL_ok {S : List Int} {K : Mt} : ∀ (is : List In) (pc q : Nat) (σ σ' : St), chkI K.1 K.2.1 K.2.2.2.2.1 K.2.2.2.2.2 K.2.2.1 pc is = some q → exL S is σ = some σ' → Gos S K pc q σ σ'
  | [], pc, q, σ, σ', h, e => by
    cases h
    cases e
    exact Gos.rf _ _ _ _
  | i :: r, pc, q, σ, σ', h, e => by
    unfold chkI at h
    split at h
    · rename_i x hx
      split at h
      · rename_i ht
        obtain ⟨ins, len⟩ := x
        unfold exL at e
        cases e1 : ex S i σ with
        | none => rw [e1] at e; cases e
        | some τ =>
          rw [e1] at e
          exact (tr_ok rfl rfl rfl rfl ht hx σ τ e1).tr (exL_ok r _ q τ σ' h e)
      · cases h
    · cases h
