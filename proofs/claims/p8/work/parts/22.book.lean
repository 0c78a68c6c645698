set_option maxHeartbeats 4000000 in
set_option maxRecDepth 100000 in
theorem mX0_classOf {l : Launch} {D : va_G} {k : zK} {E : zE} (hE : zEok E) (sg : Int) : zMi l D k E yX0_classOf cX0_classOf 1 .int { frames := 0, cells := 0, slots := 0, locals := 0 } 0 0 [.inl sg] [] (True) (fun z u => u = [] ∧ ((sg = 97 ∨ sg = 101 → z = 0) ∧ (sg ≠ 97 → sg ≠ 101 → z = 1))) := by
  refine zMi.of RX0 hE (by decide) rfl (by simp) (fun _ _ _ _ => rfl) ?_
  intro Z hP hav hwr B
  obtain ⟨l_sg, u_sg⟩ : zR sg := hav (.inl sg) (by simp)
  show Z 0 0 0 [some (.inl sg)] [] _
  refine B.iload_n (pc := 0) (i := 0) dX0_classOf_0 rfl rfl ?_
  refine B.bipush (pc := 1) dX0_classOf_1 ⟨by decide, by decide⟩ ?_
  refine B.icmp_eq (pc := 3) (tgt := 12) dX0_classOf_3 (by decide) (fun c3 => ?_) (fun c3 => ?_)
  · refine B.iconst (pc := 12) dX0_classOf_12 ⟨by decide, by decide⟩ ?_
    refine B.goto (pc := 13) (tgt := 17) dX0_classOf_13 (by decide) ?_
    refine B.ireturn (pc := 17) (by simp) dX0_classOf_17 (Nat.le_refl _) (Nat.le_refl _) (fun rz rw => ⟨rfl, ?_⟩)
    omega
  · refine B.iload_n (pc := 6) (i := 0) dX0_classOf_6 rfl rfl ?_
    refine B.bipush (pc := 7) dX0_classOf_7 ⟨by decide, by decide⟩ ?_
    refine B.icmp_ne (pc := 9) (tgt := 16) dX0_classOf_9 (by decide) (fun c9 => ?_) (fun c9 => ?_)
    · refine B.iconst (pc := 16) dX0_classOf_16 ⟨by decide, by decide⟩ ?_
      refine B.ireturn (pc := 17) (by simp) dX0_classOf_17 (Nat.le_refl _) (Nat.le_refl _) (fun rz rw => ⟨rfl, ?_⟩)
      omega
    · refine B.iconst (pc := 12) dX0_classOf_12 ⟨by decide, by decide⟩ ?_
      refine B.goto (pc := 13) (tgt := 17) dX0_classOf_13 (by decide) ?_
      refine B.ireturn (pc := 17) (by simp) dX0_classOf_17 (Nat.le_refl _) (Nat.le_refl _) (fun rz rw => ⟨rfl, ?_⟩)
      omega
set_option maxHeartbeats 4000000 in
set_option maxRecDepth 100000 in
theorem mX0_takeLine {l : Launch} {D : va_G} {k : zK} {E : zE} (hE : zEok E) (b_a b_dictionary_a b_dictionary_letters_a b_dictionary_lengths_a b_dictionary_kinds_a b_dictionary_costs_a b_joins_a b_rules_a b_line_a p_a p_signs_a : Nat) (b_dictionary_count b_lineLength p_count p_letters p_kind p_cost : Int) (b_dictionary_letters b_dictionary_lengths b_dictionary_kinds b_dictionary_costs b_joins b_rules b_line p_signs : Nat → Int) : zMv l D k E yX0_takeLine cX0_takeLine 2 { frames := 1, cells := 0, slots := 0, locals := 26 } 0 0 [.inr (some b_a), .inr (some p_a)] [(b_a, .inr (.inr (0, [.inr (some b_dictionary_a), .inr (some b_joins_a), .inr (some b_rules_a), .inr (some b_line_a), .inl b_lineLength]))), (b_dictionary_a, .inr (.inr (1, [.inr (some b_dictionary_letters_a), .inr (some b_dictionary_lengths_a), .inr (some b_dictionary_kinds_a), .inr (some b_dictionary_costs_a), .inl b_dictionary_count]))), (b_dictionary_letters_a, .inl (false, 96, b_dictionary_letters)), (b_dictionary_lengths_a, .inl (false, 16, b_dictionary_lengths)), (b_dictionary_kinds_a, .inl (false, 16, b_dictionary_kinds)), (b_dictionary_costs_a, .inl (false, 16, b_dictionary_costs)), (b_joins_a, .inl (false, 25, b_joins)), (b_rules_a, .inl (false, 4, b_rules)), (b_line_a, .inl (false, 24, b_line)), (p_a, .inr (.inr (3, [.inr (some p_signs_a), .inl p_count, .inl p_letters, .inl p_kind, .inl p_cost]))), (p_signs_a, .inl (false, 40, p_signs))] (0 ≤ p_count ∧ p_count ≤ 40) (fun z u => ∃ (b_line' : Nat → Int) (b_lineLength' : Int), u = [(b_a, .inr (.inr (0, [.inr (some b_dictionary_a), .inr (some b_joins_a), .inr (some b_rules_a), .inr (some b_line_a), .inl b_lineLength']))), (b_dictionary_a, .inr (.inr (1, [.inr (some b_dictionary_letters_a), .inr (some b_dictionary_lengths_a), .inr (some b_dictionary_kinds_a), .inr (some b_dictionary_costs_a), .inl b_dictionary_count]))), (b_dictionary_letters_a, .inl (false, 96, b_dictionary_letters)), (b_dictionary_lengths_a, .inl (false, 16, b_dictionary_lengths)), (b_dictionary_kinds_a, .inl (false, 16, b_dictionary_kinds)), (b_dictionary_costs_a, .inl (false, 16, b_dictionary_costs)), (b_joins_a, .inl (false, 25, b_joins)), (b_rules_a, .inl (false, 4, b_rules)), (b_line_a, .inl (false, 24, b_line')), (p_a, .inr (.inr (3, [.inr (some p_signs_a), .inl p_count, .inl p_letters, .inl p_kind, .inl p_cost]))), (p_signs_a, .inl (false, 40, p_signs))] ∧ (0 ≤ b_lineLength' ∧ b_lineLength' ≤ 24 ∧ (p_count ≤ 24 → b_lineLength' = p_count) ∧ (∀ j : Nat, (j : Int) < b_lineLength' → b_line' j = p_signs j))) := by
  refine zMv.of RX0 hE (by decide) rfl (by simp) ?_
  intro Z hP hav hwr B
  obtain ⟨l_b_lineLength, u_b_lineLength⟩ : zR b_lineLength := zWr_at hwr (i := 0) rfl (.inl b_lineLength) (by simp)
  obtain ⟨l_b_dictionary_count, u_b_dictionary_count⟩ : zR b_dictionary_count := zWr_at hwr (i := 1) rfl (.inl b_dictionary_count) (by simp)
  obtain ⟨l_p_count, u_p_count⟩ : zR p_count := zWr_at hwr (i := 9) rfl (.inl p_count) (by simp)
  obtain ⟨l_p_letters, u_p_letters⟩ : zR p_letters := zWr_at hwr (i := 9) rfl (.inl p_letters) (by simp)
  obtain ⟨l_p_kind, u_p_kind⟩ : zR p_kind := zWr_at hwr (i := 9) rfl (.inl p_kind) (by simp)
  obtain ⟨l_p_cost, u_p_cost⟩ : zR p_cost := zWr_at hwr (i := 9) rfl (.inl p_cost) (by simp)
  show Z 0 0 0 [some (.inr (some b_a)), some (.inr (some p_a))] [] _
  refine B.aload_n (pc := 0) (i := 0) dX0_takeLine_0 rfl rfl ?_
  refine B.aload_n (pc := 1) (i := 1) dX0_takeLine_1 rfl rfl ?_
  refine B.getfield (pc := 2) 9 rfl rfl inX3z 1 (by decide) fl_X0_28 rfl dX0_takeLine_2 ?_
  refine B.bipush (pc := 5) dX0_takeLine_5 ⟨by decide, by decide⟩ ?_
  refine B.mmin (pc := 7) ml_X0_34 sm_J9_min_7cf53 it_J9 co_J9_min_7cf53 (by decide) (Nat.le_of_ble_eq_true rfl) (by decide) (by decide) dX0_takeLine_7 (fun w7 rw7 aw7 bw7 ow7 => ?_)
  obtain ⟨lw7, uw7⟩ := rw7
  refine B.putfield (pc := 10) 0 rfl rfl inX0z tyX0 tyX0_ok nmX0 4 (by decide) fl_X0_40 rfl rfl rfl (Nat.le_of_ble_eq_true rfl) dX0_takeLine_10 ?_
  simp only [List.set_cons_zero, List.set_cons_succ]
  refine B.aload_n (pc := 13) (i := 1) dX0_takeLine_13 rfl rfl ?_
  refine B.getfield (pc := 14) 9 rfl rfl inX3z 0 (by decide) fl_X0_43 rfl dX0_takeLine_14 ?_
  refine B.iconst (pc := 17) dX0_takeLine_17 ⟨by decide, by decide⟩ ?_
  refine B.aload_n (pc := 18) (i := 0) dX0_takeLine_18 rfl rfl ?_
  refine B.getfield (pc := 19) 0 rfl rfl inX0z 3 (by decide) fl_X0_25 rfl dX0_takeLine_19 ?_
  refine B.iconst (pc := 22) dX0_takeLine_22 ⟨by decide, by decide⟩ ?_
  refine B.aload_n (pc := 23) (i := 0) dX0_takeLine_23 rfl rfl ?_
  refine B.getfield (pc := 24) 0 rfl rfl inX0z 4 (by decide) fl_X0_40 rfl dX0_takeLine_24 ?_
  refine B.acopy (pc := 27) ml_X0_46 na_java_lang_System_arraycopy sm_java_lang_System_arraycopy it_J10 10 8 rfl rfl (by omega) (by omega) (by omega) (by omega) (by omega) (by decide) (Nat.le_of_ble_eq_true rfl) dX0_takeLine_27 ?_
  simp only [List.set_cons_zero, List.set_cons_succ]
  refine B.vreturn (pc := 30) rfl dX0_takeLine_30 (Nat.le_refl _) (Nat.le_refl _) (fun rw => ⟨_, _, rfl, ?_⟩)
  refine ⟨by omega, by omega, by omega, fun j hj => ?_⟩
  rw [zcp_in (by omega) (by omega)]
  congr 1
  omega
set_option maxHeartbeats 4000000 in
set_option maxRecDepth 100000 in
theorem mX0_runLength {l : Launch} {D : va_G} {k : zK} {E : zE} (hE : zEok E) (b_a b_dictionary_a b_dictionary_letters_a b_dictionary_lengths_a b_dictionary_kinds_a b_dictionary_costs_a b_joins_a b_rules_a b_line_a : Nat) (b_dictionary_count b_lineLength place : Int) (b_dictionary_letters b_dictionary_lengths b_dictionary_kinds b_dictionary_costs b_joins b_rules b_line : Nat → Int) : zMi l D k E yX0_runLength cX0_runLength 4 .int { frames := 1, cells := 0, slots := 0, locals := 21 } 0 0 [.inr (some b_a), .inl place] [(b_a, .inr (.inr (0, [.inr (some b_dictionary_a), .inr (some b_joins_a), .inr (some b_rules_a), .inr (some b_line_a), .inl b_lineLength]))), (b_dictionary_a, .inr (.inr (1, [.inr (some b_dictionary_letters_a), .inr (some b_dictionary_lengths_a), .inr (some b_dictionary_kinds_a), .inr (some b_dictionary_costs_a), .inl b_dictionary_count]))), (b_dictionary_letters_a, .inl (false, 96, b_dictionary_letters)), (b_dictionary_lengths_a, .inl (false, 16, b_dictionary_lengths)), (b_dictionary_kinds_a, .inl (false, 16, b_dictionary_kinds)), (b_dictionary_costs_a, .inl (false, 16, b_dictionary_costs)), (b_joins_a, .inl (false, 25, b_joins)), (b_rules_a, .inl (false, 4, b_rules)), (b_line_a, .inl (false, 24, b_line))] (b_lineLength ≤ 24 ∧ 0 ≤ place ∧ place < b_lineLength) (fun z u => u = [(b_a, .inr (.inr (0, [.inr (some b_dictionary_a), .inr (some b_joins_a), .inr (some b_rules_a), .inr (some b_line_a), .inl b_lineLength]))), (b_dictionary_a, .inr (.inr (1, [.inr (some b_dictionary_letters_a), .inr (some b_dictionary_lengths_a), .inr (some b_dictionary_kinds_a), .inr (some b_dictionary_costs_a), .inl b_dictionary_count]))), (b_dictionary_letters_a, .inl (false, 96, b_dictionary_letters)), (b_dictionary_lengths_a, .inl (false, 16, b_dictionary_lengths)), (b_dictionary_kinds_a, .inl (false, 16, b_dictionary_kinds)), (b_dictionary_costs_a, .inl (false, 16, b_dictionary_costs)), (b_joins_a, .inl (false, 25, b_joins)), (b_rules_a, .inl (false, 4, b_rules)), (b_line_a, .inl (false, 24, b_line))] ∧ (1 ≤ z ∧ z ≤ 6 ∧ place + z ≤ b_lineLength)) := by
  refine zMi.of RX0 hE (by decide) rfl (by simp) (fun _ _ _ _ => rfl) ?_
  intro Z hP hav hwr B
  obtain ⟨l_place, u_place⟩ : zR place := hav (.inl place) (by simp)
  obtain ⟨l_b_lineLength, u_b_lineLength⟩ : zR b_lineLength := zWr_at hwr (i := 0) rfl (.inl b_lineLength) (by simp)
  obtain ⟨l_b_dictionary_count, u_b_dictionary_count⟩ : zR b_dictionary_count := zWr_at hwr (i := 1) rfl (.inl b_dictionary_count) (by simp)
  have key : ∀ mu_ : Nat, (∀ (lv : List (Option zV)) (ws : zW), (∃ (e : Int) (t : Int), lv = [some (.inr (some b_a)), some (.inl place), some (.inl e), some (.inl t)] ∧ ws = [(b_a, .inr (.inr (0, [.inr (some b_dictionary_a), .inr (some b_joins_a), .inr (some b_rules_a), .inr (some b_line_a), .inl b_lineLength]))), (b_dictionary_a, .inr (.inr (1, [.inr (some b_dictionary_letters_a), .inr (some b_dictionary_lengths_a), .inr (some b_dictionary_kinds_a), .inr (some b_dictionary_costs_a), .inl b_dictionary_count]))), (b_dictionary_letters_a, .inl (false, 96, b_dictionary_letters)), (b_dictionary_lengths_a, .inl (false, 16, b_dictionary_lengths)), (b_dictionary_kinds_a, .inl (false, 16, b_dictionary_kinds)), (b_dictionary_costs_a, .inl (false, 16, b_dictionary_costs)), (b_joins_a, .inl (false, 25, b_joins)), (b_rules_a, .inl (false, 4, b_rules)), (b_line_a, .inl (false, 24, b_line))] ∧ mu_ = (e - t).toNat ∧ (place ≤ t ∧ t ≤ e ∧ place < e ∧ e ≤ b_lineLength ∧ e ≤ place + 6)) → Z 0 0 14 lv [] ws) := by
    intro mu_
    induction mu_ using Nat.strongRecOn with
    | _ mu_ ih =>
      · intro lv ws hJ
        obtain ⟨e, t, rfl, rfl, rfl, hi⟩ := hJ
        refine B.iload_n (pc := 14) (i := 3) dX0_runLength_14 rfl rfl ?_
        refine B.iload_n (pc := 15) (i := 2) dX0_runLength_15 rfl rfl ?_
        refine B.icmp_ge (pc := 16) (tgt := 46) dX0_runLength_16 (by decide) (fun c16 => ?_) (fun c16 => ?_)
        · refine B.iload_n (pc := 46) (i := 3) dX0_runLength_46 rfl rfl ?_
          refine B.iload_n (pc := 47) (i := 1) dX0_runLength_47 rfl rfl ?_
          refine B.isub (pc := 48) dX0_runLength_48 ⟨by omega, by omega⟩ ?_
          refine B.ireturn (pc := 49) (by simp) dX0_runLength_49 (Nat.le_refl _) (Nat.le_refl _) (fun rz rw => ⟨rfl, ?_⟩)
          by_cases hh : t = place
          · subst hh; omega
          · omega
        · refine B.aload_n (pc := 19) (i := 0) dX0_runLength_19 rfl rfl ?_
          refine B.getfield (pc := 20) 0 rfl rfl inX0z 3 (by decide) fl_X0_25 rfl dX0_runLength_20 ?_
          refine B.iload_n (pc := 23) (i := 3) dX0_runLength_23 rfl rfl ?_
          refine B.iaload (pc := 24) 8 rfl (by omega) (by omega) dX0_runLength_24 (fun r24 => ?_)
          obtain ⟨lr24, ur24⟩ := r24
          refine B.callSi (pc := 25) 1 (mX0_classOf hE _) ml_X0_52 sm_X0_classOf it_X0 co_X0_classOf (by decide +kernel) rfl rfl rfl ⟨by decide, by decide⟩ ⟨by decide, by decide⟩ [] rfl rfl rfl (Nat.le_of_ble_eq_true rfl) dX0_runLength_25 (fun _ => trivial) (fun zk25 uk25 rzk25 ruk25 rak25 hqk25 => ?_)
          obtain ⟨lzk25, uzk25⟩ := rzk25
          obtain ⟨rfl, hk25⟩ := hqk25
          simp only [zput, List.append_nil, Nat.add_zero]
          refine B.aload_n (pc := 28) (i := 0) dX0_runLength_28 rfl rfl ?_
          refine B.getfield (pc := 29) 0 rfl rfl inX0z 3 (by decide) fl_X0_25 rfl dX0_runLength_29 ?_
          refine B.iload_n (pc := 32) (i := 1) dX0_runLength_32 rfl rfl ?_
          refine B.iaload (pc := 33) 8 rfl (by omega) (by omega) dX0_runLength_33 (fun r33 => ?_)
          obtain ⟨lr33, ur33⟩ := r33
          refine B.callSi (pc := 34) 1 (mX0_classOf hE _) ml_X0_52 sm_X0_classOf it_X0 co_X0_classOf (by decide +kernel) rfl rfl rfl ⟨by decide, by decide⟩ ⟨by decide, by decide⟩ [] rfl rfl rfl (Nat.le_of_ble_eq_true rfl) dX0_runLength_34 (fun _ => trivial) (fun zk34 uk34 rzk34 ruk34 rak34 hqk34 => ?_)
          obtain ⟨lzk34, uzk34⟩ := rzk34
          obtain ⟨rfl, hk34⟩ := hqk34
          simp only [zput, List.append_nil, Nat.add_zero]
          refine B.icmp_ne (pc := 37) (tgt := 46) dX0_runLength_37 (by decide) (fun c37 => ?_) (fun c37 => ?_)
          · refine B.iload_n (pc := 46) (i := 3) dX0_runLength_46 rfl rfl ?_
            refine B.iload_n (pc := 47) (i := 1) dX0_runLength_47 rfl rfl ?_
            refine B.isub (pc := 48) dX0_runLength_48 ⟨by omega, by omega⟩ ?_
            refine B.ireturn (pc := 49) (by simp) dX0_runLength_49 (Nat.le_refl _) (Nat.le_refl _) (fun rz rw => ⟨rfl, ?_⟩)
            by_cases hh : t = place
            · subst hh; omega
            · omega
          · refine B.iinc (pc := 40) dX0_runLength_40 (by decide) rfl ⟨by omega, by omega⟩ ?_
            simp only [List.set_cons_zero, List.set_cons_succ]
            refine B.goto (pc := 43) (tgt := 14) dX0_runLength_43 (by decide) ?_
            refine (ih _ ?_) _ _ ⟨_, _, rfl, rfl, rfl, ?_⟩
            · omega
            · omega
  show Z 0 0 0 [some (.inr (some b_a)), some (.inl place), none, none] [] _
  refine B.aload_n (pc := 0) (i := 0) dX0_runLength_0 rfl rfl ?_
  refine B.getfield (pc := 1) 0 rfl rfl inX0z 4 (by decide) fl_X0_40 rfl dX0_runLength_1 ?_
  refine B.iload_n (pc := 4) (i := 1) dX0_runLength_4 rfl rfl ?_
  refine B.bipush (pc := 5) dX0_runLength_5 ⟨by decide, by decide⟩ ?_
  refine B.iadd (pc := 7) dX0_runLength_7 ⟨by omega, by omega⟩ ?_
  refine B.mmin (pc := 8) ml_X0_34 sm_J9_min_7cf53 it_J9 co_J9_min_7cf53 (by decide) (Nat.le_of_ble_eq_true rfl) (by decide) (by decide) dX0_runLength_8 (fun w8 rw8 aw8 bw8 ow8 => ?_)
  obtain ⟨lw8, uw8⟩ := rw8
  refine B.istore_n (pc := 11) (i := 2) dX0_runLength_11 rfl (by decide) ?_
  simp only [List.set_cons_zero, List.set_cons_succ]
  refine B.iload_n (pc := 12) (i := 1) dX0_runLength_12 rfl rfl ?_
  refine B.istore_n (pc := 13) (i := 3) dX0_runLength_13 rfl (by decide) ?_
  simp only [List.set_cons_zero, List.set_cons_succ]
  refine (key _) _ _ ⟨_, _, rfl, rfl, rfl, ?_⟩
  omega
set_option maxHeartbeats 4000000 in
set_option maxRecDepth 100000 in
theorem mX0_copy {l : Launch} {D : va_G} {k : zK} {E : zE} (hE : zEok E) (b_a b_dictionary_a b_dictionary_letters_a b_dictionary_lengths_a b_dictionary_kinds_a b_dictionary_costs_a b_joins_a b_rules_a b_line_a o_a o_dictionary_a o_dictionary_letters_a o_dictionary_lengths_a o_dictionary_kinds_a o_dictionary_costs_a o_joins_a o_rules_a o_line_a : Nat) (b_dictionary_count b_lineLength o_dictionary_count o_lineLength : Int) (b_dictionary_letters b_dictionary_lengths b_dictionary_kinds b_dictionary_costs b_joins b_rules b_line o_dictionary_letters o_dictionary_lengths o_dictionary_kinds o_dictionary_costs o_joins o_rules o_line : Nat → Int) : zMv l D k E yX0_copy cX0_copy 2 { frames := 2, cells := 0, slots := 0, locals := 47 } 0 0 [.inr (some b_a), .inr (some o_a)] [(b_a, .inr (.inr (0, [.inr (some b_dictionary_a), .inr (some b_joins_a), .inr (some b_rules_a), .inr (some b_line_a), .inl b_lineLength]))), (b_dictionary_a, .inr (.inr (1, [.inr (some b_dictionary_letters_a), .inr (some b_dictionary_lengths_a), .inr (some b_dictionary_kinds_a), .inr (some b_dictionary_costs_a), .inl b_dictionary_count]))), (b_dictionary_letters_a, .inl (false, 96, b_dictionary_letters)), (b_dictionary_lengths_a, .inl (false, 16, b_dictionary_lengths)), (b_dictionary_kinds_a, .inl (false, 16, b_dictionary_kinds)), (b_dictionary_costs_a, .inl (false, 16, b_dictionary_costs)), (b_joins_a, .inl (false, 25, b_joins)), (b_rules_a, .inl (false, 4, b_rules)), (b_line_a, .inl (false, 24, b_line)), (o_a, .inr (.inr (0, [.inr (some o_dictionary_a), .inr (some o_joins_a), .inr (some o_rules_a), .inr (some o_line_a), .inl o_lineLength]))), (o_dictionary_a, .inr (.inr (1, [.inr (some o_dictionary_letters_a), .inr (some o_dictionary_lengths_a), .inr (some o_dictionary_kinds_a), .inr (some o_dictionary_costs_a), .inl o_dictionary_count]))), (o_dictionary_letters_a, .inl (false, 96, o_dictionary_letters)), (o_dictionary_lengths_a, .inl (false, 16, o_dictionary_lengths)), (o_dictionary_kinds_a, .inl (false, 16, o_dictionary_kinds)), (o_dictionary_costs_a, .inl (false, 16, o_dictionary_costs)), (o_joins_a, .inl (false, 25, o_joins)), (o_rules_a, .inl (false, 4, o_rules)), (o_line_a, .inl (false, 24, o_line))] (True) (fun z u => ∃ (b_dictionary_count' : Int) (b_dictionary_letters' : Nat → Int) (b_dictionary_lengths' : Nat → Int) (b_dictionary_kinds' : Nat → Int) (b_dictionary_costs' : Nat → Int) (b_joins' : Nat → Int) (b_rules' : Nat → Int) (b_line' : Nat → Int) (b_lineLength' : Int), u = [(b_a, .inr (.inr (0, [.inr (some b_dictionary_a), .inr (some b_joins_a), .inr (some b_rules_a), .inr (some b_line_a), .inl b_lineLength']))), (b_dictionary_a, .inr (.inr (1, [.inr (some b_dictionary_letters_a), .inr (some b_dictionary_lengths_a), .inr (some b_dictionary_kinds_a), .inr (some b_dictionary_costs_a), .inl b_dictionary_count']))), (b_dictionary_letters_a, .inl (false, 96, b_dictionary_letters')), (b_dictionary_lengths_a, .inl (false, 16, b_dictionary_lengths')), (b_dictionary_kinds_a, .inl (false, 16, b_dictionary_kinds')), (b_dictionary_costs_a, .inl (false, 16, b_dictionary_costs')), (b_joins_a, .inl (false, 25, b_joins')), (b_rules_a, .inl (false, 4, b_rules')), (b_line_a, .inl (false, 24, b_line')), (o_a, .inr (.inr (0, [.inr (some o_dictionary_a), .inr (some o_joins_a), .inr (some o_rules_a), .inr (some o_line_a), .inl o_lineLength]))), (o_dictionary_a, .inr (.inr (1, [.inr (some o_dictionary_letters_a), .inr (some o_dictionary_lengths_a), .inr (some o_dictionary_kinds_a), .inr (some o_dictionary_costs_a), .inl o_dictionary_count]))), (o_dictionary_letters_a, .inl (false, 96, o_dictionary_letters)), (o_dictionary_lengths_a, .inl (false, 16, o_dictionary_lengths)), (o_dictionary_kinds_a, .inl (false, 16, o_dictionary_kinds)), (o_dictionary_costs_a, .inl (false, 16, o_dictionary_costs)), (o_joins_a, .inl (false, 25, o_joins)), (o_rules_a, .inl (false, 4, o_rules)), (o_line_a, .inl (false, 24, o_line))] ∧ (b_dictionary_count' = o_dictionary_count ∧ (∀ j : Nat, j < 96 → b_dictionary_letters' j = o_dictionary_letters j) ∧ (∀ j : Nat, j < 16 → b_dictionary_lengths' j = o_dictionary_lengths j) ∧ (∀ j : Nat, j < 16 → b_dictionary_kinds' j = o_dictionary_kinds j) ∧ (∀ j : Nat, j < 16 → b_dictionary_costs' j = o_dictionary_costs j) ∧ (∀ j : Nat, j < 25 → b_joins' j = o_joins j) ∧ (∀ j : Nat, j < 4 → b_rules' j = o_rules j) ∧ (∀ j : Nat, j < 24 → b_line' j = o_line j) ∧ b_lineLength' = o_lineLength)) := by
  refine zMv.of RX0 hE (by decide) rfl (by simp) ?_
  intro Z hP hav hwr B
  obtain ⟨l_b_lineLength, u_b_lineLength⟩ : zR b_lineLength := zWr_at hwr (i := 0) rfl (.inl b_lineLength) (by simp)
  obtain ⟨l_b_dictionary_count, u_b_dictionary_count⟩ : zR b_dictionary_count := zWr_at hwr (i := 1) rfl (.inl b_dictionary_count) (by simp)
  obtain ⟨l_o_lineLength, u_o_lineLength⟩ : zR o_lineLength := zWr_at hwr (i := 9) rfl (.inl o_lineLength) (by simp)
  obtain ⟨l_o_dictionary_count, u_o_dictionary_count⟩ : zR o_dictionary_count := zWr_at hwr (i := 10) rfl (.inl o_dictionary_count) (by simp)
  show Z 0 0 0 [some (.inr (some b_a)), some (.inr (some o_a))] [] _
  refine B.aload_n (pc := 0) (i := 0) dX0_copy_0 rfl rfl ?_
  refine B.getfield (pc := 1) 0 rfl rfl inX0z 0 (by decide) fl_X0_12 rfl dX0_copy_1 ?_
  refine B.aload_n (pc := 4) (i := 1) dX0_copy_4 rfl rfl ?_
  refine B.getfield (pc := 5) 9 rfl rfl inX0z 0 (by decide) fl_X0_12 rfl dX0_copy_5 ?_
  refine B.callVv (pc := 8) 1 (mX1_copy hE _ _ _ _ _ _ _ _ _ _ _ _ _ _ _ _ _ _ _ _) 1 rfl rfl ml_X0_56 im_X1_copy se_X1_copy it_X1 co_X1_copy (by decide +kernel) rfl rfl rfl ⟨by decide, by decide⟩ ⟨by decide, by decide⟩ [1, 2, 3, 4, 5, 10, 11, 12, 13, 14] rfl rfl rfl (Nat.le_of_ble_eq_true rfl) dX0_copy_8 (fun _ => trivial) (fun uk8 ruk8 rak8 hqk8 => ?_)
  obtain ⟨d_count_k8, d_letters_k8, d_lengths_k8, d_kinds_k8, d_costs_k8, rfl, hk8⟩ := hqk8
  simp only [zput, List.set_cons_zero, List.set_cons_succ, List.append_nil, Nat.add_zero]
  refine B.aload_n (pc := 11) (i := 1) dX0_copy_11 rfl rfl ?_
  refine B.getfield (pc := 12) 9 rfl rfl inX0z 1 (by decide) fl_X0_18 rfl dX0_copy_12 ?_
  refine B.iconst (pc := 15) dX0_copy_15 ⟨by decide, by decide⟩ ?_
  refine B.aload_n (pc := 16) (i := 0) dX0_copy_16 rfl rfl ?_
  refine B.getfield (pc := 17) 0 rfl rfl inX0z 1 (by decide) fl_X0_18 rfl dX0_copy_17 ?_
  refine B.iconst (pc := 20) dX0_copy_20 ⟨by decide, by decide⟩ ?_
  refine B.bipush (pc := 21) dX0_copy_21 ⟨by decide, by decide⟩ ?_
  refine B.acopy (pc := 23) ml_X0_46 na_java_lang_System_arraycopy sm_java_lang_System_arraycopy it_J10 15 6 rfl rfl (by omega) (by omega) (by omega) (by omega) (by omega) (by decide) (Nat.le_of_ble_eq_true rfl) dX0_copy_23 ?_
  simp only [List.set_cons_zero, List.set_cons_succ]
  refine B.aload_n (pc := 26) (i := 1) dX0_copy_26 rfl rfl ?_
  refine B.getfield (pc := 27) 9 rfl rfl inX0z 2 (by decide) fl_X0_22 rfl dX0_copy_27 ?_
  refine B.iconst (pc := 30) dX0_copy_30 ⟨by decide, by decide⟩ ?_
  refine B.aload_n (pc := 31) (i := 0) dX0_copy_31 rfl rfl ?_
  refine B.getfield (pc := 32) 0 rfl rfl inX0z 2 (by decide) fl_X0_22 rfl dX0_copy_32 ?_
  refine B.iconst (pc := 35) dX0_copy_35 ⟨by decide, by decide⟩ ?_
  refine B.iconst (pc := 36) dX0_copy_36 ⟨by decide, by decide⟩ ?_
  refine B.acopy (pc := 37) ml_X0_46 na_java_lang_System_arraycopy sm_java_lang_System_arraycopy it_J10 16 7 rfl rfl (by omega) (by omega) (by omega) (by omega) (by omega) (by decide) (Nat.le_of_ble_eq_true rfl) dX0_copy_37 ?_
  simp only [List.set_cons_zero, List.set_cons_succ]
  refine B.aload_n (pc := 40) (i := 1) dX0_copy_40 rfl rfl ?_
  refine B.getfield (pc := 41) 9 rfl rfl inX0z 3 (by decide) fl_X0_25 rfl dX0_copy_41 ?_
  refine B.iconst (pc := 44) dX0_copy_44 ⟨by decide, by decide⟩ ?_
  refine B.aload_n (pc := 45) (i := 0) dX0_copy_45 rfl rfl ?_
  refine B.getfield (pc := 46) 0 rfl rfl inX0z 3 (by decide) fl_X0_25 rfl dX0_copy_46 ?_
  refine B.iconst (pc := 49) dX0_copy_49 ⟨by decide, by decide⟩ ?_
  refine B.bipush (pc := 50) dX0_copy_50 ⟨by decide, by decide⟩ ?_
  refine B.acopy (pc := 52) ml_X0_46 na_java_lang_System_arraycopy sm_java_lang_System_arraycopy it_J10 17 8 rfl rfl (by omega) (by omega) (by omega) (by omega) (by omega) (by decide) (Nat.le_of_ble_eq_true rfl) dX0_copy_52 ?_
  simp only [List.set_cons_zero, List.set_cons_succ]
  refine B.aload_n (pc := 55) (i := 0) dX0_copy_55 rfl rfl ?_
  refine B.aload_n (pc := 56) (i := 1) dX0_copy_56 rfl rfl ?_
  refine B.getfield (pc := 57) 9 rfl rfl inX0z 4 (by decide) fl_X0_40 rfl dX0_copy_57 ?_
  refine B.putfield (pc := 60) 0 rfl rfl inX0z tyX0 tyX0_ok nmX0 4 (by decide) fl_X0_40 rfl rfl rfl (Nat.le_of_ble_eq_true rfl) dX0_copy_60 ?_
  simp only [List.set_cons_zero, List.set_cons_succ]
  refine B.vreturn (pc := 63) rfl dX0_copy_63 (Nat.le_refl _) (Nat.le_refl _) (fun rw => ⟨_, _, _, _, _, _, _, _, _, rfl, ?_⟩)
  obtain ⟨q1, q2, q3, q4, q5⟩ := hk8
  exact ⟨q1, q2, q3, q4, q5, fun j hj => zcp_all hj, fun j hj => zcp_all hj, fun j hj => zcp_all hj, rfl⟩
