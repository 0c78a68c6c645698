set_option maxHeartbeats 4000000 in
set_option maxRecDepth 100000 in
theorem mX7_cutting {l : Launch} {D : va_G} {k : zK} {E : zE} (hE : zEok E) (m_a m_letters_a m_size_a m_kind_a m_cost_a m_joins_a m_rules_a m_line_a m_pad_a m_place_a m_length_a m_sort_a m_price_a m_of_a m_begins_a m_rowCost_a m_rowNext_a m_rows_a m_ahead_a m_waysTo_a m_image_a m_isKept_a : Nat) (m_words m_long1 m_signs m_readSize m_readKind m_readCost m_many i j : Int) (m_letters m_size m_kind m_cost m_joins m_rules m_line m_pad m_place m_length m_sort m_price m_of m_begins m_rowCost m_rowNext m_rows m_ahead m_waysTo m_image m_isKept : Nat → Int) : zMi l D k E yX7_cutting cX7_cutting 6 .int { frames := 3, cells := 0, slots := 0, locals := 84 } 0 0 [.inr (some m_a), .inl i, .inl j] [(m_a, .inr (.inr (7, [.inr (some m_letters_a), .inr (some m_size_a), .inr (some m_kind_a), .inr (some m_cost_a), .inl m_words, .inr (some m_joins_a), .inr (some m_rules_a), .inr (some m_line_a), .inl m_long1, .inl m_signs, .inr (some m_pad_a), .inl m_readSize, .inl m_readKind, .inl m_readCost, .inr (some m_place_a), .inr (some m_length_a), .inr (some m_sort_a), .inr (some m_price_a), .inr (some m_of_a), .inr (some m_begins_a), .inl m_many, .inr (some m_rowCost_a), .inr (some m_rowNext_a), .inr (some m_rows_a), .inr (some m_ahead_a), .inr (some m_waysTo_a), .inr (some m_image_a), .inr (some m_isKept_a)]))), (m_letters_a, .inl (false, 96, m_letters)), (m_size_a, .inl (false, 16, m_size)), (m_kind_a, .inl (false, 16, m_kind)), (m_cost_a, .inl (false, 16, m_cost)), (m_joins_a, .inl (false, 25, m_joins)), (m_rules_a, .inl (false, 4, m_rules)), (m_line_a, .inl (false, 24, m_line)), (m_pad_a, .inl (false, 40, m_pad)), (m_place_a, .inl (false, 480, m_place)), (m_length_a, .inl (false, 480, m_length)), (m_sort_a, .inl (false, 480, m_sort)), (m_price_a, .inl (false, 480, m_price)), (m_of_a, .inl (false, 480, m_of)), (m_begins_a, .inl (false, 26, m_begins)), (m_rowCost_a, .inl (false, 5760, m_rowCost)), (m_rowNext_a, .inl (false, 5760, m_rowNext)), (m_rows_a, .inl (false, 480, m_rows)), (m_ahead_a, .inl (false, 480, m_ahead)), (m_waysTo_a, .inl (false, 26, m_waysTo)), (m_image_a, .inl (false, 460, m_image)), (m_isKept_a, .inl (true, 2, m_isKept))] (MI m_words m_size m_kind m_cost m_joins m_rules m_long1 m_signs m_image m_isKept) (fun z u => ∃ (m_many' : Int) (m_place' : Nat → Int) (m_length' : Nat → Int) (m_sort' : Nat → Int) (m_price' : Nat → Int) (m_of' : Nat → Int) (m_begins' : Nat → Int) (m_rows' : Nat → Int) (m_rowCost' : Nat → Int) (m_rowNext' : Nat → Int), u = [(m_a, .inr (.inr (7, [.inr (some m_letters_a), .inr (some m_size_a), .inr (some m_kind_a), .inr (some m_cost_a), .inl m_words, .inr (some m_joins_a), .inr (some m_rules_a), .inr (some m_line_a), .inl m_long1, .inl m_signs, .inr (some m_pad_a), .inl m_readSize, .inl m_readKind, .inl m_readCost, .inr (some m_place_a), .inr (some m_length_a), .inr (some m_sort_a), .inr (some m_price_a), .inr (some m_of_a), .inr (some m_begins_a), .inl m_many', .inr (some m_rowCost_a), .inr (some m_rowNext_a), .inr (some m_rows_a), .inr (some m_ahead_a), .inr (some m_waysTo_a), .inr (some m_image_a), .inr (some m_isKept_a)]))), (m_letters_a, .inl (false, 96, m_letters)), (m_size_a, .inl (false, 16, m_size)), (m_kind_a, .inl (false, 16, m_kind)), (m_cost_a, .inl (false, 16, m_cost)), (m_joins_a, .inl (false, 25, m_joins)), (m_rules_a, .inl (false, 4, m_rules)), (m_line_a, .inl (false, 24, m_line)), (m_pad_a, .inl (false, 40, m_pad)), (m_place_a, .inl (false, 480, m_place')), (m_length_a, .inl (false, 480, m_length')), (m_sort_a, .inl (false, 480, m_sort')), (m_price_a, .inl (false, 480, m_price')), (m_of_a, .inl (false, 480, m_of')), (m_begins_a, .inl (false, 26, m_begins')), (m_rowCost_a, .inl (false, 5760, m_rowCost')), (m_rowNext_a, .inl (false, 5760, m_rowNext')), (m_rows_a, .inl (false, 480, m_rows')), (m_ahead_a, .inl (false, 480, m_ahead)), (m_waysTo_a, .inl (false, 26, m_waysTo)), (m_image_a, .inl (false, 460, m_image)), (m_isKept_a, .inl (true, 2, m_isKept))] ∧ (True)) := by
  refine zMi.of RX7 hE (by decide) rfl (by simp) (fun _ _ _ _ => rfl) ?_
  intro Z hP hav hwr B
  obtain ⟨l_i, u_i⟩ : zR i := hav (.inl i) (by simp)
  obtain ⟨l_j, u_j⟩ : zR j := hav (.inl j) (by simp)
  obtain ⟨l_m_words, u_m_words⟩ : zR m_words := zWr_at hwr (i := 0) rfl (.inl m_words) (by simp)
  obtain ⟨l_m_long1, u_m_long1⟩ : zR m_long1 := zWr_at hwr (i := 0) rfl (.inl m_long1) (by simp)
  obtain ⟨l_m_signs, u_m_signs⟩ : zR m_signs := zWr_at hwr (i := 0) rfl (.inl m_signs) (by simp)
  obtain ⟨l_m_readSize, u_m_readSize⟩ : zR m_readSize := zWr_at hwr (i := 0) rfl (.inl m_readSize) (by simp)
  obtain ⟨l_m_readKind, u_m_readKind⟩ : zR m_readKind := zWr_at hwr (i := 0) rfl (.inl m_readKind) (by simp)
  obtain ⟨l_m_readCost, u_m_readCost⟩ : zR m_readCost := zWr_at hwr (i := 0) rfl (.inl m_readCost) (by simp)
  obtain ⟨l_m_many, u_m_many⟩ : zR m_many := zWr_at hwr (i := 0) rfl (.inl m_many) (by simp)
  obtain ⟨h1, h2, h3, h4, h5⟩ := id hP
  obtain ⟨h1a, h1b, h1c⟩ := id h1
  obtain ⟨h2a, h2b⟩ := id h2
  have key : ∀ mu_ : Nat, (∀ (lv : List (Option zV)) (ws : zW), (∃ (code : Int) (n : Int) (at_ : Int) (m_many : Int) (m_place : Nat → Int) (m_length : Nat → Int) (m_sort : Nat → Int) (m_price : Nat → Int) (m_of : Nat → Int) (m_begins : Nat → Int) (m_rows : Nat → Int) (m_rowCost : Nat → Int) (m_rowNext : Nat → Int), lv = [some (.inr (some m_a)), some (.inl i), some (.inl j), some (.inl code), some (.inl n), some (.inl at_)] ∧ ws = [(m_a, .inr (.inr (7, [.inr (some m_letters_a), .inr (some m_size_a), .inr (some m_kind_a), .inr (some m_cost_a), .inl m_words, .inr (some m_joins_a), .inr (some m_rules_a), .inr (some m_line_a), .inl m_long1, .inl m_signs, .inr (some m_pad_a), .inl m_readSize, .inl m_readKind, .inl m_readCost, .inr (some m_place_a), .inr (some m_length_a), .inr (some m_sort_a), .inr (some m_price_a), .inr (some m_of_a), .inr (some m_begins_a), .inl m_many, .inr (some m_rowCost_a), .inr (some m_rowNext_a), .inr (some m_rows_a), .inr (some m_ahead_a), .inr (some m_waysTo_a), .inr (some m_image_a), .inr (some m_isKept_a)]))), (m_letters_a, .inl (false, 96, m_letters)), (m_size_a, .inl (false, 16, m_size)), (m_kind_a, .inl (false, 16, m_kind)), (m_cost_a, .inl (false, 16, m_cost)), (m_joins_a, .inl (false, 25, m_joins)), (m_rules_a, .inl (false, 4, m_rules)), (m_line_a, .inl (false, 24, m_line)), (m_pad_a, .inl (false, 40, m_pad)), (m_place_a, .inl (false, 480, m_place)), (m_length_a, .inl (false, 480, m_length)), (m_sort_a, .inl (false, 480, m_sort)), (m_price_a, .inl (false, 480, m_price)), (m_of_a, .inl (false, 480, m_of)), (m_begins_a, .inl (false, 26, m_begins)), (m_rowCost_a, .inl (false, 5760, m_rowCost)), (m_rowNext_a, .inl (false, 5760, m_rowNext)), (m_rows_a, .inl (false, 480, m_rows)), (m_ahead_a, .inl (false, 480, m_ahead)), (m_waysTo_a, .inl (false, 26, m_waysTo)), (m_image_a, .inl (false, 460, m_image)), (m_isKept_a, .inl (true, 2, m_isKept))] ∧ mu_ = ((at_ + 100000) / 100000 * 1000000000 + (m_many - at_ / 16)).toNat ∧ (0 ≤ m_many ∧ m_many ≤ 480 ∧ LB m_place m_length m_sort m_long1 m_many ∧ NF m_place m_length m_begins m_long1 ∧ BE m_begins m_long1 m_many ∧ m_begins m_long1.toNat = m_many ∧ RR m_rows m_rowNext 0 m_many ∧ (0 ≤ n ∧ n ≤ 1000 ∧ (0 ≤ at_ → n ≤ 500 - (m_many - at_ / 16))) ∧ (at_ < 0 ∨ (0 ≤ at_ ∧ at_ / 16 < m_many ∧ at_ % 16 < m_rows (at_ / 16).toNat)))) → Z 0 0 65 lv [] ws) := by
    intro mu_
    induction mu_ using Nat.strongRecOn with
    | _ mu_ ih =>
      · intro lv ws hJ
        obtain ⟨code, n, at_, m_many, m_place, m_length, m_sort, m_price, m_of, m_begins, m_rows, m_rowCost, m_rowNext, rfl, rfl, rfl, hi⟩ := hJ
        obtain ⟨a1, a2, a3, a4, a5, a6, a7, a8, a9⟩ := hi
        refine B.iload (pc := 65) dX7_cutting_65 rfl ?_
        refine B.if_lt (pc := 67) (tgt := 96) dX7_cutting_67 (by decide) (fun c67 => ?_) (fun c67 => ?_)
        · refine B.iload_n (pc := 96) (i := 2) dX7_cutting_96 rfl rfl ?_
          refine B.bipush (pc := 97) dX7_cutting_97 ⟨by decide, by decide⟩ ?_
          refine B.icmp_ne (pc := 99) (tgt := 107) dX7_cutting_99 (by decide) (fun c99 => ?_) (fun c99 => ?_)
          · refine B.bipush (pc := 107) dX7_cutting_107 ⟨by decide, by decide⟩ ?_
            refine B.ireturn (pc := 109) (by simp) dX7_cutting_109 (Nat.le_refl _) (Nat.le_refl _) (fun rz rw => ⟨_, _, _, _, _, _, _, _, _, _, rfl, ?_⟩)
            trivial
          · refine B.iload (pc := 102) dX7_cutting_102 rfl ?_
            refine B.goto (pc := 104) (tgt := 109) dX7_cutting_104 (by decide) ?_
            refine B.ireturn (pc := 109) (by simp) dX7_cutting_109 (Nat.le_refl _) (Nat.le_refl _) (fun rz rw => ⟨_, _, _, _, _, _, _, _, _, _, rfl, ?_⟩)
            trivial
        · refine B.iload (pc := 70) dX7_cutting_70 rfl ?_
          refine B.iload_n (pc := 72) (i := 2) dX7_cutting_72 rfl rfl ?_
          refine B.icmp_ne (pc := 73) (tgt := 82) dX7_cutting_73 (by decide) (fun c73 => ?_) (fun c73 => ?_)
          · refine B.iinc (pc := 82) dX7_cutting_82 (by decide) rfl ⟨by omega, by omega⟩ ?_
            simp only [List.set_cons_zero, List.set_cons_succ]
            refine B.aload_n (pc := 85) (i := 0) dX7_cutting_85 rfl rfl ?_
            refine B.iload (pc := 86) dX7_cutting_86 rfl ?_
            refine B.callVi (pc := 88) 1 (mX7_next hE _ _ _ _ _ _ _ _ _ _ _ _ _ _ _ _ _ _ _ _ _ _ _ _ _ _ _ _ _ _ _ _ _ _ _ _ _ _ _ _ _ _ _ _ _ _ _ _ _ _ _) 0 rfl rfl ml_X7_149 im_X7_next se_X7_next it_X7 co_X7_next (by decide +kernel) rfl rfl rfl ⟨by decide, by decide⟩ ⟨by decide, by decide⟩ [0, 1, 2, 3, 4, 5, 6, 7, 8, 9, 10, 11, 12, 13, 14, 15, 16, 17, 18, 19, 20, 21] rfl rfl rfl (Nat.le_of_ble_eq_true rfl) dX7_cutting_88 (fun _ => ⟨a1, a2, a3, a4, a5, a6, a7, by omega, by omega, by omega⟩) (fun zk88 uk88 rzk88 ruk88 rak88 hqk88 => ?_)
            obtain ⟨lzk88, uzk88⟩ := rzk88
            obtain ⟨rfl, hk88⟩ := hqk88
            simp only [zput, List.set_cons_zero, List.set_cons_succ, List.append_nil, Nat.add_zero]
            refine B.istore (pc := 91) (i := 5) dX7_cutting_91 (by decide) ?_
            simp only [List.set_cons_zero, List.set_cons_succ]
            refine B.goto (pc := 93) (tgt := 65) dX7_cutting_93 (by decide) ?_
            refine (ih _ ?_) _ _ ⟨_, _, _, _, _, _, _, _, _, _, _, _, _, rfl, rfl, rfl, ?_⟩
            · omega
            · exact ⟨a1, a2, a3, a4, a5, a6, a7, by omega, by omega⟩
          · refine B.iload (pc := 76) dX7_cutting_76 rfl ?_
            refine B.bipush (pc := 78) dX7_cutting_78 ⟨by decide, by decide⟩ ?_
            refine B.idiv (pc := 80) dX7_cutting_80 (by omega) (by decide) ?_
            refine B.ireturn (pc := 81) (by simp) dX7_cutting_81 (Nat.le_refl _) (Nat.le_refl _) (fun rz rw => ⟨_, _, _, _, _, _, _, _, _, _, rfl, ?_⟩)
            trivial
  show Z 0 0 0 [some (.inr (some m_a)), some (.inl i), some (.inl j), none, none, none] [] _
  refine B.aload_n (pc := 0) (i := 0) dX7_cutting_0 rfl rfl ?_
  refine B.getfield (pc := 1) 0 rfl rfl inX7z 8 (by decide) fl_X7_109 rfl dX7_cutting_1 ?_
  refine B.if_ne (pc := 4) (tgt := 10) dX7_cutting_4 (by decide) (fun c4 => ?_) (fun c4 => ?_)
  · refine B.iload_n (pc := 10) (i := 1) dX7_cutting_10 rfl rfl ?_
    refine B.iconst (pc := 11) dX7_cutting_11 ⟨by decide, by decide⟩ ?_
    refine B.bipush (pc := 12) dX7_cutting_12 ⟨by decide, by decide⟩ ?_
    refine B.callSi (pc := 14) 3 (mX7_in hE _ _ _) ml_X7_74 sm_X7_in it_X7 co_X7_in (by decide +kernel) rfl rfl rfl ⟨by decide, by decide⟩ ⟨by decide, by decide⟩ [] rfl rfl rfl (Nat.le_of_ble_eq_true rfl) dX7_cutting_14 (fun _ => trivial) (fun zk14 uk14 rzk14 ruk14 rak14 hqk14 => ?_)
    obtain ⟨lzk14, uzk14⟩ := rzk14
    obtain ⟨rfl, hk14⟩ := hqk14
    simp only [zput, List.append_nil, Nat.add_zero]
    refine B.if_ne (pc := 17) (tgt := 22) dX7_cutting_17 (by decide) (fun c17 => ?_) (fun c17 => ?_)
    · refine B.iload_n (pc := 22) (i := 2) dX7_cutting_22 rfl rfl ?_
      refine B.bipush (pc := 23) dX7_cutting_23 ⟨by decide, by decide⟩ ?_
      refine B.icmp_ge (pc := 25) (tgt := 31) dX7_cutting_25 (by decide) (fun c25 => ?_) (fun c25 => ?_)
      · refine B.aload_n (pc := 31) (i := 0) dX7_cutting_31 rfl rfl ?_
        refine B.callVv (pc := 32) 0 (mX7_layRows hE _ _ _ _ _ _ _ _ _ _ _ _ _ _ _ _ _ _ _ _ _ _ _ _ _ _ _ _ _ _ _ _ _ _ _ _ _ _ _ _ _ _ _ _ _ _ _ _ _ _) 0 rfl rfl ml_X7_136 im_X7_layRows se_X7_layRows it_X7 co_X7_layRows (by decide +kernel) rfl rfl rfl ⟨by decide, by decide⟩ ⟨by decide, by decide⟩ [0, 1, 2, 3, 4, 5, 6, 7, 8, 9, 10, 11, 12, 13, 14, 15, 16, 17, 18, 19, 20, 21] rfl rfl rfl (Nat.le_of_ble_eq_true rfl) dX7_cutting_32 (fun _ => ⟨h1, h2⟩) (fun uk32 ruk32 rak32 hqk32 => ?_)
        obtain ⟨m_many_k32, m_place_k32, m_length_k32, m_sort_k32, m_price_k32, m_of_k32, m_begins_k32, m_rows_k32, m_rowCost_k32, m_rowNext_k32, rfl, hk32⟩ := hqk32
        simp only [zput, List.set_cons_zero, List.set_cons_succ, List.append_nil, Nat.add_zero]
        obtain ⟨a1, a2, a3, a4, a5, a6, a7⟩ := hk32
        refine B.aload_n (pc := 35) (i := 0) dX7_cutting_35 rfl rfl ?_
        refine B.iload_n (pc := 36) (i := 1) dX7_cutting_36 rfl rfl ?_
        refine B.callVi (pc := 37) 1 (mX7_cuttingOf hE _ _ _ _ _ _ _ _ _ _ _ _ _ _ _ _ _ _ _ _ _ _ _ _ _ _ _ _ _ _ _ _ _ _ _ _ _ _ _ _ _ _ _ _ _ _ _ _ _ _ _) 0 rfl rfl ml_X7_143 im_X7_cuttingOf se_X7_cuttingOf it_X7 co_X7_cuttingOf (by decide +kernel) rfl rfl rfl ⟨by decide, by decide⟩ ⟨by decide, by decide⟩ [0, 1, 2, 3, 4, 5, 6, 7, 8, 9, 10, 11, 12, 13, 14, 15, 16, 17, 18, 19, 20, 21] rfl rfl rfl (Nat.le_of_ble_eq_true rfl) dX7_cutting_37 (fun _ => ⟨a1, a2, a3, a4, a5, a6, a7, by omega, by omega, by omega, by omega⟩) (fun zk37 uk37 rzk37 ruk37 rak37 hqk37 => ?_)
        obtain ⟨lzk37, uzk37⟩ := rzk37
        obtain ⟨rfl, hk37⟩ := hqk37
        simp only [zput, List.set_cons_zero, List.set_cons_succ, List.append_nil, Nat.add_zero]
        refine B.istore_n (pc := 40) (i := 3) dX7_cutting_40 rfl (by decide) ?_
        simp only [List.set_cons_zero, List.set_cons_succ]
        refine B.iload_n (pc := 41) (i := 3) dX7_cutting_41 rfl rfl ?_
        refine B.if_ge (pc := 42) (tgt := 48) dX7_cutting_42 (by decide) (fun c42 => ?_) (fun c42 => ?_)
        · refine B.iload_n (pc := 48) (i := 2) dX7_cutting_48 rfl rfl ?_
          refine B.iconst (pc := 49) dX7_cutting_49 ⟨by decide, by decide⟩ ?_
          refine B.icmp_ne (pc := 50) (tgt := 59) dX7_cutting_50 (by decide) (fun c50 => ?_) (fun c50 => ?_)
          · refine B.iconst (pc := 59) dX7_cutting_59 ⟨by decide, by decide⟩ ?_
            refine B.istore (pc := 60) (i := 4) dX7_cutting_60 (by decide) ?_
            simp only [List.set_cons_zero, List.set_cons_succ]
            refine B.iload_n (pc := 62) (i := 3) dX7_cutting_62 rfl rfl ?_
            refine B.istore (pc := 63) (i := 5) dX7_cutting_63 (by decide) ?_
            simp only [List.set_cons_zero, List.set_cons_succ]
            refine (key _) _ _ ⟨_, _, _, _, _, _, _, _, _, _, _, _, _, rfl, rfl, rfl, ?_⟩
            exact ⟨a1, a2, a3, a4, a5, a6, a7, by omega, by omega⟩
          · refine B.aload_n (pc := 53) (i := 0) dX7_cutting_53 rfl rfl ?_
            refine B.iload_n (pc := 54) (i := 3) dX7_cutting_54 rfl rfl ?_
            refine B.callVi (pc := 55) 1 (mX7_costOf hE _ _ _ _ _ _ _ _ _ _ _ _ _ _ _ _ _ _ _ _ _ _ _ _ _ _ _ _ _ _ _ _ _ _ _ _ _ _ _ _ _ _ _ _ _ _ _ _ _ _ _) 0 rfl rfl ml_X7_146 im_X7_costOf se_X7_costOf it_X7 co_X7_costOf (by decide +kernel) rfl rfl rfl ⟨by decide, by decide⟩ ⟨by decide, by decide⟩ [0, 1, 2, 3, 4, 5, 6, 7, 8, 9, 10, 11, 12, 13, 14, 15, 16, 17, 18, 19, 20, 21] rfl rfl rfl (Nat.le_of_ble_eq_true rfl) dX7_cutting_55 (fun _ => ⟨a1, a2, a3, a4, a5, a6, a7, by omega, by omega, by omega⟩) (fun zk55 uk55 rzk55 ruk55 rak55 hqk55 => ?_)
            obtain ⟨lzk55, uzk55⟩ := rzk55
            obtain ⟨rfl, hk55⟩ := hqk55
            simp only [zput, List.set_cons_zero, List.set_cons_succ, List.append_nil, Nat.add_zero]
            refine B.ireturn (pc := 58) (by simp) dX7_cutting_58 (Nat.le_refl _) (Nat.le_refl _) (fun rz rw => ⟨_, _, _, _, _, _, _, _, _, _, rfl, ?_⟩)
            trivial
        · refine B.bipush (pc := 45) dX7_cutting_45 ⟨by decide, by decide⟩ ?_
          refine B.ireturn (pc := 47) (by simp) dX7_cutting_47 (Nat.le_refl _) (Nat.le_refl _) (fun rz rw => ⟨_, _, _, _, _, _, _, _, _, _, rfl, ?_⟩)
          trivial
      · refine B.bipush (pc := 28) dX7_cutting_28 ⟨by decide, by decide⟩ ?_
        refine B.ireturn (pc := 30) (by simp) dX7_cutting_30 (Nat.le_refl _) (Nat.le_refl _) (fun rz rw => ⟨_, _, _, _, _, _, _, _, _, _, rfl, ?_⟩)
        trivial
    · refine B.iconst (pc := 20) dX7_cutting_20 ⟨by decide, by decide⟩ ?_
      refine B.ireturn (pc := 21) (by simp) dX7_cutting_21 (Nat.le_refl _) (Nat.le_refl _) (fun rz rw => ⟨_, _, _, _, _, _, _, _, _, _, rfl, ?_⟩)
      trivial
  · refine B.bipush (pc := 7) dX7_cutting_7 ⟨by decide, by decide⟩ ?_
    refine B.ireturn (pc := 9) (by simp) dX7_cutting_9 (Nat.le_refl _) (Nat.le_refl _) (fun rz rw => ⟨_, _, _, _, _, _, _, _, _, _, rfl, ?_⟩)
    trivial
set_option maxHeartbeats 4000000 in
set_option maxRecDepth 100000 in
theorem mX7_sign {l : Launch} {D : va_G} {k : zK} {E : zE} (hE : zEok E) (m_a m_letters_a m_size_a m_kind_a m_cost_a m_joins_a m_rules_a m_line_a m_pad_a m_place_a m_length_a m_sort_a m_price_a m_of_a m_begins_a m_rowCost_a m_rowNext_a m_rows_a m_ahead_a m_waysTo_a m_image_a m_isKept_a : Nat) (m_words m_long1 m_signs m_readSize m_readKind m_readCost m_many i j : Int) (m_letters m_size m_kind m_cost m_joins m_rules m_line m_pad m_place m_length m_sort m_price m_of m_begins m_rowCost m_rowNext m_rows m_ahead m_waysTo m_image m_isKept : Nat → Int) : zMi l D k E yX7_sign cX7_sign 9 .int { frames := 3, cells := 0, slots := 0, locals := 84 } 0 0 [.inr (some m_a), .inl i, .inl j] [(m_a, .inr (.inr (7, [.inr (some m_letters_a), .inr (some m_size_a), .inr (some m_kind_a), .inr (some m_cost_a), .inl m_words, .inr (some m_joins_a), .inr (some m_rules_a), .inr (some m_line_a), .inl m_long1, .inl m_signs, .inr (some m_pad_a), .inl m_readSize, .inl m_readKind, .inl m_readCost, .inr (some m_place_a), .inr (some m_length_a), .inr (some m_sort_a), .inr (some m_price_a), .inr (some m_of_a), .inr (some m_begins_a), .inl m_many, .inr (some m_rowCost_a), .inr (some m_rowNext_a), .inr (some m_rows_a), .inr (some m_ahead_a), .inr (some m_waysTo_a), .inr (some m_image_a), .inr (some m_isKept_a)]))), (m_letters_a, .inl (false, 96, m_letters)), (m_size_a, .inl (false, 16, m_size)), (m_kind_a, .inl (false, 16, m_kind)), (m_cost_a, .inl (false, 16, m_cost)), (m_joins_a, .inl (false, 25, m_joins)), (m_rules_a, .inl (false, 4, m_rules)), (m_line_a, .inl (false, 24, m_line)), (m_pad_a, .inl (false, 40, m_pad)), (m_place_a, .inl (false, 480, m_place)), (m_length_a, .inl (false, 480, m_length)), (m_sort_a, .inl (false, 480, m_sort)), (m_price_a, .inl (false, 480, m_price)), (m_of_a, .inl (false, 480, m_of)), (m_begins_a, .inl (false, 26, m_begins)), (m_rowCost_a, .inl (false, 5760, m_rowCost)), (m_rowNext_a, .inl (false, 5760, m_rowNext)), (m_rows_a, .inl (false, 480, m_rows)), (m_ahead_a, .inl (false, 480, m_ahead)), (m_waysTo_a, .inl (false, 26, m_waysTo)), (m_image_a, .inl (false, 460, m_image)), (m_isKept_a, .inl (true, 2, m_isKept))] (MI m_words m_size m_kind m_cost m_joins m_rules m_long1 m_signs m_image m_isKept) (fun z u => ∃ (m_many' : Int) (m_place' : Nat → Int) (m_length' : Nat → Int) (m_sort' : Nat → Int) (m_price' : Nat → Int) (m_of' : Nat → Int) (m_begins' : Nat → Int) (m_rows' : Nat → Int) (m_rowCost' : Nat → Int) (m_rowNext' : Nat → Int), u = [(m_a, .inr (.inr (7, [.inr (some m_letters_a), .inr (some m_size_a), .inr (some m_kind_a), .inr (some m_cost_a), .inl m_words, .inr (some m_joins_a), .inr (some m_rules_a), .inr (some m_line_a), .inl m_long1, .inl m_signs, .inr (some m_pad_a), .inl m_readSize, .inl m_readKind, .inl m_readCost, .inr (some m_place_a), .inr (some m_length_a), .inr (some m_sort_a), .inr (some m_price_a), .inr (some m_of_a), .inr (some m_begins_a), .inl m_many', .inr (some m_rowCost_a), .inr (some m_rowNext_a), .inr (some m_rows_a), .inr (some m_ahead_a), .inr (some m_waysTo_a), .inr (some m_image_a), .inr (some m_isKept_a)]))), (m_letters_a, .inl (false, 96, m_letters)), (m_size_a, .inl (false, 16, m_size)), (m_kind_a, .inl (false, 16, m_kind)), (m_cost_a, .inl (false, 16, m_cost)), (m_joins_a, .inl (false, 25, m_joins)), (m_rules_a, .inl (false, 4, m_rules)), (m_line_a, .inl (false, 24, m_line)), (m_pad_a, .inl (false, 40, m_pad)), (m_place_a, .inl (false, 480, m_place')), (m_length_a, .inl (false, 480, m_length')), (m_sort_a, .inl (false, 480, m_sort')), (m_price_a, .inl (false, 480, m_price')), (m_of_a, .inl (false, 480, m_of')), (m_begins_a, .inl (false, 26, m_begins')), (m_rowCost_a, .inl (false, 5760, m_rowCost')), (m_rowNext_a, .inl (false, 5760, m_rowNext')), (m_rows_a, .inl (false, 480, m_rows')), (m_ahead_a, .inl (false, 480, m_ahead)), (m_waysTo_a, .inl (false, 26, m_waysTo)), (m_image_a, .inl (false, 460, m_image)), (m_isKept_a, .inl (true, 2, m_isKept))] ∧ (True)) := by
  refine zMi.of RX7 hE (by decide) rfl (by simp) (fun _ _ _ _ => rfl) ?_
  intro Z hP hav hwr B
  obtain ⟨l_i, u_i⟩ : zR i := hav (.inl i) (by simp)
  obtain ⟨l_j, u_j⟩ : zR j := hav (.inl j) (by simp)
  obtain ⟨l_m_words, u_m_words⟩ : zR m_words := zWr_at hwr (i := 0) rfl (.inl m_words) (by simp)
  obtain ⟨l_m_long1, u_m_long1⟩ : zR m_long1 := zWr_at hwr (i := 0) rfl (.inl m_long1) (by simp)
  obtain ⟨l_m_signs, u_m_signs⟩ : zR m_signs := zWr_at hwr (i := 0) rfl (.inl m_signs) (by simp)
  obtain ⟨l_m_readSize, u_m_readSize⟩ : zR m_readSize := zWr_at hwr (i := 0) rfl (.inl m_readSize) (by simp)
  obtain ⟨l_m_readKind, u_m_readKind⟩ : zR m_readKind := zWr_at hwr (i := 0) rfl (.inl m_readKind) (by simp)
  obtain ⟨l_m_readCost, u_m_readCost⟩ : zR m_readCost := zWr_at hwr (i := 0) rfl (.inl m_readCost) (by simp)
  obtain ⟨l_m_many, u_m_many⟩ : zR m_many := zWr_at hwr (i := 0) rfl (.inl m_many) (by simp)
  obtain ⟨h1, h2, h3, h4, h5⟩ := id hP
  obtain ⟨h1a, h1b, h1c⟩ := id h1
  obtain ⟨h2a, h2b⟩ := id h2
  have key : ∀ mu_ : Nat, (∀ (lv : List (Option zV)) (ws : zW), (∃ (d6 : Option zV) (d7 : Option zV) (d8 : Option zV) (code : Int) (n : Int) (at_ : Int) (m_many : Int) (m_place : Nat → Int) (m_length : Nat → Int) (m_sort : Nat → Int) (m_price : Nat → Int) (m_of : Nat → Int) (m_begins : Nat → Int) (m_rows : Nat → Int) (m_rowCost : Nat → Int) (m_rowNext : Nat → Int), lv = [some (.inr (some m_a)), some (.inl i), some (.inl j), some (.inl code), some (.inl n), some (.inl at_), d6, d7, d8] ∧ ws = [(m_a, .inr (.inr (7, [.inr (some m_letters_a), .inr (some m_size_a), .inr (some m_kind_a), .inr (some m_cost_a), .inl m_words, .inr (some m_joins_a), .inr (some m_rules_a), .inr (some m_line_a), .inl m_long1, .inl m_signs, .inr (some m_pad_a), .inl m_readSize, .inl m_readKind, .inl m_readCost, .inr (some m_place_a), .inr (some m_length_a), .inr (some m_sort_a), .inr (some m_price_a), .inr (some m_of_a), .inr (some m_begins_a), .inl m_many, .inr (some m_rowCost_a), .inr (some m_rowNext_a), .inr (some m_rows_a), .inr (some m_ahead_a), .inr (some m_waysTo_a), .inr (some m_image_a), .inr (some m_isKept_a)]))), (m_letters_a, .inl (false, 96, m_letters)), (m_size_a, .inl (false, 16, m_size)), (m_kind_a, .inl (false, 16, m_kind)), (m_cost_a, .inl (false, 16, m_cost)), (m_joins_a, .inl (false, 25, m_joins)), (m_rules_a, .inl (false, 4, m_rules)), (m_line_a, .inl (false, 24, m_line)), (m_pad_a, .inl (false, 40, m_pad)), (m_place_a, .inl (false, 480, m_place)), (m_length_a, .inl (false, 480, m_length)), (m_sort_a, .inl (false, 480, m_sort)), (m_price_a, .inl (false, 480, m_price)), (m_of_a, .inl (false, 480, m_of)), (m_begins_a, .inl (false, 26, m_begins)), (m_rowCost_a, .inl (false, 5760, m_rowCost)), (m_rowNext_a, .inl (false, 5760, m_rowNext)), (m_rows_a, .inl (false, 480, m_rows)), (m_ahead_a, .inl (false, 480, m_ahead)), (m_waysTo_a, .inl (false, 26, m_waysTo)), (m_image_a, .inl (false, 460, m_image)), (m_isKept_a, .inl (true, 2, m_isKept))] ∧ mu_ = ((at_ + 100000) / 100000 * 1000000000 + (m_many - at_ / 16)).toNat ∧ (0 ≤ m_many ∧ m_many ≤ 480 ∧ LB m_place m_length m_sort m_long1 m_many ∧ NF m_place m_length m_begins m_long1 ∧ BE m_begins m_long1 m_many ∧ m_begins m_long1.toNat = m_many ∧ RR m_rows m_rowNext 0 m_many ∧ (0 ≤ n ∧ n ≤ 10000 ∧ (0 ≤ at_ → n ≤ 8 * (500 - (m_many - at_ / 16)))) ∧ (at_ < 0 ∨ (0 ≤ at_ ∧ at_ / 16 < m_many ∧ at_ % 16 < m_rows (at_ / 16).toNat)))) → Z 0 0 45 lv [] ws) := by
    intro mu_
    induction mu_ using Nat.strongRecOn with
    | _ mu_ ih =>
      · intro lv ws hJ
        obtain ⟨d6, d7, d8, code, n, at_, m_many, m_place, m_length, m_sort, m_price, m_of, m_begins, m_rows, m_rowCost, m_rowNext, rfl, rfl, rfl, hi⟩ := hJ
        obtain ⟨a1, a2, a3, a4, a5, a6, a7, a8, a9⟩ := hi
        refine B.iload (pc := 45) dX7_sign_45 rfl ?_
        refine B.if_lt (pc := 47) (tgt := 198) dX7_sign_47 (by decide) (fun c47 => ?_) (fun c47 => ?_)
        · refine B.iload_n (pc := 198) (i := 2) dX7_sign_198 rfl rfl ?_
          refine B.iconst (pc := 199) dX7_sign_199 ⟨by decide, by decide⟩ ?_
          refine B.icmp_ne (pc := 200) (tgt := 208) dX7_sign_200 (by decide) (fun c200 => ?_) (fun c200 => ?_)
          · refine B.bipush (pc := 208) dX7_sign_208 ⟨by decide, by decide⟩ ?_
            refine B.ireturn (pc := 210) (by simp) dX7_sign_210 (Nat.le_refl _) (Nat.le_refl _) (fun rz rw => ⟨_, _, _, _, _, _, _, _, _, _, rfl, ?_⟩)
            trivial
          · refine B.iload (pc := 203) dX7_sign_203 rfl ?_
            refine B.goto (pc := 205) (tgt := 210) dX7_sign_205 (by decide) ?_
            refine B.ireturn (pc := 210) (by simp) dX7_sign_210 (Nat.le_refl _) (Nat.le_refl _) (fun rz rw => ⟨_, _, _, _, _, _, _, _, _, _, rfl, ?_⟩)
            trivial
        · have hl := a3.at (x := at_ / 16) (by omega) (by omega)
          refine B.iload (pc := 50) dX7_sign_50 rfl ?_
          refine B.bipush (pc := 52) dX7_sign_52 ⟨by decide, by decide⟩ ?_
          refine B.idiv (pc := 54) dX7_sign_54 (by omega) (by decide) ?_
          refine B.istore (pc := 55) (i := 6) dX7_sign_55 (by decide) ?_
          simp only [List.set_cons_zero, List.set_cons_succ]
          refine B.aload_n (pc := 57) (i := 0) dX7_sign_57 rfl rfl ?_
          refine B.getfield (pc := 58) 0 rfl rfl inX7z 15 (by decide) fl_X7_37 rfl dX7_sign_58 ?_
          refine B.iload (pc := 61) dX7_sign_61 rfl ?_
          refine B.iaload (pc := 63) 10 rfl (by omega) (by omega) dX7_sign_63 (fun r63 => ?_)
          obtain ⟨lr63, ur63⟩ := r63
          refine B.aload_n (pc := 64) (i := 0) dX7_sign_64 rfl rfl ?_
          refine B.getfield (pc := 65) 0 rfl rfl inX7z 16 (by decide) fl_X7_40 rfl dX7_sign_65 ?_
          refine B.iload (pc := 68) dX7_sign_68 rfl ?_
          refine B.iaload (pc := 70) 11 rfl (by omega) (by omega) dX7_sign_70 (fun r70 => ?_)
          obtain ⟨lr70, ur70⟩ := r70
          refine B.iconst (pc := 71) dX7_sign_71 ⟨by decide, by decide⟩ ?_
          refine B.icmp_ne (pc := 72) (tgt := 79) dX7_sign_72 (by decide) (fun c72 => ?_) (fun c72 => ?_)
          · refine B.iconst (pc := 79) dX7_sign_79 ⟨by decide, by decide⟩ ?_
            refine B.iadd (pc := 80) dX7_sign_80 ⟨by omega, by omega⟩ ?_
            refine B.aload_n (pc := 81) (i := 0) dX7_sign_81 rfl rfl ?_
            refine B.iload (pc := 82) dX7_sign_82 rfl ?_
            refine B.callVi (pc := 84) 1 (mX7_next hE _ _ _ _ _ _ _ _ _ _ _ _ _ _ _ _ _ _ _ _ _ _ _ _ _ _ _ _ _ _ _ _ _ _ _ _ _ _ _ _ _ _ _ _ _ _ _ _ _ _ _) 0 rfl rfl ml_X7_149 im_X7_next se_X7_next it_X7 co_X7_next (by decide +kernel) rfl rfl rfl ⟨by decide, by decide⟩ ⟨by decide, by decide⟩ [0, 1, 2, 3, 4, 5, 6, 7, 8, 9, 10, 11, 12, 13, 14, 15, 16, 17, 18, 19, 20, 21] rfl rfl rfl (Nat.le_of_ble_eq_true rfl) dX7_sign_84 (fun _ => ⟨a1, a2, a3, a4, a5, a6, a7, by omega, by omega, by omega⟩) (fun zk84 uk84 rzk84 ruk84 rak84 hqk84 => ?_)
            obtain ⟨lzk84, uzk84⟩ := rzk84
            obtain ⟨rfl, hk84⟩ := hqk84
            simp only [zput, List.set_cons_zero, List.set_cons_succ, List.append_nil, Nat.add_zero]
            refine B.if_lt (pc := 87) (tgt := 94) dX7_sign_87 (by decide) (fun c87 => ?_) (fun c87 => ?_)
            · refine B.iconst (pc := 94) dX7_sign_94 ⟨by decide, by decide⟩ ?_
              refine B.iadd (pc := 95) dX7_sign_95 ⟨by omega, by omega⟩ ?_
              refine B.istore (pc := 96) (i := 7) dX7_sign_96 (by decide) ?_
              simp only [List.set_cons_zero, List.set_cons_succ]
              refine B.iload_n (pc := 98) (i := 2) dX7_sign_98 rfl rfl ?_
              refine B.iload (pc := 99) dX7_sign_99 rfl ?_
              refine B.icmp_lt (pc := 101) (tgt := 180) dX7_sign_101 (by decide) (fun c101 => ?_) (fun c101 => ?_)
              · refine B.iload (pc := 180) dX7_sign_180 rfl ?_
                refine B.iload (pc := 182) dX7_sign_182 rfl ?_
                refine B.iadd (pc := 184) dX7_sign_184 ⟨by omega, by omega⟩ ?_
                refine B.istore (pc := 185) (i := 4) dX7_sign_185 (by decide) ?_
                simp only [List.set_cons_zero, List.set_cons_succ]
                refine B.aload_n (pc := 187) (i := 0) dX7_sign_187 rfl rfl ?_
                refine B.iload (pc := 188) dX7_sign_188 rfl ?_
                refine B.callVi (pc := 190) 1 (mX7_next hE _ _ _ _ _ _ _ _ _ _ _ _ _ _ _ _ _ _ _ _ _ _ _ _ _ _ _ _ _ _ _ _ _ _ _ _ _ _ _ _ _ _ _ _ _ _ _ _ _ _ _) 0 rfl rfl ml_X7_149 im_X7_next se_X7_next it_X7 co_X7_next (by decide +kernel) rfl rfl rfl ⟨by decide, by decide⟩ ⟨by decide, by decide⟩ [0, 1, 2, 3, 4, 5, 6, 7, 8, 9, 10, 11, 12, 13, 14, 15, 16, 17, 18, 19, 20, 21] rfl rfl rfl (Nat.le_of_ble_eq_true rfl) dX7_sign_190 (fun _ => ⟨a1, a2, a3, a4, a5, a6, a7, by omega, by omega, by omega⟩) (fun zk190 uk190 rzk190 ruk190 rak190 hqk190 => ?_)
                obtain ⟨lzk190, uzk190⟩ := rzk190
                obtain ⟨rfl, hk190⟩ := hqk190
                simp only [zput, List.set_cons_zero, List.set_cons_succ, List.append_nil, Nat.add_zero]
                refine B.istore (pc := 193) (i := 5) dX7_sign_193 (by decide) ?_
                simp only [List.set_cons_zero, List.set_cons_succ]
                refine B.goto (pc := 195) (tgt := 45) dX7_sign_195 (by decide) ?_
                refine (ih _ ?_) _ _ ⟨_, _, _, _, _, _, _, _, _, _, _, _, _, _, _, _, rfl, rfl, rfl, ?_⟩
                · omega
                · exact ⟨a1, a2, a3, a4, a5, a6, a7, by omega, by omega⟩
              · refine B.iload_n (pc := 104) (i := 2) dX7_sign_104 rfl rfl ?_
                refine B.iload (pc := 105) dX7_sign_105 rfl ?_
                refine B.iload (pc := 107) dX7_sign_107 rfl ?_
                refine B.iadd (pc := 109) dX7_sign_109 ⟨by omega, by omega⟩ ?_
                refine B.icmp_ge (pc := 110) (tgt := 180) dX7_sign_110 (by decide) (fun c110 => ?_) (fun c110 => ?_)
                · refine B.iload (pc := 180) dX7_sign_180 rfl ?_
                  refine B.iload (pc := 182) dX7_sign_182 rfl ?_
                  refine B.iadd (pc := 184) dX7_sign_184 ⟨by omega, by omega⟩ ?_
                  refine B.istore (pc := 185) (i := 4) dX7_sign_185 (by decide) ?_
                  simp only [List.set_cons_zero, List.set_cons_succ]
                  refine B.aload_n (pc := 187) (i := 0) dX7_sign_187 rfl rfl ?_
                  refine B.iload (pc := 188) dX7_sign_188 rfl ?_
                  refine B.callVi (pc := 190) 1 (mX7_next hE _ _ _ _ _ _ _ _ _ _ _ _ _ _ _ _ _ _ _ _ _ _ _ _ _ _ _ _ _ _ _ _ _ _ _ _ _ _ _ _ _ _ _ _ _ _ _ _ _ _ _) 0 rfl rfl ml_X7_149 im_X7_next se_X7_next it_X7 co_X7_next (by decide +kernel) rfl rfl rfl ⟨by decide, by decide⟩ ⟨by decide, by decide⟩ [0, 1, 2, 3, 4, 5, 6, 7, 8, 9, 10, 11, 12, 13, 14, 15, 16, 17, 18, 19, 20, 21] rfl rfl rfl (Nat.le_of_ble_eq_true rfl) dX7_sign_190 (fun _ => ⟨a1, a2, a3, a4, a5, a6, a7, by omega, by omega, by omega⟩) (fun zk190 uk190 rzk190 ruk190 rak190 hqk190 => ?_)
                  obtain ⟨lzk190, uzk190⟩ := rzk190
                  obtain ⟨rfl, hk190⟩ := hqk190
                  simp only [zput, List.set_cons_zero, List.set_cons_succ, List.append_nil, Nat.add_zero]
                  refine B.istore (pc := 193) (i := 5) dX7_sign_193 (by decide) ?_
                  simp only [List.set_cons_zero, List.set_cons_succ]
                  refine B.goto (pc := 195) (tgt := 45) dX7_sign_195 (by decide) ?_
                  refine (ih _ ?_) _ _ ⟨_, _, _, _, _, _, _, _, _, _, _, _, _, _, _, _, rfl, rfl, rfl, ?_⟩
                  · omega
                  · exact ⟨a1, a2, a3, a4, a5, a6, a7, by omega, by omega⟩
                · refine B.iload_n (pc := 113) (i := 2) dX7_sign_113 rfl rfl ?_
                  refine B.iload (pc := 114) dX7_sign_114 rfl ?_
                  refine B.isub (pc := 116) dX7_sign_116 ⟨by omega, by omega⟩ ?_
                  refine B.istore (pc := 117) (i := 8) dX7_sign_117 (by decide) ?_
                  simp only [List.set_cons_zero, List.set_cons_succ]
                  refine B.iload (pc := 119) dX7_sign_119 rfl ?_
                  refine B.aload_n (pc := 121) (i := 0) dX7_sign_121 rfl rfl ?_
                  refine B.getfield (pc := 122) 0 rfl rfl inX7z 15 (by decide) fl_X7_37 rfl dX7_sign_122 ?_
                  refine B.iload (pc := 125) dX7_sign_125 rfl ?_
                  refine B.iaload (pc := 127) 10 rfl (by omega) (by omega) dX7_sign_127 (fun r127 => ?_)
                  obtain ⟨lr127, ur127⟩ := r127
                  refine B.icmp_ge (pc := 128) (tgt := 149) dX7_sign_128 (by decide) (fun c128 => ?_) (fun c128 => ?_)
                  · refine B.iload (pc := 149) dX7_sign_149 rfl ?_
                    refine B.aload_n (pc := 151) (i := 0) dX7_sign_151 rfl rfl ?_
                    refine B.getfield (pc := 152) 0 rfl rfl inX7z 15 (by decide) fl_X7_37 rfl dX7_sign_152 ?_
                    refine B.iload (pc := 155) dX7_sign_155 rfl ?_
                    refine B.iaload (pc := 157) 10 rfl (by omega) (by omega) dX7_sign_157 (fun r157 => ?_)
                    obtain ⟨lr157, ur157⟩ := r157
                    refine B.icmp_ne (pc := 158) (tgt := 177) dX7_sign_158 (by decide) (fun c158 => ?_) (fun c158 => ?_)
                    · refine B.bipush (pc := 177) dX7_sign_177 ⟨by decide, by decide⟩ ?_
                      refine B.ireturn (pc := 179) (by simp) dX7_sign_179 (Nat.le_refl _) (Nat.le_refl _) (fun rz rw => ⟨_, _, _, _, _, _, _, _, _, _, rfl, ?_⟩)
                      trivial
                    · refine B.aload_n (pc := 161) (i := 0) dX7_sign_161 rfl rfl ?_
                      refine B.getfield (pc := 162) 0 rfl rfl inX7z 16 (by decide) fl_X7_40 rfl dX7_sign_162 ?_
                      refine B.iload (pc := 165) dX7_sign_165 rfl ?_
                      refine B.iaload (pc := 167) 11 rfl (by omega) (by omega) dX7_sign_167 (fun r167 => ?_)
                      obtain ⟨lr167, ur167⟩ := r167
                      refine B.iconst (pc := 168) dX7_sign_168 ⟨by decide, by decide⟩ ?_
                      refine B.icmp_ne (pc := 169) (tgt := 177) dX7_sign_169 (by decide) (fun c169 => ?_) (fun c169 => ?_)
                      · refine B.bipush (pc := 177) dX7_sign_177 ⟨by decide, by decide⟩ ?_
                        refine B.ireturn (pc := 179) (by simp) dX7_sign_179 (Nat.le_refl _) (Nat.le_refl _) (fun rz rw => ⟨_, _, _, _, _, _, _, _, _, _, rfl, ?_⟩)
                        trivial
                      · refine B.bipush (pc := 172) dX7_sign_172 ⟨by decide, by decide⟩ ?_
                        refine B.goto (pc := 174) (tgt := 179) dX7_sign_174 (by decide) ?_
                        refine B.ireturn (pc := 179) (by simp) dX7_sign_179 (Nat.le_refl _) (Nat.le_refl _) (fun rz rw => ⟨_, _, _, _, _, _, _, _, _, _, rfl, ?_⟩)
                        trivial
                  · refine B.aload_n (pc := 131) (i := 0) dX7_sign_131 rfl rfl ?_
                    refine B.getfield (pc := 132) 0 rfl rfl inX7z 7 (by decide) fl_X7_28 rfl dX7_sign_132 ?_
                    refine B.aload_n (pc := 135) (i := 0) dX7_sign_135 rfl rfl ?_
                    refine B.getfield (pc := 136) 0 rfl rfl inX7z 14 (by decide) fl_X7_34 rfl dX7_sign_136 ?_
                    refine B.iload (pc := 139) dX7_sign_139 rfl ?_
                    refine B.iaload (pc := 141) 9 rfl (by omega) (by omega) dX7_sign_141 (fun r141 => ?_)
                    obtain ⟨lr141, ur141⟩ := r141
                    refine B.iload (pc := 142) dX7_sign_142 rfl ?_
                    refine B.iadd (pc := 144) dX7_sign_144 ⟨by omega, by omega⟩ ?_
                    refine B.iaload (pc := 145) 7 rfl (by omega) (by omega) dX7_sign_145 (fun r145 => ?_)
                    obtain ⟨lr145, ur145⟩ := r145
                    refine B.goto (pc := 146) (tgt := 179) dX7_sign_146 (by decide) ?_
                    refine B.ireturn (pc := 179) (by simp) dX7_sign_179 (Nat.le_refl _) (Nat.le_refl _) (fun rz rw => ⟨_, _, _, _, _, _, _, _, _, _, rfl, ?_⟩)
                    trivial
            · refine B.iconst (pc := 90) dX7_sign_90 ⟨by decide, by decide⟩ ?_
              refine B.goto (pc := 91) (tgt := 95) dX7_sign_91 (by decide) ?_
              refine B.iadd (pc := 95) dX7_sign_95 ⟨by omega, by omega⟩ ?_
              refine B.istore (pc := 96) (i := 7) dX7_sign_96 (by decide) ?_
              simp only [List.set_cons_zero, List.set_cons_succ]
              refine B.iload_n (pc := 98) (i := 2) dX7_sign_98 rfl rfl ?_
              refine B.iload (pc := 99) dX7_sign_99 rfl ?_
              refine B.icmp_lt (pc := 101) (tgt := 180) dX7_sign_101 (by decide) (fun c101 => ?_) (fun c101 => ?_)
              · refine B.iload (pc := 180) dX7_sign_180 rfl ?_
                refine B.iload (pc := 182) dX7_sign_182 rfl ?_
                refine B.iadd (pc := 184) dX7_sign_184 ⟨by omega, by omega⟩ ?_
                refine B.istore (pc := 185) (i := 4) dX7_sign_185 (by decide) ?_
                simp only [List.set_cons_zero, List.set_cons_succ]
                refine B.aload_n (pc := 187) (i := 0) dX7_sign_187 rfl rfl ?_
                refine B.iload (pc := 188) dX7_sign_188 rfl ?_
                refine B.callVi (pc := 190) 1 (mX7_next hE _ _ _ _ _ _ _ _ _ _ _ _ _ _ _ _ _ _ _ _ _ _ _ _ _ _ _ _ _ _ _ _ _ _ _ _ _ _ _ _ _ _ _ _ _ _ _ _ _ _ _) 0 rfl rfl ml_X7_149 im_X7_next se_X7_next it_X7 co_X7_next (by decide +kernel) rfl rfl rfl ⟨by decide, by decide⟩ ⟨by decide, by decide⟩ [0, 1, 2, 3, 4, 5, 6, 7, 8, 9, 10, 11, 12, 13, 14, 15, 16, 17, 18, 19, 20, 21] rfl rfl rfl (Nat.le_of_ble_eq_true rfl) dX7_sign_190 (fun _ => ⟨a1, a2, a3, a4, a5, a6, a7, by omega, by omega, by omega⟩) (fun zk190 uk190 rzk190 ruk190 rak190 hqk190 => ?_)
                obtain ⟨lzk190, uzk190⟩ := rzk190
                obtain ⟨rfl, hk190⟩ := hqk190
                simp only [zput, List.set_cons_zero, List.set_cons_succ, List.append_nil, Nat.add_zero]
                refine B.istore (pc := 193) (i := 5) dX7_sign_193 (by decide) ?_
                simp only [List.set_cons_zero, List.set_cons_succ]
                refine B.goto (pc := 195) (tgt := 45) dX7_sign_195 (by decide) ?_
                refine (ih _ ?_) _ _ ⟨_, _, _, _, _, _, _, _, _, _, _, _, _, _, _, _, rfl, rfl, rfl, ?_⟩
                · omega
                · exact ⟨a1, a2, a3, a4, a5, a6, a7, by omega, by omega⟩
              · refine B.iload_n (pc := 104) (i := 2) dX7_sign_104 rfl rfl ?_
                refine B.iload (pc := 105) dX7_sign_105 rfl ?_
                refine B.iload (pc := 107) dX7_sign_107 rfl ?_
                refine B.iadd (pc := 109) dX7_sign_109 ⟨by omega, by omega⟩ ?_
                refine B.icmp_ge (pc := 110) (tgt := 180) dX7_sign_110 (by decide) (fun c110 => ?_) (fun c110 => ?_)
                · refine B.iload (pc := 180) dX7_sign_180 rfl ?_
                  refine B.iload (pc := 182) dX7_sign_182 rfl ?_
                  refine B.iadd (pc := 184) dX7_sign_184 ⟨by omega, by omega⟩ ?_
                  refine B.istore (pc := 185) (i := 4) dX7_sign_185 (by decide) ?_
                  simp only [List.set_cons_zero, List.set_cons_succ]
                  refine B.aload_n (pc := 187) (i := 0) dX7_sign_187 rfl rfl ?_
                  refine B.iload (pc := 188) dX7_sign_188 rfl ?_
                  refine B.callVi (pc := 190) 1 (mX7_next hE _ _ _ _ _ _ _ _ _ _ _ _ _ _ _ _ _ _ _ _ _ _ _ _ _ _ _ _ _ _ _ _ _ _ _ _ _ _ _ _ _ _ _ _ _ _ _ _ _ _ _) 0 rfl rfl ml_X7_149 im_X7_next se_X7_next it_X7 co_X7_next (by decide +kernel) rfl rfl rfl ⟨by decide, by decide⟩ ⟨by decide, by decide⟩ [0, 1, 2, 3, 4, 5, 6, 7, 8, 9, 10, 11, 12, 13, 14, 15, 16, 17, 18, 19, 20, 21] rfl rfl rfl (Nat.le_of_ble_eq_true rfl) dX7_sign_190 (fun _ => ⟨a1, a2, a3, a4, a5, a6, a7, by omega, by omega, by omega⟩) (fun zk190 uk190 rzk190 ruk190 rak190 hqk190 => ?_)
                  obtain ⟨lzk190, uzk190⟩ := rzk190
                  obtain ⟨rfl, hk190⟩ := hqk190
                  simp only [zput, List.set_cons_zero, List.set_cons_succ, List.append_nil, Nat.add_zero]
                  refine B.istore (pc := 193) (i := 5) dX7_sign_193 (by decide) ?_
                  simp only [List.set_cons_zero, List.set_cons_succ]
                  refine B.goto (pc := 195) (tgt := 45) dX7_sign_195 (by decide) ?_
                  refine (ih _ ?_) _ _ ⟨_, _, _, _, _, _, _, _, _, _, _, _, _, _, _, _, rfl, rfl, rfl, ?_⟩
                  · omega
                  · exact ⟨a1, a2, a3, a4, a5, a6, a7, by omega, by omega⟩
                · refine B.iload_n (pc := 113) (i := 2) dX7_sign_113 rfl rfl ?_
                  refine B.iload (pc := 114) dX7_sign_114 rfl ?_
                  refine B.isub (pc := 116) dX7_sign_116 ⟨by omega, by omega⟩ ?_
                  refine B.istore (pc := 117) (i := 8) dX7_sign_117 (by decide) ?_
                  simp only [List.set_cons_zero, List.set_cons_succ]
                  refine B.iload (pc := 119) dX7_sign_119 rfl ?_
                  refine B.aload_n (pc := 121) (i := 0) dX7_sign_121 rfl rfl ?_
                  refine B.getfield (pc := 122) 0 rfl rfl inX7z 15 (by decide) fl_X7_37 rfl dX7_sign_122 ?_
                  refine B.iload (pc := 125) dX7_sign_125 rfl ?_
                  refine B.iaload (pc := 127) 10 rfl (by omega) (by omega) dX7_sign_127 (fun r127 => ?_)
                  obtain ⟨lr127, ur127⟩ := r127
                  refine B.icmp_ge (pc := 128) (tgt := 149) dX7_sign_128 (by decide) (fun c128 => ?_) (fun c128 => ?_)
                  · refine B.iload (pc := 149) dX7_sign_149 rfl ?_
                    refine B.aload_n (pc := 151) (i := 0) dX7_sign_151 rfl rfl ?_
                    refine B.getfield (pc := 152) 0 rfl rfl inX7z 15 (by decide) fl_X7_37 rfl dX7_sign_152 ?_
                    refine B.iload (pc := 155) dX7_sign_155 rfl ?_
                    refine B.iaload (pc := 157) 10 rfl (by omega) (by omega) dX7_sign_157 (fun r157 => ?_)
                    obtain ⟨lr157, ur157⟩ := r157
                    refine B.icmp_ne (pc := 158) (tgt := 177) dX7_sign_158 (by decide) (fun c158 => ?_) (fun c158 => ?_)
                    · refine B.bipush (pc := 177) dX7_sign_177 ⟨by decide, by decide⟩ ?_
                      refine B.ireturn (pc := 179) (by simp) dX7_sign_179 (Nat.le_refl _) (Nat.le_refl _) (fun rz rw => ⟨_, _, _, _, _, _, _, _, _, _, rfl, ?_⟩)
                      trivial
                    · refine B.aload_n (pc := 161) (i := 0) dX7_sign_161 rfl rfl ?_
                      refine B.getfield (pc := 162) 0 rfl rfl inX7z 16 (by decide) fl_X7_40 rfl dX7_sign_162 ?_
                      refine B.iload (pc := 165) dX7_sign_165 rfl ?_
                      refine B.iaload (pc := 167) 11 rfl (by omega) (by omega) dX7_sign_167 (fun r167 => ?_)
                      obtain ⟨lr167, ur167⟩ := r167
                      refine B.iconst (pc := 168) dX7_sign_168 ⟨by decide, by decide⟩ ?_
                      refine B.icmp_ne (pc := 169) (tgt := 177) dX7_sign_169 (by decide) (fun c169 => ?_) (fun c169 => ?_)
                      · refine B.bipush (pc := 177) dX7_sign_177 ⟨by decide, by decide⟩ ?_
                        refine B.ireturn (pc := 179) (by simp) dX7_sign_179 (Nat.le_refl _) (Nat.le_refl _) (fun rz rw => ⟨_, _, _, _, _, _, _, _, _, _, rfl, ?_⟩)
                        trivial
                      · refine B.bipush (pc := 172) dX7_sign_172 ⟨by decide, by decide⟩ ?_
                        refine B.goto (pc := 174) (tgt := 179) dX7_sign_174 (by decide) ?_
                        refine B.ireturn (pc := 179) (by simp) dX7_sign_179 (Nat.le_refl _) (Nat.le_refl _) (fun rz rw => ⟨_, _, _, _, _, _, _, _, _, _, rfl, ?_⟩)
                        trivial
                  · refine B.aload_n (pc := 131) (i := 0) dX7_sign_131 rfl rfl ?_
                    refine B.getfield (pc := 132) 0 rfl rfl inX7z 7 (by decide) fl_X7_28 rfl dX7_sign_132 ?_
                    refine B.aload_n (pc := 135) (i := 0) dX7_sign_135 rfl rfl ?_
                    refine B.getfield (pc := 136) 0 rfl rfl inX7z 14 (by decide) fl_X7_34 rfl dX7_sign_136 ?_
                    refine B.iload (pc := 139) dX7_sign_139 rfl ?_
                    refine B.iaload (pc := 141) 9 rfl (by omega) (by omega) dX7_sign_141 (fun r141 => ?_)
                    obtain ⟨lr141, ur141⟩ := r141
                    refine B.iload (pc := 142) dX7_sign_142 rfl ?_
                    refine B.iadd (pc := 144) dX7_sign_144 ⟨by omega, by omega⟩ ?_
                    refine B.iaload (pc := 145) 7 rfl (by omega) (by omega) dX7_sign_145 (fun r145 => ?_)
                    obtain ⟨lr145, ur145⟩ := r145
                    refine B.goto (pc := 146) (tgt := 179) dX7_sign_146 (by decide) ?_
                    refine B.ireturn (pc := 179) (by simp) dX7_sign_179 (Nat.le_refl _) (Nat.le_refl _) (fun rz rw => ⟨_, _, _, _, _, _, _, _, _, _, rfl, ?_⟩)
                    trivial
          · refine B.iconst (pc := 75) dX7_sign_75 ⟨by decide, by decide⟩ ?_
            refine B.goto (pc := 76) (tgt := 80) dX7_sign_76 (by decide) ?_
            refine B.iadd (pc := 80) dX7_sign_80 ⟨by omega, by omega⟩ ?_
            refine B.aload_n (pc := 81) (i := 0) dX7_sign_81 rfl rfl ?_
            refine B.iload (pc := 82) dX7_sign_82 rfl ?_
            refine B.callVi (pc := 84) 1 (mX7_next hE _ _ _ _ _ _ _ _ _ _ _ _ _ _ _ _ _ _ _ _ _ _ _ _ _ _ _ _ _ _ _ _ _ _ _ _ _ _ _ _ _ _ _ _ _ _ _ _ _ _ _) 0 rfl rfl ml_X7_149 im_X7_next se_X7_next it_X7 co_X7_next (by decide +kernel) rfl rfl rfl ⟨by decide, by decide⟩ ⟨by decide, by decide⟩ [0, 1, 2, 3, 4, 5, 6, 7, 8, 9, 10, 11, 12, 13, 14, 15, 16, 17, 18, 19, 20, 21] rfl rfl rfl (Nat.le_of_ble_eq_true rfl) dX7_sign_84 (fun _ => ⟨a1, a2, a3, a4, a5, a6, a7, by omega, by omega, by omega⟩) (fun zk84 uk84 rzk84 ruk84 rak84 hqk84 => ?_)
            obtain ⟨lzk84, uzk84⟩ := rzk84
            obtain ⟨rfl, hk84⟩ := hqk84
            simp only [zput, List.set_cons_zero, List.set_cons_succ, List.append_nil, Nat.add_zero]
            refine B.if_lt (pc := 87) (tgt := 94) dX7_sign_87 (by decide) (fun c87 => ?_) (fun c87 => ?_)
            · refine B.iconst (pc := 94) dX7_sign_94 ⟨by decide, by decide⟩ ?_
              refine B.iadd (pc := 95) dX7_sign_95 ⟨by omega, by omega⟩ ?_
              refine B.istore (pc := 96) (i := 7) dX7_sign_96 (by decide) ?_
              simp only [List.set_cons_zero, List.set_cons_succ]
              refine B.iload_n (pc := 98) (i := 2) dX7_sign_98 rfl rfl ?_
              refine B.iload (pc := 99) dX7_sign_99 rfl ?_
              refine B.icmp_lt (pc := 101) (tgt := 180) dX7_sign_101 (by decide) (fun c101 => ?_) (fun c101 => ?_)
              · refine B.iload (pc := 180) dX7_sign_180 rfl ?_
                refine B.iload (pc := 182) dX7_sign_182 rfl ?_
                refine B.iadd (pc := 184) dX7_sign_184 ⟨by omega, by omega⟩ ?_
                refine B.istore (pc := 185) (i := 4) dX7_sign_185 (by decide) ?_
                simp only [List.set_cons_zero, List.set_cons_succ]
                refine B.aload_n (pc := 187) (i := 0) dX7_sign_187 rfl rfl ?_
                refine B.iload (pc := 188) dX7_sign_188 rfl ?_
                refine B.callVi (pc := 190) 1 (mX7_next hE _ _ _ _ _ _ _ _ _ _ _ _ _ _ _ _ _ _ _ _ _ _ _ _ _ _ _ _ _ _ _ _ _ _ _ _ _ _ _ _ _ _ _ _ _ _ _ _ _ _ _) 0 rfl rfl ml_X7_149 im_X7_next se_X7_next it_X7 co_X7_next (by decide +kernel) rfl rfl rfl ⟨by decide, by decide⟩ ⟨by decide, by decide⟩ [0, 1, 2, 3, 4, 5, 6, 7, 8, 9, 10, 11, 12, 13, 14, 15, 16, 17, 18, 19, 20, 21] rfl rfl rfl (Nat.le_of_ble_eq_true rfl) dX7_sign_190 (fun _ => ⟨a1, a2, a3, a4, a5, a6, a7, by omega, by omega, by omega⟩) (fun zk190 uk190 rzk190 ruk190 rak190 hqk190 => ?_)
                obtain ⟨lzk190, uzk190⟩ := rzk190
                obtain ⟨rfl, hk190⟩ := hqk190
                simp only [zput, List.set_cons_zero, List.set_cons_succ, List.append_nil, Nat.add_zero]
                refine B.istore (pc := 193) (i := 5) dX7_sign_193 (by decide) ?_
                simp only [List.set_cons_zero, List.set_cons_succ]
                refine B.goto (pc := 195) (tgt := 45) dX7_sign_195 (by decide) ?_
                refine (ih _ ?_) _ _ ⟨_, _, _, _, _, _, _, _, _, _, _, _, _, _, _, _, rfl, rfl, rfl, ?_⟩
                · omega
                · exact ⟨a1, a2, a3, a4, a5, a6, a7, by omega, by omega⟩
              · refine B.iload_n (pc := 104) (i := 2) dX7_sign_104 rfl rfl ?_
                refine B.iload (pc := 105) dX7_sign_105 rfl ?_
                refine B.iload (pc := 107) dX7_sign_107 rfl ?_
                refine B.iadd (pc := 109) dX7_sign_109 ⟨by omega, by omega⟩ ?_
                refine B.icmp_ge (pc := 110) (tgt := 180) dX7_sign_110 (by decide) (fun c110 => ?_) (fun c110 => ?_)
                · refine B.iload (pc := 180) dX7_sign_180 rfl ?_
                  refine B.iload (pc := 182) dX7_sign_182 rfl ?_
                  refine B.iadd (pc := 184) dX7_sign_184 ⟨by omega, by omega⟩ ?_
                  refine B.istore (pc := 185) (i := 4) dX7_sign_185 (by decide) ?_
                  simp only [List.set_cons_zero, List.set_cons_succ]
                  refine B.aload_n (pc := 187) (i := 0) dX7_sign_187 rfl rfl ?_
                  refine B.iload (pc := 188) dX7_sign_188 rfl ?_
                  refine B.callVi (pc := 190) 1 (mX7_next hE _ _ _ _ _ _ _ _ _ _ _ _ _ _ _ _ _ _ _ _ _ _ _ _ _ _ _ _ _ _ _ _ _ _ _ _ _ _ _ _ _ _ _ _ _ _ _ _ _ _ _) 0 rfl rfl ml_X7_149 im_X7_next se_X7_next it_X7 co_X7_next (by decide +kernel) rfl rfl rfl ⟨by decide, by decide⟩ ⟨by decide, by decide⟩ [0, 1, 2, 3, 4, 5, 6, 7, 8, 9, 10, 11, 12, 13, 14, 15, 16, 17, 18, 19, 20, 21] rfl rfl rfl (Nat.le_of_ble_eq_true rfl) dX7_sign_190 (fun _ => ⟨a1, a2, a3, a4, a5, a6, a7, by omega, by omega, by omega⟩) (fun zk190 uk190 rzk190 ruk190 rak190 hqk190 => ?_)
                  obtain ⟨lzk190, uzk190⟩ := rzk190
                  obtain ⟨rfl, hk190⟩ := hqk190
                  simp only [zput, List.set_cons_zero, List.set_cons_succ, List.append_nil, Nat.add_zero]
                  refine B.istore (pc := 193) (i := 5) dX7_sign_193 (by decide) ?_
                  simp only [List.set_cons_zero, List.set_cons_succ]
                  refine B.goto (pc := 195) (tgt := 45) dX7_sign_195 (by decide) ?_
                  refine (ih _ ?_) _ _ ⟨_, _, _, _, _, _, _, _, _, _, _, _, _, _, _, _, rfl, rfl, rfl, ?_⟩
                  · omega
                  · exact ⟨a1, a2, a3, a4, a5, a6, a7, by omega, by omega⟩
                · refine B.iload_n (pc := 113) (i := 2) dX7_sign_113 rfl rfl ?_
                  refine B.iload (pc := 114) dX7_sign_114 rfl ?_
                  refine B.isub (pc := 116) dX7_sign_116 ⟨by omega, by omega⟩ ?_
                  refine B.istore (pc := 117) (i := 8) dX7_sign_117 (by decide) ?_
                  simp only [List.set_cons_zero, List.set_cons_succ]
                  refine B.iload (pc := 119) dX7_sign_119 rfl ?_
                  refine B.aload_n (pc := 121) (i := 0) dX7_sign_121 rfl rfl ?_
                  refine B.getfield (pc := 122) 0 rfl rfl inX7z 15 (by decide) fl_X7_37 rfl dX7_sign_122 ?_
                  refine B.iload (pc := 125) dX7_sign_125 rfl ?_
                  refine B.iaload (pc := 127) 10 rfl (by omega) (by omega) dX7_sign_127 (fun r127 => ?_)
                  obtain ⟨lr127, ur127⟩ := r127
                  refine B.icmp_ge (pc := 128) (tgt := 149) dX7_sign_128 (by decide) (fun c128 => ?_) (fun c128 => ?_)
                  · refine B.iload (pc := 149) dX7_sign_149 rfl ?_
                    refine B.aload_n (pc := 151) (i := 0) dX7_sign_151 rfl rfl ?_
                    refine B.getfield (pc := 152) 0 rfl rfl inX7z 15 (by decide) fl_X7_37 rfl dX7_sign_152 ?_
                    refine B.iload (pc := 155) dX7_sign_155 rfl ?_
                    refine B.iaload (pc := 157) 10 rfl (by omega) (by omega) dX7_sign_157 (fun r157 => ?_)
                    obtain ⟨lr157, ur157⟩ := r157
                    refine B.icmp_ne (pc := 158) (tgt := 177) dX7_sign_158 (by decide) (fun c158 => ?_) (fun c158 => ?_)
                    · refine B.bipush (pc := 177) dX7_sign_177 ⟨by decide, by decide⟩ ?_
                      refine B.ireturn (pc := 179) (by simp) dX7_sign_179 (Nat.le_refl _) (Nat.le_refl _) (fun rz rw => ⟨_, _, _, _, _, _, _, _, _, _, rfl, ?_⟩)
                      trivial
                    · refine B.aload_n (pc := 161) (i := 0) dX7_sign_161 rfl rfl ?_
                      refine B.getfield (pc := 162) 0 rfl rfl inX7z 16 (by decide) fl_X7_40 rfl dX7_sign_162 ?_
                      refine B.iload (pc := 165) dX7_sign_165 rfl ?_
                      refine B.iaload (pc := 167) 11 rfl (by omega) (by omega) dX7_sign_167 (fun r167 => ?_)
                      obtain ⟨lr167, ur167⟩ := r167
                      refine B.iconst (pc := 168) dX7_sign_168 ⟨by decide, by decide⟩ ?_
                      refine B.icmp_ne (pc := 169) (tgt := 177) dX7_sign_169 (by decide) (fun c169 => ?_) (fun c169 => ?_)
                      · refine B.bipush (pc := 177) dX7_sign_177 ⟨by decide, by decide⟩ ?_
                        refine B.ireturn (pc := 179) (by simp) dX7_sign_179 (Nat.le_refl _) (Nat.le_refl _) (fun rz rw => ⟨_, _, _, _, _, _, _, _, _, _, rfl, ?_⟩)
                        trivial
                      · refine B.bipush (pc := 172) dX7_sign_172 ⟨by decide, by decide⟩ ?_
                        refine B.goto (pc := 174) (tgt := 179) dX7_sign_174 (by decide) ?_
                        refine B.ireturn (pc := 179) (by simp) dX7_sign_179 (Nat.le_refl _) (Nat.le_refl _) (fun rz rw => ⟨_, _, _, _, _, _, _, _, _, _, rfl, ?_⟩)
                        trivial
                  · refine B.aload_n (pc := 131) (i := 0) dX7_sign_131 rfl rfl ?_
                    refine B.getfield (pc := 132) 0 rfl rfl inX7z 7 (by decide) fl_X7_28 rfl dX7_sign_132 ?_
                    refine B.aload_n (pc := 135) (i := 0) dX7_sign_135 rfl rfl ?_
                    refine B.getfield (pc := 136) 0 rfl rfl inX7z 14 (by decide) fl_X7_34 rfl dX7_sign_136 ?_
                    refine B.iload (pc := 139) dX7_sign_139 rfl ?_
                    refine B.iaload (pc := 141) 9 rfl (by omega) (by omega) dX7_sign_141 (fun r141 => ?_)
                    obtain ⟨lr141, ur141⟩ := r141
                    refine B.iload (pc := 142) dX7_sign_142 rfl ?_
                    refine B.iadd (pc := 144) dX7_sign_144 ⟨by omega, by omega⟩ ?_
                    refine B.iaload (pc := 145) 7 rfl (by omega) (by omega) dX7_sign_145 (fun r145 => ?_)
                    obtain ⟨lr145, ur145⟩ := r145
                    refine B.goto (pc := 146) (tgt := 179) dX7_sign_146 (by decide) ?_
                    refine B.ireturn (pc := 179) (by simp) dX7_sign_179 (Nat.le_refl _) (Nat.le_refl _) (fun rz rw => ⟨_, _, _, _, _, _, _, _, _, _, rfl, ?_⟩)
                    trivial
            · refine B.iconst (pc := 90) dX7_sign_90 ⟨by decide, by decide⟩ ?_
              refine B.goto (pc := 91) (tgt := 95) dX7_sign_91 (by decide) ?_
              refine B.iadd (pc := 95) dX7_sign_95 ⟨by omega, by omega⟩ ?_
              refine B.istore (pc := 96) (i := 7) dX7_sign_96 (by decide) ?_
              simp only [List.set_cons_zero, List.set_cons_succ]
              refine B.iload_n (pc := 98) (i := 2) dX7_sign_98 rfl rfl ?_
              refine B.iload (pc := 99) dX7_sign_99 rfl ?_
              refine B.icmp_lt (pc := 101) (tgt := 180) dX7_sign_101 (by decide) (fun c101 => ?_) (fun c101 => ?_)
              · refine B.iload (pc := 180) dX7_sign_180 rfl ?_
                refine B.iload (pc := 182) dX7_sign_182 rfl ?_
                refine B.iadd (pc := 184) dX7_sign_184 ⟨by omega, by omega⟩ ?_
                refine B.istore (pc := 185) (i := 4) dX7_sign_185 (by decide) ?_
                simp only [List.set_cons_zero, List.set_cons_succ]
                refine B.aload_n (pc := 187) (i := 0) dX7_sign_187 rfl rfl ?_
                refine B.iload (pc := 188) dX7_sign_188 rfl ?_
                refine B.callVi (pc := 190) 1 (mX7_next hE _ _ _ _ _ _ _ _ _ _ _ _ _ _ _ _ _ _ _ _ _ _ _ _ _ _ _ _ _ _ _ _ _ _ _ _ _ _ _ _ _ _ _ _ _ _ _ _ _ _ _) 0 rfl rfl ml_X7_149 im_X7_next se_X7_next it_X7 co_X7_next (by decide +kernel) rfl rfl rfl ⟨by decide, by decide⟩ ⟨by decide, by decide⟩ [0, 1, 2, 3, 4, 5, 6, 7, 8, 9, 10, 11, 12, 13, 14, 15, 16, 17, 18, 19, 20, 21] rfl rfl rfl (Nat.le_of_ble_eq_true rfl) dX7_sign_190 (fun _ => ⟨a1, a2, a3, a4, a5, a6, a7, by omega, by omega, by omega⟩) (fun zk190 uk190 rzk190 ruk190 rak190 hqk190 => ?_)
                obtain ⟨lzk190, uzk190⟩ := rzk190
                obtain ⟨rfl, hk190⟩ := hqk190
                simp only [zput, List.set_cons_zero, List.set_cons_succ, List.append_nil, Nat.add_zero]
                refine B.istore (pc := 193) (i := 5) dX7_sign_193 (by decide) ?_
                simp only [List.set_cons_zero, List.set_cons_succ]
                refine B.goto (pc := 195) (tgt := 45) dX7_sign_195 (by decide) ?_
                refine (ih _ ?_) _ _ ⟨_, _, _, _, _, _, _, _, _, _, _, _, _, _, _, _, rfl, rfl, rfl, ?_⟩
                · omega
                · exact ⟨a1, a2, a3, a4, a5, a6, a7, by omega, by omega⟩
              · refine B.iload_n (pc := 104) (i := 2) dX7_sign_104 rfl rfl ?_
                refine B.iload (pc := 105) dX7_sign_105 rfl ?_
                refine B.iload (pc := 107) dX7_sign_107 rfl ?_
                refine B.iadd (pc := 109) dX7_sign_109 ⟨by omega, by omega⟩ ?_
                refine B.icmp_ge (pc := 110) (tgt := 180) dX7_sign_110 (by decide) (fun c110 => ?_) (fun c110 => ?_)
                · refine B.iload (pc := 180) dX7_sign_180 rfl ?_
                  refine B.iload (pc := 182) dX7_sign_182 rfl ?_
                  refine B.iadd (pc := 184) dX7_sign_184 ⟨by omega, by omega⟩ ?_
                  refine B.istore (pc := 185) (i := 4) dX7_sign_185 (by decide) ?_
                  simp only [List.set_cons_zero, List.set_cons_succ]
                  refine B.aload_n (pc := 187) (i := 0) dX7_sign_187 rfl rfl ?_
                  refine B.iload (pc := 188) dX7_sign_188 rfl ?_
                  refine B.callVi (pc := 190) 1 (mX7_next hE _ _ _ _ _ _ _ _ _ _ _ _ _ _ _ _ _ _ _ _ _ _ _ _ _ _ _ _ _ _ _ _ _ _ _ _ _ _ _ _ _ _ _ _ _ _ _ _ _ _ _) 0 rfl rfl ml_X7_149 im_X7_next se_X7_next it_X7 co_X7_next (by decide +kernel) rfl rfl rfl ⟨by decide, by decide⟩ ⟨by decide, by decide⟩ [0, 1, 2, 3, 4, 5, 6, 7, 8, 9, 10, 11, 12, 13, 14, 15, 16, 17, 18, 19, 20, 21] rfl rfl rfl (Nat.le_of_ble_eq_true rfl) dX7_sign_190 (fun _ => ⟨a1, a2, a3, a4, a5, a6, a7, by omega, by omega, by omega⟩) (fun zk190 uk190 rzk190 ruk190 rak190 hqk190 => ?_)
                  obtain ⟨lzk190, uzk190⟩ := rzk190
                  obtain ⟨rfl, hk190⟩ := hqk190
                  simp only [zput, List.set_cons_zero, List.set_cons_succ, List.append_nil, Nat.add_zero]
                  refine B.istore (pc := 193) (i := 5) dX7_sign_193 (by decide) ?_
                  simp only [List.set_cons_zero, List.set_cons_succ]
                  refine B.goto (pc := 195) (tgt := 45) dX7_sign_195 (by decide) ?_
                  refine (ih _ ?_) _ _ ⟨_, _, _, _, _, _, _, _, _, _, _, _, _, _, _, _, rfl, rfl, rfl, ?_⟩
                  · omega
                  · exact ⟨a1, a2, a3, a4, a5, a6, a7, by omega, by omega⟩
                · refine B.iload_n (pc := 113) (i := 2) dX7_sign_113 rfl rfl ?_
                  refine B.iload (pc := 114) dX7_sign_114 rfl ?_
                  refine B.isub (pc := 116) dX7_sign_116 ⟨by omega, by omega⟩ ?_
                  refine B.istore (pc := 117) (i := 8) dX7_sign_117 (by decide) ?_
                  simp only [List.set_cons_zero, List.set_cons_succ]
                  refine B.iload (pc := 119) dX7_sign_119 rfl ?_
                  refine B.aload_n (pc := 121) (i := 0) dX7_sign_121 rfl rfl ?_
                  refine B.getfield (pc := 122) 0 rfl rfl inX7z 15 (by decide) fl_X7_37 rfl dX7_sign_122 ?_
                  refine B.iload (pc := 125) dX7_sign_125 rfl ?_
                  refine B.iaload (pc := 127) 10 rfl (by omega) (by omega) dX7_sign_127 (fun r127 => ?_)
                  obtain ⟨lr127, ur127⟩ := r127
                  refine B.icmp_ge (pc := 128) (tgt := 149) dX7_sign_128 (by decide) (fun c128 => ?_) (fun c128 => ?_)
                  · refine B.iload (pc := 149) dX7_sign_149 rfl ?_
                    refine B.aload_n (pc := 151) (i := 0) dX7_sign_151 rfl rfl ?_
                    refine B.getfield (pc := 152) 0 rfl rfl inX7z 15 (by decide) fl_X7_37 rfl dX7_sign_152 ?_
                    refine B.iload (pc := 155) dX7_sign_155 rfl ?_
                    refine B.iaload (pc := 157) 10 rfl (by omega) (by omega) dX7_sign_157 (fun r157 => ?_)
                    obtain ⟨lr157, ur157⟩ := r157
                    refine B.icmp_ne (pc := 158) (tgt := 177) dX7_sign_158 (by decide) (fun c158 => ?_) (fun c158 => ?_)
                    · refine B.bipush (pc := 177) dX7_sign_177 ⟨by decide, by decide⟩ ?_
                      refine B.ireturn (pc := 179) (by simp) dX7_sign_179 (Nat.le_refl _) (Nat.le_refl _) (fun rz rw => ⟨_, _, _, _, _, _, _, _, _, _, rfl, ?_⟩)
                      trivial
                    · refine B.aload_n (pc := 161) (i := 0) dX7_sign_161 rfl rfl ?_
                      refine B.getfield (pc := 162) 0 rfl rfl inX7z 16 (by decide) fl_X7_40 rfl dX7_sign_162 ?_
                      refine B.iload (pc := 165) dX7_sign_165 rfl ?_
                      refine B.iaload (pc := 167) 11 rfl (by omega) (by omega) dX7_sign_167 (fun r167 => ?_)
                      obtain ⟨lr167, ur167⟩ := r167
                      refine B.iconst (pc := 168) dX7_sign_168 ⟨by decide, by decide⟩ ?_
                      refine B.icmp_ne (pc := 169) (tgt := 177) dX7_sign_169 (by decide) (fun c169 => ?_) (fun c169 => ?_)
                      · refine B.bipush (pc := 177) dX7_sign_177 ⟨by decide, by decide⟩ ?_
                        refine B.ireturn (pc := 179) (by simp) dX7_sign_179 (Nat.le_refl _) (Nat.le_refl _) (fun rz rw => ⟨_, _, _, _, _, _, _, _, _, _, rfl, ?_⟩)
                        trivial
                      · refine B.bipush (pc := 172) dX7_sign_172 ⟨by decide, by decide⟩ ?_
                        refine B.goto (pc := 174) (tgt := 179) dX7_sign_174 (by decide) ?_
                        refine B.ireturn (pc := 179) (by simp) dX7_sign_179 (Nat.le_refl _) (Nat.le_refl _) (fun rz rw => ⟨_, _, _, _, _, _, _, _, _, _, rfl, ?_⟩)
                        trivial
                  · refine B.aload_n (pc := 131) (i := 0) dX7_sign_131 rfl rfl ?_
                    refine B.getfield (pc := 132) 0 rfl rfl inX7z 7 (by decide) fl_X7_28 rfl dX7_sign_132 ?_
                    refine B.aload_n (pc := 135) (i := 0) dX7_sign_135 rfl rfl ?_
                    refine B.getfield (pc := 136) 0 rfl rfl inX7z 14 (by decide) fl_X7_34 rfl dX7_sign_136 ?_
                    refine B.iload (pc := 139) dX7_sign_139 rfl ?_
                    refine B.iaload (pc := 141) 9 rfl (by omega) (by omega) dX7_sign_141 (fun r141 => ?_)
                    obtain ⟨lr141, ur141⟩ := r141
                    refine B.iload (pc := 142) dX7_sign_142 rfl ?_
                    refine B.iadd (pc := 144) dX7_sign_144 ⟨by omega, by omega⟩ ?_
                    refine B.iaload (pc := 145) 7 rfl (by omega) (by omega) dX7_sign_145 (fun r145 => ?_)
                    obtain ⟨lr145, ur145⟩ := r145
                    refine B.goto (pc := 146) (tgt := 179) dX7_sign_146 (by decide) ?_
                    refine B.ireturn (pc := 179) (by simp) dX7_sign_179 (Nat.le_refl _) (Nat.le_refl _) (fun rz rw => ⟨_, _, _, _, _, _, _, _, _, _, rfl, ?_⟩)
                    trivial
  show Z 0 0 0 [some (.inr (some m_a)), some (.inl i), some (.inl j), none, none, none, none, none, none] [] _
  refine B.aload_n (pc := 0) (i := 0) dX7_sign_0 rfl rfl ?_
  refine B.getfield (pc := 1) 0 rfl rfl inX7z 8 (by decide) fl_X7_109 rfl dX7_sign_1 ?_
  refine B.if_ne (pc := 4) (tgt := 10) dX7_sign_4 (by decide) (fun c4 => ?_) (fun c4 => ?_)
  · refine B.iload_n (pc := 10) (i := 1) dX7_sign_10 rfl rfl ?_
    refine B.iconst (pc := 11) dX7_sign_11 ⟨by decide, by decide⟩ ?_
    refine B.bipush (pc := 12) dX7_sign_12 ⟨by decide, by decide⟩ ?_
    refine B.callSi (pc := 14) 3 (mX7_in hE _ _ _) ml_X7_74 sm_X7_in it_X7 co_X7_in (by decide +kernel) rfl rfl rfl ⟨by decide, by decide⟩ ⟨by decide, by decide⟩ [] rfl rfl rfl (Nat.le_of_ble_eq_true rfl) dX7_sign_14 (fun _ => trivial) (fun zk14 uk14 rzk14 ruk14 rak14 hqk14 => ?_)
    obtain ⟨lzk14, uzk14⟩ := rzk14
    obtain ⟨rfl, hk14⟩ := hqk14
    simp only [zput, List.append_nil, Nat.add_zero]
    refine B.if_ne (pc := 17) (tgt := 22) dX7_sign_17 (by decide) (fun c17 => ?_) (fun c17 => ?_)
    · refine B.aload_n (pc := 22) (i := 0) dX7_sign_22 rfl rfl ?_
      refine B.callVv (pc := 23) 0 (mX7_layRows hE _ _ _ _ _ _ _ _ _ _ _ _ _ _ _ _ _ _ _ _ _ _ _ _ _ _ _ _ _ _ _ _ _ _ _ _ _ _ _ _ _ _ _ _ _ _ _ _ _ _) 0 rfl rfl ml_X7_136 im_X7_layRows se_X7_layRows it_X7 co_X7_layRows (by decide +kernel) rfl rfl rfl ⟨by decide, by decide⟩ ⟨by decide, by decide⟩ [0, 1, 2, 3, 4, 5, 6, 7, 8, 9, 10, 11, 12, 13, 14, 15, 16, 17, 18, 19, 20, 21] rfl rfl rfl (Nat.le_of_ble_eq_true rfl) dX7_sign_23 (fun _ => ⟨h1, h2⟩) (fun uk23 ruk23 rak23 hqk23 => ?_)
      obtain ⟨m_many_k23, m_place_k23, m_length_k23, m_sort_k23, m_price_k23, m_of_k23, m_begins_k23, m_rows_k23, m_rowCost_k23, m_rowNext_k23, rfl, hk23⟩ := hqk23
      simp only [zput, List.set_cons_zero, List.set_cons_succ, List.append_nil, Nat.add_zero]
      obtain ⟨a1, a2, a3, a4, a5, a6, a7⟩ := hk23
      refine B.aload_n (pc := 26) (i := 0) dX7_sign_26 rfl rfl ?_
      refine B.iload_n (pc := 27) (i := 1) dX7_sign_27 rfl rfl ?_
      refine B.callVi (pc := 28) 1 (mX7_cuttingOf hE _ _ _ _ _ _ _ _ _ _ _ _ _ _ _ _ _ _ _ _ _ _ _ _ _ _ _ _ _ _ _ _ _ _ _ _ _ _ _ _ _ _ _ _ _ _ _ _ _ _ _) 0 rfl rfl ml_X7_143 im_X7_cuttingOf se_X7_cuttingOf it_X7 co_X7_cuttingOf (by decide +kernel) rfl rfl rfl ⟨by decide, by decide⟩ ⟨by decide, by decide⟩ [0, 1, 2, 3, 4, 5, 6, 7, 8, 9, 10, 11, 12, 13, 14, 15, 16, 17, 18, 19, 20, 21] rfl rfl rfl (Nat.le_of_ble_eq_true rfl) dX7_sign_28 (fun _ => ⟨a1, a2, a3, a4, a5, a6, a7, by omega, by omega, by omega, by omega⟩) (fun zk28 uk28 rzk28 ruk28 rak28 hqk28 => ?_)
      obtain ⟨lzk28, uzk28⟩ := rzk28
      obtain ⟨rfl, hk28⟩ := hqk28
      simp only [zput, List.set_cons_zero, List.set_cons_succ, List.append_nil, Nat.add_zero]
      refine B.istore_n (pc := 31) (i := 3) dX7_sign_31 rfl (by decide) ?_
      simp only [List.set_cons_zero, List.set_cons_succ]
      refine B.iload_n (pc := 32) (i := 3) dX7_sign_32 rfl rfl ?_
      refine B.if_ge (pc := 33) (tgt := 39) dX7_sign_33 (by decide) (fun c33 => ?_) (fun c33 => ?_)
      · refine B.iconst (pc := 39) dX7_sign_39 ⟨by decide, by decide⟩ ?_
        refine B.istore (pc := 40) (i := 4) dX7_sign_40 (by decide) ?_
        simp only [List.set_cons_zero, List.set_cons_succ]
        refine B.iload_n (pc := 42) (i := 3) dX7_sign_42 rfl rfl ?_
        refine B.istore (pc := 43) (i := 5) dX7_sign_43 (by decide) ?_
        simp only [List.set_cons_zero, List.set_cons_succ]
        refine (key _) _ _ ⟨_, _, _, _, _, _, _, _, _, _, _, _, _, _, _, _, rfl, rfl, rfl, ?_⟩
        exact ⟨a1, a2, a3, a4, a5, a6, a7, by omega, by omega⟩
      · refine B.bipush (pc := 36) dX7_sign_36 ⟨by decide, by decide⟩ ?_
        refine B.ireturn (pc := 38) (by simp) dX7_sign_38 (Nat.le_refl _) (Nat.le_refl _) (fun rz rw => ⟨_, _, _, _, _, _, _, _, _, _, rfl, ?_⟩)
        trivial
    · refine B.iconst (pc := 20) dX7_sign_20 ⟨by decide, by decide⟩ ?_
      refine B.ireturn (pc := 21) (by simp) dX7_sign_21 (Nat.le_refl _) (Nat.le_refl _) (fun rz rw => ⟨_, _, _, _, _, _, _, _, _, _, rfl, ?_⟩)
      trivial
  · refine B.bipush (pc := 7) dX7_sign_7 ⟨by decide, by decide⟩ ?_
    refine B.ireturn (pc := 9) (by simp) dX7_sign_9 (Nat.le_refl _) (Nat.le_refl _) (fun rz rw => ⟨_, _, _, _, _, _, _, _, _, _, rfl, ?_⟩)
    trivial
set_option maxHeartbeats 4000000 in
set_option maxRecDepth 100000 in
theorem mX7_sure {l : Launch} {D : va_G} {k : zK} {E : zE} (hE : zEok E) (m_a m_letters_a m_size_a m_kind_a m_cost_a m_joins_a m_rules_a m_line_a m_pad_a m_place_a m_length_a m_sort_a m_price_a m_of_a m_begins_a m_rowCost_a m_rowNext_a m_rows_a m_ahead_a m_waysTo_a m_image_a m_isKept_a : Nat) (m_words m_long1 m_signs m_readSize m_readKind m_readCost m_many d : Int) (m_letters m_size m_kind m_cost m_joins m_rules m_line m_pad m_place m_length m_sort m_price m_of m_begins m_rowCost m_rowNext m_rows m_ahead m_waysTo m_image m_isKept : Nat → Int) : zMi l D k E yX7_sure cX7_sure 8 .int { frames := 3, cells := 0, slots := 0, locals := 84 } 0 0 [.inr (some m_a), .inl d] [(m_a, .inr (.inr (7, [.inr (some m_letters_a), .inr (some m_size_a), .inr (some m_kind_a), .inr (some m_cost_a), .inl m_words, .inr (some m_joins_a), .inr (some m_rules_a), .inr (some m_line_a), .inl m_long1, .inl m_signs, .inr (some m_pad_a), .inl m_readSize, .inl m_readKind, .inl m_readCost, .inr (some m_place_a), .inr (some m_length_a), .inr (some m_sort_a), .inr (some m_price_a), .inr (some m_of_a), .inr (some m_begins_a), .inl m_many, .inr (some m_rowCost_a), .inr (some m_rowNext_a), .inr (some m_rows_a), .inr (some m_ahead_a), .inr (some m_waysTo_a), .inr (some m_image_a), .inr (some m_isKept_a)]))), (m_letters_a, .inl (false, 96, m_letters)), (m_size_a, .inl (false, 16, m_size)), (m_kind_a, .inl (false, 16, m_kind)), (m_cost_a, .inl (false, 16, m_cost)), (m_joins_a, .inl (false, 25, m_joins)), (m_rules_a, .inl (false, 4, m_rules)), (m_line_a, .inl (false, 24, m_line)), (m_pad_a, .inl (false, 40, m_pad)), (m_place_a, .inl (false, 480, m_place)), (m_length_a, .inl (false, 480, m_length)), (m_sort_a, .inl (false, 480, m_sort)), (m_price_a, .inl (false, 480, m_price)), (m_of_a, .inl (false, 480, m_of)), (m_begins_a, .inl (false, 26, m_begins)), (m_rowCost_a, .inl (false, 5760, m_rowCost)), (m_rowNext_a, .inl (false, 5760, m_rowNext)), (m_rows_a, .inl (false, 480, m_rows)), (m_ahead_a, .inl (false, 480, m_ahead)), (m_waysTo_a, .inl (false, 26, m_waysTo)), (m_image_a, .inl (false, 460, m_image)), (m_isKept_a, .inl (true, 2, m_isKept))] (MI m_words m_size m_kind m_cost m_joins m_rules m_long1 m_signs m_image m_isKept) (fun z u => ∃ (m_many' : Int) (m_place' : Nat → Int) (m_length' : Nat → Int) (m_sort' : Nat → Int) (m_price' : Nat → Int) (m_of' : Nat → Int) (m_begins' : Nat → Int) (m_rows' : Nat → Int) (m_rowCost' : Nat → Int) (m_rowNext' : Nat → Int) (m_ahead' : Nat → Int), u = [(m_a, .inr (.inr (7, [.inr (some m_letters_a), .inr (some m_size_a), .inr (some m_kind_a), .inr (some m_cost_a), .inl m_words, .inr (some m_joins_a), .inr (some m_rules_a), .inr (some m_line_a), .inl m_long1, .inl m_signs, .inr (some m_pad_a), .inl m_readSize, .inl m_readKind, .inl m_readCost, .inr (some m_place_a), .inr (some m_length_a), .inr (some m_sort_a), .inr (some m_price_a), .inr (some m_of_a), .inr (some m_begins_a), .inl m_many', .inr (some m_rowCost_a), .inr (some m_rowNext_a), .inr (some m_rows_a), .inr (some m_ahead_a), .inr (some m_waysTo_a), .inr (some m_image_a), .inr (some m_isKept_a)]))), (m_letters_a, .inl (false, 96, m_letters)), (m_size_a, .inl (false, 16, m_size)), (m_kind_a, .inl (false, 16, m_kind)), (m_cost_a, .inl (false, 16, m_cost)), (m_joins_a, .inl (false, 25, m_joins)), (m_rules_a, .inl (false, 4, m_rules)), (m_line_a, .inl (false, 24, m_line)), (m_pad_a, .inl (false, 40, m_pad)), (m_place_a, .inl (false, 480, m_place')), (m_length_a, .inl (false, 480, m_length')), (m_sort_a, .inl (false, 480, m_sort')), (m_price_a, .inl (false, 480, m_price')), (m_of_a, .inl (false, 480, m_of')), (m_begins_a, .inl (false, 26, m_begins')), (m_rowCost_a, .inl (false, 5760, m_rowCost')), (m_rowNext_a, .inl (false, 5760, m_rowNext')), (m_rows_a, .inl (false, 480, m_rows')), (m_ahead_a, .inl (false, 480, m_ahead')), (m_waysTo_a, .inl (false, 26, m_waysTo)), (m_image_a, .inl (false, 460, m_image)), (m_isKept_a, .inl (true, 2, m_isKept))] ∧ (True)) := by
  refine zMi.of RX7 hE (by decide) rfl (by simp) (fun _ _ _ _ => rfl) ?_
  intro Z hP hav hwr B
  obtain ⟨l_d, u_d⟩ : zR d := hav (.inl d) (by simp)
  obtain ⟨l_m_words, u_m_words⟩ : zR m_words := zWr_at hwr (i := 0) rfl (.inl m_words) (by simp)
  obtain ⟨l_m_long1, u_m_long1⟩ : zR m_long1 := zWr_at hwr (i := 0) rfl (.inl m_long1) (by simp)
  obtain ⟨l_m_signs, u_m_signs⟩ : zR m_signs := zWr_at hwr (i := 0) rfl (.inl m_signs) (by simp)
  obtain ⟨l_m_readSize, u_m_readSize⟩ : zR m_readSize := zWr_at hwr (i := 0) rfl (.inl m_readSize) (by simp)
  obtain ⟨l_m_readKind, u_m_readKind⟩ : zR m_readKind := zWr_at hwr (i := 0) rfl (.inl m_readKind) (by simp)
  obtain ⟨l_m_readCost, u_m_readCost⟩ : zR m_readCost := zWr_at hwr (i := 0) rfl (.inl m_readCost) (by simp)
  obtain ⟨l_m_many, u_m_many⟩ : zR m_many := zWr_at hwr (i := 0) rfl (.inl m_many) (by simp)
  obtain ⟨h1, h2, h3, h4, h5⟩ := id hP
  obtain ⟨h1a, h1b, h1c⟩ := id h1
  obtain ⟨h2a, h2b⟩ := id h2
  have key : ∀ mu_ : Nat, (∀ (lv : List (Option zV)) (ws : zW), (∃ (d6 : Option zV) (d7 : Option zV) (code : Int) (mo : Int) (se : Int) (p : Int) (m_many : Int) (m_place : Nat → Int) (m_length : Nat → Int) (m_sort : Nat → Int) (m_price : Nat → Int) (m_of : Nat → Int) (m_begins : Nat → Int) (m_rows : Nat → Int) (m_rowCost : Nat → Int) (m_rowNext : Nat → Int) (m_ahead : Nat → Int), lv = [some (.inr (some m_a)), some (.inl d), some (.inl code), some (.inl mo), some (.inl se), some (.inl p), d6, d7] ∧ ws = [(m_a, .inr (.inr (7, [.inr (some m_letters_a), .inr (some m_size_a), .inr (some m_kind_a), .inr (some m_cost_a), .inl m_words, .inr (some m_joins_a), .inr (some m_rules_a), .inr (some m_line_a), .inl m_long1, .inl m_signs, .inr (some m_pad_a), .inl m_readSize, .inl m_readKind, .inl m_readCost, .inr (some m_place_a), .inr (some m_length_a), .inr (some m_sort_a), .inr (some m_price_a), .inr (some m_of_a), .inr (some m_begins_a), .inl m_many, .inr (some m_rowCost_a), .inr (some m_rowNext_a), .inr (some m_rows_a), .inr (some m_ahead_a), .inr (some m_waysTo_a), .inr (some m_image_a), .inr (some m_isKept_a)]))), (m_letters_a, .inl (false, 96, m_letters)), (m_size_a, .inl (false, 16, m_size)), (m_kind_a, .inl (false, 16, m_kind)), (m_cost_a, .inl (false, 16, m_cost)), (m_joins_a, .inl (false, 25, m_joins)), (m_rules_a, .inl (false, 4, m_rules)), (m_line_a, .inl (false, 24, m_line)), (m_pad_a, .inl (false, 40, m_pad)), (m_place_a, .inl (false, 480, m_place)), (m_length_a, .inl (false, 480, m_length)), (m_sort_a, .inl (false, 480, m_sort)), (m_price_a, .inl (false, 480, m_price)), (m_of_a, .inl (false, 480, m_of)), (m_begins_a, .inl (false, 26, m_begins)), (m_rowCost_a, .inl (false, 5760, m_rowCost)), (m_rowNext_a, .inl (false, 5760, m_rowNext)), (m_rows_a, .inl (false, 480, m_rows)), (m_ahead_a, .inl (false, 480, m_ahead)), (m_waysTo_a, .inl (false, 26, m_waysTo)), (m_image_a, .inl (false, 460, m_image)), (m_isKept_a, .inl (true, 2, m_isKept))] ∧ mu_ = (1000000 + (30 - p)).toNat ∧ (0 ≤ m_many ∧ m_many ≤ 480 ∧ LB m_place m_length m_sort m_long1 m_many ∧ NF m_place m_length m_begins m_long1 ∧ BE m_begins m_long1 m_many ∧ m_begins m_long1.toNat = m_many ∧ RR m_rows m_rowNext 0 m_many ∧ 1 ≤ p ∧ p ≤ 25 ∧ 1 ≤ m_many)) → Z 0 0 55 lv [] ws) ∧ (∀ (lv : List (Option zV)) (ws : zW), (∃ (d6 : Option zV) (d7 : Option zV) (code : Int) (mo : Int) (se : Int) (x : Int) (m_many : Int) (m_place : Nat → Int) (m_length : Nat → Int) (m_sort : Nat → Int) (m_price : Nat → Int) (m_of : Nat → Int) (m_begins : Nat → Int) (m_rows : Nat → Int) (m_rowCost : Nat → Int) (m_rowNext : Nat → Int) (m_ahead : Nat → Int), lv = [some (.inr (some m_a)), some (.inl d), some (.inl code), some (.inl mo), some (.inl se), some (.inl x), d6, d7] ∧ ws = [(m_a, .inr (.inr (7, [.inr (some m_letters_a), .inr (some m_size_a), .inr (some m_kind_a), .inr (some m_cost_a), .inl m_words, .inr (some m_joins_a), .inr (some m_rules_a), .inr (some m_line_a), .inl m_long1, .inl m_signs, .inr (some m_pad_a), .inl m_readSize, .inl m_readKind, .inl m_readCost, .inr (some m_place_a), .inr (some m_length_a), .inr (some m_sort_a), .inr (some m_price_a), .inr (some m_of_a), .inr (some m_begins_a), .inl m_many, .inr (some m_rowCost_a), .inr (some m_rowNext_a), .inr (some m_rows_a), .inr (some m_ahead_a), .inr (some m_waysTo_a), .inr (some m_image_a), .inr (some m_isKept_a)]))), (m_letters_a, .inl (false, 96, m_letters)), (m_size_a, .inl (false, 16, m_size)), (m_kind_a, .inl (false, 16, m_kind)), (m_cost_a, .inl (false, 16, m_cost)), (m_joins_a, .inl (false, 25, m_joins)), (m_rules_a, .inl (false, 4, m_rules)), (m_line_a, .inl (false, 24, m_line)), (m_pad_a, .inl (false, 40, m_pad)), (m_place_a, .inl (false, 480, m_place)), (m_length_a, .inl (false, 480, m_length)), (m_sort_a, .inl (false, 480, m_sort)), (m_price_a, .inl (false, 480, m_price)), (m_of_a, .inl (false, 480, m_of)), (m_begins_a, .inl (false, 26, m_begins)), (m_rowCost_a, .inl (false, 5760, m_rowCost)), (m_rowNext_a, .inl (false, 5760, m_rowNext)), (m_rows_a, .inl (false, 480, m_rows)), (m_ahead_a, .inl (false, 480, m_ahead)), (m_waysTo_a, .inl (false, 26, m_waysTo)), (m_image_a, .inl (false, 460, m_image)), (m_isKept_a, .inl (true, 2, m_isKept))] ∧ mu_ = ((480 - x) * 100 + 99).toNat ∧ (0 ≤ m_many ∧ m_many ≤ 480 ∧ LB m_place m_length m_sort m_long1 m_many ∧ NF m_place m_length m_begins m_long1 ∧ BE m_begins m_long1 m_many ∧ m_begins m_long1.toNat = m_many ∧ RR m_rows m_rowNext 0 m_many ∧ 0 ≤ x ∧ x ≤ m_many)) → Z 0 0 93 lv [] ws) ∧ (∀ (lv : List (Option zV)) (ws : zW), (∃ (code : Int) (mo : Int) (se : Int) (x : Int) (le_ : Int) (p : Int) (m_many : Int) (m_place : Nat → Int) (m_length : Nat → Int) (m_sort : Nat → Int) (m_price : Nat → Int) (m_of : Nat → Int) (m_begins : Nat → Int) (m_rows : Nat → Int) (m_rowCost : Nat → Int) (m_rowNext : Nat → Int) (m_ahead : Nat → Int), lv = [some (.inr (some m_a)), some (.inl d), some (.inl code), some (.inl mo), some (.inl se), some (.inl x), some (.inl le_), some (.inl p)] ∧ ws = [(m_a, .inr (.inr (7, [.inr (some m_letters_a), .inr (some m_size_a), .inr (some m_kind_a), .inr (some m_cost_a), .inl m_words, .inr (some m_joins_a), .inr (some m_rules_a), .inr (some m_line_a), .inl m_long1, .inl m_signs, .inr (some m_pad_a), .inl m_readSize, .inl m_readKind, .inl m_readCost, .inr (some m_place_a), .inr (some m_length_a), .inr (some m_sort_a), .inr (some m_price_a), .inr (some m_of_a), .inr (some m_begins_a), .inl m_many, .inr (some m_rowCost_a), .inr (some m_rowNext_a), .inr (some m_rows_a), .inr (some m_ahead_a), .inr (some m_waysTo_a), .inr (some m_image_a), .inr (some m_isKept_a)]))), (m_letters_a, .inl (false, 96, m_letters)), (m_size_a, .inl (false, 16, m_size)), (m_kind_a, .inl (false, 16, m_kind)), (m_cost_a, .inl (false, 16, m_cost)), (m_joins_a, .inl (false, 25, m_joins)), (m_rules_a, .inl (false, 4, m_rules)), (m_line_a, .inl (false, 24, m_line)), (m_pad_a, .inl (false, 40, m_pad)), (m_place_a, .inl (false, 480, m_place)), (m_length_a, .inl (false, 480, m_length)), (m_sort_a, .inl (false, 480, m_sort)), (m_price_a, .inl (false, 480, m_price)), (m_of_a, .inl (false, 480, m_of)), (m_begins_a, .inl (false, 26, m_begins)), (m_rowCost_a, .inl (false, 5760, m_rowCost)), (m_rowNext_a, .inl (false, 5760, m_rowNext)), (m_rows_a, .inl (false, 480, m_rows)), (m_ahead_a, .inl (false, 480, m_ahead)), (m_waysTo_a, .inl (false, 26, m_waysTo)), (m_image_a, .inl (false, 460, m_image)), (m_isKept_a, .inl (true, 2, m_isKept))] ∧ mu_ = ((480 - x) * 100 + (30 - p)).toNat ∧ (0 ≤ m_many ∧ m_many ≤ 480 ∧ LB m_place m_length m_sort m_long1 m_many ∧ NF m_place m_length m_begins m_long1 ∧ BE m_begins m_long1 m_many ∧ m_begins m_long1.toNat = m_many ∧ RR m_rows m_rowNext 0 m_many ∧ (0 ≤ x ∧ x < m_many) ∧ 1 ≤ p ∧ p ≤ 25)) → Z 0 0 166 lv [] ws) := by
    intro mu_
    induction mu_ using Nat.strongRecOn with
    | _ mu_ ih =>
      refine ⟨?_, ?_, ?_⟩
      · intro lv ws hJ
        obtain ⟨d6, d7, code, mo, se, p, m_many, m_place, m_length, m_sort, m_price, m_of, m_begins, m_rows, m_rowCost, m_rowNext, m_ahead, rfl, rfl, rfl, hi⟩ := hJ
        obtain ⟨a1, a2, a3, a4, a5, a6, a7, a8, a9, a10⟩ := hi
        refine B.iload (pc := 55) dX7_sure_55 rfl ?_
        refine B.aload_n (pc := 57) (i := 0) dX7_sure_57 rfl rfl ?_
        refine B.getfield (pc := 58) 0 rfl rfl inX7z 8 (by decide) fl_X7_109 rfl dX7_sure_58 ?_
        refine B.icmp_ge (pc := 61) (tgt := 79) dX7_sure_61 (by decide) (fun c61 => ?_) (fun c61 => ?_)
        · refine B.aload_n (pc := 79) (i := 0) dX7_sure_79 rfl rfl ?_
          refine B.aload_n (pc := 80) (i := 0) dX7_sure_80 rfl rfl ?_
          refine B.getfield (pc := 81) 0 rfl rfl inX7z 20 (by decide) fl_X7_112 rfl dX7_sure_81 ?_
          refine B.iconst (pc := 84) dX7_sure_84 ⟨by decide, by decide⟩ ?_
          refine B.isub (pc := 85) dX7_sure_85 ⟨by omega, by omega⟩ ?_
          refine B.callVi (pc := 86) 1 (mX7_leastOf hE _ _ _ _ _ _ _ _ _ _ _ _ _ _ _ _ _ _ _ _ _ _ _ _ _ _ _ _ _ _ _ _ _ _ _ _ _ _ _ _ _ _ _ _ _ _ _ _ _ _ _) 0 rfl rfl ml_X7_139 im_X7_leastOf se_X7_leastOf it_X7 co_X7_leastOf (by decide +kernel) rfl rfl rfl ⟨by decide, by decide⟩ ⟨by decide, by decide⟩ [0, 1, 2, 3, 4, 5, 6, 7, 8, 9, 10, 11, 12, 13, 14, 15, 16, 17, 18, 19, 20, 21] rfl rfl rfl (Nat.le_of_ble_eq_true rfl) dX7_sure_86 (fun _ => ⟨a1, a2, a3, a4, a5, a6, a7, by omega, by omega, by omega⟩) (fun zk86 uk86 rzk86 ruk86 rak86 hqk86 => ?_)
          obtain ⟨lzk86, uzk86⟩ := rzk86
          obtain ⟨m_ahead_k86, rfl, hk86⟩ := hqk86
          simp only [zput, List.set_cons_zero, List.set_cons_succ, List.append_nil, Nat.add_zero]
          refine B.pop (pc := 89) dX7_sure_89 ?_
          refine B.iconst (pc := 90) dX7_sure_90 ⟨by decide, by decide⟩ ?_
          refine B.istore (pc := 91) (i := 5) dX7_sure_91 (by decide) ?_
          simp only [List.set_cons_zero, List.set_cons_succ]
          refine (ih _ ?_).2.1 _ _ ⟨_, _, _, _, _, _, _, _, _, _, _, _, _, _, _, _, _, rfl, rfl, rfl, ?_⟩
          · omega
          · exact ⟨a1, a2, a3, a4, a5, a6, a7, by omega, by omega⟩
        · refine B.iload (pc := 64) dX7_sure_64 rfl ?_
          refine B.iconst (pc := 66) dX7_sure_66 ⟨by decide, by decide⟩ ?_
          refine B.iload (pc := 67) dX7_sure_67 rfl ?_
          refine B.ishl (pc := 69) dX7_sure_69 (fun w69 rw69 ew69 => ?_)
          refine B.ior (pc := 70) dX7_sure_70 (fun w70 rw70 ew70 => ?_)
          refine B.istore (pc := 71) (i := 4) dX7_sure_71 (by decide) ?_
          simp only [List.set_cons_zero, List.set_cons_succ]
          refine B.iinc (pc := 73) dX7_sure_73 (by decide) rfl ⟨by omega, by omega⟩ ?_
          simp only [List.set_cons_zero, List.set_cons_succ]
          refine B.goto (pc := 76) (tgt := 55) dX7_sure_76 (by decide) ?_
          refine (ih _ ?_).1 _ _ ⟨_, _, _, _, _, _, _, _, _, _, _, _, _, _, _, _, _, rfl, rfl, rfl, ?_⟩
          · omega
          · exact ⟨a1, a2, a3, a4, a5, a6, a7, by omega, by omega, by omega⟩
      · intro lv ws hJ
        obtain ⟨d6, d7, code, mo, se, x, m_many, m_place, m_length, m_sort, m_price, m_of, m_begins, m_rows, m_rowCost, m_rowNext, m_ahead, rfl, rfl, rfl, hi⟩ := hJ
        obtain ⟨a1, a2, a3, a4, a5, a6, a7, a8, a9⟩ := hi
        refine B.iload (pc := 93) dX7_sure_93 rfl ?_
        refine B.aload_n (pc := 95) (i := 0) dX7_sure_95 rfl rfl ?_
        refine B.getfield (pc := 96) 0 rfl rfl inX7z 20 (by decide) fl_X7_112 rfl dX7_sure_96 ?_
        refine B.icmp_ge (pc := 99) (tgt := 211) dX7_sure_99 (by decide) (fun c99 => ?_) (fun c99 => ?_)
        · refine B.iload (pc := 211) dX7_sure_211 rfl ?_
          refine B.ireturn (pc := 213) (by simp) dX7_sure_213 (Nat.le_refl _) (Nat.le_refl _) (fun rz rw => ⟨_, _, _, _, _, _, _, _, _, _, _, rfl, ?_⟩)
          trivial
        · have hl := a3.at (x := x) (by omega) (by omega)
          have hr := a7.at (x := x) (by omega) (by omega) (by omega)
          refine B.aload_n (pc := 102) (i := 0) dX7_sure_102 rfl rfl ?_
          refine B.getfield (pc := 103) 0 rfl rfl inX7z 24 (by decide) fl_X7_61 rfl dX7_sure_103 ?_
          refine B.iload (pc := 106) dX7_sure_106 rfl ?_
          refine B.iaload (pc := 108) 18 rfl (by omega) (by omega) dX7_sure_108 (fun r108 => ?_)
          obtain ⟨lr108, ur108⟩ := r108
          refine B.if_lt (pc := 109) (tgt := 122) dX7_sure_109 (by decide) (fun c109 => ?_) (fun c109 => ?_)
          · refine B.bipush (pc := 122) dX7_sure_122 ⟨by decide, by decide⟩ ?_
            refine B.goto (pc := 124) (tgt := 153) dX7_sure_124 (by decide) ?_
            refine B.istore (pc := 153) (i := 6) dX7_sure_153 (by decide) ?_
            simp only [List.set_cons_zero, List.set_cons_succ]
            refine B.aload_n (pc := 155) (i := 0) dX7_sure_155 rfl rfl ?_
            refine B.getfield (pc := 156) 0 rfl rfl inX7z 14 (by decide) fl_X7_34 rfl dX7_sure_156 ?_
            refine B.iload (pc := 159) dX7_sure_159 rfl ?_
            refine B.iaload (pc := 161) 9 rfl (by omega) (by omega) dX7_sure_161 (fun r161 => ?_)
            obtain ⟨lr161, ur161⟩ := r161
            refine B.iconst (pc := 162) dX7_sure_162 ⟨by decide, by decide⟩ ?_
            refine B.iadd (pc := 163) dX7_sure_163 ⟨by omega, by omega⟩ ?_
            refine B.istore (pc := 164) (i := 7) dX7_sure_164 (by decide) ?_
            simp only [List.set_cons_zero, List.set_cons_succ]
            refine (ih _ ?_).2.2 _ _ ⟨_, _, _, _, _, _, _, _, _, _, _, _, _, _, _, _, _, rfl, rfl, rfl, ?_⟩
            · omega
            · exact ⟨a1, a2, a3, a4, a5, a6, a7, by omega, by omega, by omega⟩
          · refine B.aload_n (pc := 112) (i := 0) dX7_sure_112 rfl rfl ?_
            refine B.getfield (pc := 113) 0 rfl rfl inX7z 23 (by decide) fl_X7_58 rfl dX7_sure_113 ?_
            refine B.iload (pc := 116) dX7_sure_116 rfl ?_
            refine B.iaload (pc := 118) 17 rfl (by omega) (by omega) dX7_sure_118 (fun r118 => ?_)
            obtain ⟨lr118, ur118⟩ := r118
            refine B.if_ne (pc := 119) (tgt := 127) dX7_sure_119 (by decide) (fun c119 => ?_) (fun c119 => ?_)
            · refine B.aload_n (pc := 127) (i := 0) dX7_sure_127 rfl rfl ?_
              refine B.getfield (pc := 128) 0 rfl rfl inX7z 24 (by decide) fl_X7_61 rfl dX7_sure_128 ?_
              refine B.iload (pc := 131) dX7_sure_131 rfl ?_
              refine B.iaload (pc := 133) 18 rfl (by omega) (by omega) dX7_sure_133 (fun r133 => ?_)
              obtain ⟨lr133, ur133⟩ := r133
              refine B.aload_n (pc := 134) (i := 0) dX7_sure_134 rfl rfl ?_
              refine B.getfield (pc := 135) 0 rfl rfl inX7z 21 (by decide) fl_X7_52 rfl dX7_sure_135 ?_
              refine B.bipush (pc := 138) dX7_sure_138 ⟨by decide, by decide⟩ ?_
              refine B.iload (pc := 140) dX7_sure_140 rfl ?_
              refine B.imul (pc := 142) dX7_sure_142 ⟨by omega, by omega⟩ ?_
              refine B.iaload (pc := 143) 15 rfl (by omega) (by omega) dX7_sure_143 (fun r143 => ?_)
              obtain ⟨lr143, ur143⟩ := r143
              refine B.iaddw (pc := 144) dX7_sure_144 (fun w144 rw144 ew144 => ?_)
              obtain ⟨lw144, uw144⟩ := rw144
              refine B.aload_n (pc := 145) (i := 0) dX7_sure_145 rfl rfl ?_
              refine B.getfield (pc := 146) 0 rfl rfl inX7z 17 (by decide) fl_X7_43 rfl dX7_sure_146 ?_
              refine B.iload (pc := 149) dX7_sure_149 rfl ?_
              refine B.iaload (pc := 151) 12 rfl (by omega) (by omega) dX7_sure_151 (fun r151 => ?_)
              obtain ⟨lr151, ur151⟩ := r151
              refine B.isubw (pc := 152) dX7_sure_152 (fun w152 rw152 ew152 => ?_)
              obtain ⟨lw152, uw152⟩ := rw152
              refine B.istore (pc := 153) (i := 6) dX7_sure_153 (by decide) ?_
              simp only [List.set_cons_zero, List.set_cons_succ]
              refine B.aload_n (pc := 155) (i := 0) dX7_sure_155 rfl rfl ?_
              refine B.getfield (pc := 156) 0 rfl rfl inX7z 14 (by decide) fl_X7_34 rfl dX7_sure_156 ?_
              refine B.iload (pc := 159) dX7_sure_159 rfl ?_
              refine B.iaload (pc := 161) 9 rfl (by omega) (by omega) dX7_sure_161 (fun r161 => ?_)
              obtain ⟨lr161, ur161⟩ := r161
              refine B.iconst (pc := 162) dX7_sure_162 ⟨by decide, by decide⟩ ?_
              refine B.iadd (pc := 163) dX7_sure_163 ⟨by omega, by omega⟩ ?_
              refine B.istore (pc := 164) (i := 7) dX7_sure_164 (by decide) ?_
              simp only [List.set_cons_zero, List.set_cons_succ]
              refine (ih _ ?_).2.2 _ _ ⟨_, _, _, _, _, _, _, _, _, _, _, _, _, _, _, _, _, rfl, rfl, rfl, ?_⟩
              · omega
              · exact ⟨a1, a2, a3, a4, a5, a6, a7, by omega, by omega, by omega⟩
            · refine B.bipush (pc := 122) dX7_sure_122 ⟨by decide, by decide⟩ ?_
              refine B.goto (pc := 124) (tgt := 153) dX7_sure_124 (by decide) ?_
              refine B.istore (pc := 153) (i := 6) dX7_sure_153 (by decide) ?_
              simp only [List.set_cons_zero, List.set_cons_succ]
              refine B.aload_n (pc := 155) (i := 0) dX7_sure_155 rfl rfl ?_
              refine B.getfield (pc := 156) 0 rfl rfl inX7z 14 (by decide) fl_X7_34 rfl dX7_sure_156 ?_
              refine B.iload (pc := 159) dX7_sure_159 rfl ?_
              refine B.iaload (pc := 161) 9 rfl (by omega) (by omega) dX7_sure_161 (fun r161 => ?_)
              obtain ⟨lr161, ur161⟩ := r161
              refine B.iconst (pc := 162) dX7_sure_162 ⟨by decide, by decide⟩ ?_
              refine B.iadd (pc := 163) dX7_sure_163 ⟨by omega, by omega⟩ ?_
              refine B.istore (pc := 164) (i := 7) dX7_sure_164 (by decide) ?_
              simp only [List.set_cons_zero, List.set_cons_succ]
              refine (ih _ ?_).2.2 _ _ ⟨_, _, _, _, _, _, _, _, _, _, _, _, _, _, _, _, _, rfl, rfl, rfl, ?_⟩
              · omega
              · exact ⟨a1, a2, a3, a4, a5, a6, a7, by omega, by omega, by omega⟩
      · intro lv ws hJ
        obtain ⟨code, mo, se, x, le_, p, m_many, m_place, m_length, m_sort, m_price, m_of, m_begins, m_rows, m_rowCost, m_rowNext, m_ahead, rfl, rfl, rfl, hi⟩ := hJ
        obtain ⟨a1, a2, a3, a4, a5, a6, a7, a8, a9, a10⟩ := hi
        have hl := a3.at (x := x) (by omega) (by omega)
        refine B.iload (pc := 166) dX7_sure_166 rfl ?_
        refine B.aload_n (pc := 168) (i := 0) dX7_sure_168 rfl rfl ?_
        refine B.iload (pc := 169) dX7_sure_169 rfl ?_
        refine B.callVi (pc := 171) 1 (mX7_behind hE _ _ _ _ _ _ _ _ _ _ _ _ _ _ _ _ _ _ _ _ _ _ _ _ _ _ _ _ _ _ _ _ _ _ _ _ _ _ _ _ _ _ _ _ _ _ _ _ _ _ _) 0 rfl rfl ml_X7_130 im_X7_behind se_X7_behind it_X7 co_X7_behind (by decide +kernel) rfl rfl rfl ⟨by decide, by decide⟩ ⟨by decide, by decide⟩ [0, 1, 2, 3, 4, 5, 6, 7, 8, 9, 10, 11, 12, 13, 14, 15, 16, 17, 18, 19, 20, 21] rfl rfl rfl (Nat.le_of_ble_eq_true rfl) dX7_sure_171 (fun _ => ⟨a3, by omega, by omega, by omega, by omega⟩) (fun zk171 uk171 rzk171 ruk171 rak171 hqk171 => ?_)
        obtain ⟨lzk171, uzk171⟩ := rzk171
        obtain ⟨rfl, hk171⟩ := hqk171
        simp only [zput, List.set_cons_zero, List.set_cons_succ, List.append_nil, Nat.add_zero]
        refine B.icmp_ge (pc := 174) (tgt := 205) dX7_sure_174 (by decide) (fun c174 => ?_) (fun c174 => ?_)
        · refine B.iinc (pc := 205) dX7_sure_205 (by decide) rfl ⟨by omega, by omega⟩ ?_
          simp only [List.set_cons_zero, List.set_cons_succ]
          refine B.goto (pc := 208) (tgt := 93) dX7_sure_208 (by decide) ?_
          refine (ih _ ?_).2.1 _ _ ⟨_, _, _, _, _, _, _, _, _, _, _, _, _, _, _, _, _, rfl, rfl, rfl, ?_⟩
          · omega
          · exact ⟨a1, a2, a3, a4, a5, a6, a7, by omega, by omega⟩
        · refine B.iload (pc := 177) dX7_sure_177 rfl ?_
          refine B.if_lt (pc := 179) (tgt := 205) dX7_sure_179 (by decide) (fun c179 => ?_) (fun c179 => ?_)
          · refine B.iinc (pc := 205) dX7_sure_205 (by decide) rfl ⟨by omega, by omega⟩ ?_
            simp only [List.set_cons_zero, List.set_cons_succ]
            refine B.goto (pc := 208) (tgt := 93) dX7_sure_208 (by decide) ?_
            refine (ih _ ?_).2.1 _ _ ⟨_, _, _, _, _, _, _, _, _, _, _, _, _, _, _, _, _, rfl, rfl, rfl, ?_⟩
            · omega
            · exact ⟨a1, a2, a3, a4, a5, a6, a7, by omega, by omega⟩
          · refine B.iload (pc := 182) dX7_sure_182 rfl ?_
            refine B.iload_n (pc := 184) (i := 3) dX7_sure_184 rfl rfl ?_
            refine B.icmp_gt (pc := 185) (tgt := 205) dX7_sure_185 (by decide) (fun c185 => ?_) (fun c185 => ?_)
            · refine B.iinc (pc := 205) dX7_sure_205 (by decide) rfl ⟨by omega, by omega⟩ ?_
              simp only [List.set_cons_zero, List.set_cons_succ]
              refine B.goto (pc := 208) (tgt := 93) dX7_sure_208 (by decide) ?_
              refine (ih _ ?_).2.1 _ _ ⟨_, _, _, _, _, _, _, _, _, _, _, _, _, _, _, _, _, rfl, rfl, rfl, ?_⟩
              · omega
              · exact ⟨a1, a2, a3, a4, a5, a6, a7, by omega, by omega⟩
            · refine B.iload (pc := 188) dX7_sure_188 rfl ?_
              refine B.iconst (pc := 190) dX7_sure_190 ⟨by decide, by decide⟩ ?_
              refine B.iload (pc := 191) dX7_sure_191 rfl ?_
              refine B.ishl (pc := 193) dX7_sure_193 (fun w193 rw193 ew193 => ?_)
              refine B.iconst (pc := 194) dX7_sure_194 ⟨by decide, by decide⟩ ?_
              refine B.ixor (pc := 195) dX7_sure_195 (fun w195 rw195 ew195 => ?_)
              refine B.iand (pc := 196) dX7_sure_196 (fun w196 rw196 ew196 => ?_)
              refine B.istore (pc := 197) (i := 4) dX7_sure_197 (by decide) ?_
              simp only [List.set_cons_zero, List.set_cons_succ]
              refine B.iinc (pc := 199) dX7_sure_199 (by decide) rfl ⟨by omega, by omega⟩ ?_
              simp only [List.set_cons_zero, List.set_cons_succ]
              refine B.goto (pc := 202) (tgt := 166) dX7_sure_202 (by decide) ?_
              refine (ih _ ?_).2.2 _ _ ⟨_, _, _, _, _, _, _, _, _, _, _, _, _, _, _, _, _, rfl, rfl, rfl, ?_⟩
              · omega
              · exact ⟨a1, a2, a3, a4, a5, a6, a7, by omega, by omega, by omega⟩
  show Z 0 0 0 [some (.inr (some m_a)), some (.inl d), none, none, none, none, none, none] [] _
  refine B.aload_n (pc := 0) (i := 0) dX7_sure_0 rfl rfl ?_
  refine B.getfield (pc := 1) 0 rfl rfl inX7z 8 (by decide) fl_X7_109 rfl dX7_sure_1 ?_
  refine B.if_ne (pc := 4) (tgt := 10) dX7_sure_4 (by decide) (fun c4 => ?_) (fun c4 => ?_)
  · refine B.iload_n (pc := 10) (i := 1) dX7_sure_10 rfl rfl ?_
    refine B.iconst (pc := 11) dX7_sure_11 ⟨by decide, by decide⟩ ?_
    refine B.sipush (pc := 12) dX7_sure_12 ⟨by decide, by decide⟩ ?_
    refine B.callSi (pc := 15) 3 (mX7_in hE _ _ _) ml_X7_74 sm_X7_in it_X7 co_X7_in (by decide +kernel) rfl rfl rfl ⟨by decide, by decide⟩ ⟨by decide, by decide⟩ [] rfl rfl rfl (Nat.le_of_ble_eq_true rfl) dX7_sure_15 (fun _ => trivial) (fun zk15 uk15 rzk15 ruk15 rak15 hqk15 => ?_)
    obtain ⟨lzk15, uzk15⟩ := rzk15
    obtain ⟨rfl, hk15⟩ := hqk15
    simp only [zput, List.append_nil, Nat.add_zero]
    refine B.if_ne (pc := 18) (tgt := 24) dX7_sure_18 (by decide) (fun c18 => ?_) (fun c18 => ?_)
    · refine B.aload_n (pc := 24) (i := 0) dX7_sure_24 rfl rfl ?_
      refine B.callVv (pc := 25) 0 (mX7_layRows hE _ _ _ _ _ _ _ _ _ _ _ _ _ _ _ _ _ _ _ _ _ _ _ _ _ _ _ _ _ _ _ _ _ _ _ _ _ _ _ _ _ _ _ _ _ _ _ _ _ _) 0 rfl rfl ml_X7_136 im_X7_layRows se_X7_layRows it_X7 co_X7_layRows (by decide +kernel) rfl rfl rfl ⟨by decide, by decide⟩ ⟨by decide, by decide⟩ [0, 1, 2, 3, 4, 5, 6, 7, 8, 9, 10, 11, 12, 13, 14, 15, 16, 17, 18, 19, 20, 21] rfl rfl rfl (Nat.le_of_ble_eq_true rfl) dX7_sure_25 (fun _ => ⟨h1, h2⟩) (fun uk25 ruk25 rak25 hqk25 => ?_)
      obtain ⟨m_many_k25, m_place_k25, m_length_k25, m_sort_k25, m_price_k25, m_of_k25, m_begins_k25, m_rows_k25, m_rowCost_k25, m_rowNext_k25, rfl, hk25⟩ := hqk25
      simp only [zput, List.set_cons_zero, List.set_cons_succ, List.append_nil, Nat.add_zero]
      obtain ⟨a1, a2, a3, a4, a5, a6, a7⟩ := hk25
      refine B.aload_n (pc := 28) (i := 0) dX7_sure_28 rfl rfl ?_
      refine B.iconst (pc := 29) dX7_sure_29 ⟨by decide, by decide⟩ ?_
      refine B.callVi (pc := 30) 1 (mX7_cuttingOf hE _ _ _ _ _ _ _ _ _ _ _ _ _ _ _ _ _ _ _ _ _ _ _ _ _ _ _ _ _ _ _ _ _ _ _ _ _ _ _ _ _ _ _ _ _ _ _ _ _ _ _) 0 rfl rfl ml_X7_143 im_X7_cuttingOf se_X7_cuttingOf it_X7 co_X7_cuttingOf (by decide +kernel) rfl rfl rfl ⟨by decide, by decide⟩ ⟨by decide, by decide⟩ [0, 1, 2, 3, 4, 5, 6, 7, 8, 9, 10, 11, 12, 13, 14, 15, 16, 17, 18, 19, 20, 21] rfl rfl rfl (Nat.le_of_ble_eq_true rfl) dX7_sure_30 (fun _ => ⟨a1, a2, a3, a4, a5, a6, a7, by omega, by omega, by omega, by omega⟩) (fun zk30 uk30 rzk30 ruk30 rak30 hqk30 => ?_)
      obtain ⟨lzk30, uzk30⟩ := rzk30
      obtain ⟨rfl, hk30⟩ := hqk30
      simp only [zput, List.set_cons_zero, List.set_cons_succ, List.append_nil, Nat.add_zero]
      refine B.istore_n (pc := 33) (i := 2) dX7_sure_33 rfl (by decide) ?_
      simp only [List.set_cons_zero, List.set_cons_succ]
      refine B.iload_n (pc := 34) (i := 2) dX7_sure_34 rfl rfl ?_
      refine B.if_ge (pc := 35) (tgt := 41) dX7_sure_35 (by decide) (fun c35 => ?_) (fun c35 => ?_)
      · refine B.aload_n (pc := 41) (i := 0) dX7_sure_41 rfl rfl ?_
        refine B.iload_n (pc := 42) (i := 2) dX7_sure_42 rfl rfl ?_
        refine B.callVi (pc := 43) 1 (mX7_costOf hE _ _ _ _ _ _ _ _ _ _ _ _ _ _ _ _ _ _ _ _ _ _ _ _ _ _ _ _ _ _ _ _ _ _ _ _ _ _ _ _ _ _ _ _ _ _ _ _ _ _ _) 0 rfl rfl ml_X7_146 im_X7_costOf se_X7_costOf it_X7 co_X7_costOf (by decide +kernel) rfl rfl rfl ⟨by decide, by decide⟩ ⟨by decide, by decide⟩ [0, 1, 2, 3, 4, 5, 6, 7, 8, 9, 10, 11, 12, 13, 14, 15, 16, 17, 18, 19, 20, 21] rfl rfl rfl (Nat.le_of_ble_eq_true rfl) dX7_sure_43 (fun _ => ⟨a1, a2, a3, a4, a5, a6, a7, by omega, by omega, by omega⟩) (fun zk43 uk43 rzk43 ruk43 rak43 hqk43 => ?_)
        obtain ⟨lzk43, uzk43⟩ := rzk43
        obtain ⟨rfl, hk43⟩ := hqk43
        simp only [zput, List.set_cons_zero, List.set_cons_succ, List.append_nil, Nat.add_zero]
        refine B.iload_n (pc := 46) (i := 1) dX7_sure_46 rfl rfl ?_
        refine B.iaddw (pc := 47) dX7_sure_47 (fun w47 rw47 ew47 => ?_)
        obtain ⟨lw47, uw47⟩ := rw47
        refine B.istore_n (pc := 48) (i := 3) dX7_sure_48 rfl (by decide) ?_
        simp only [List.set_cons_zero, List.set_cons_succ]
        refine B.iconst (pc := 49) dX7_sure_49 ⟨by decide, by decide⟩ ?_
        refine B.istore (pc := 50) (i := 4) dX7_sure_50 (by decide) ?_
        simp only [List.set_cons_zero, List.set_cons_succ]
        refine B.iconst (pc := 52) dX7_sure_52 ⟨by decide, by decide⟩ ?_
        refine B.istore (pc := 53) (i := 5) dX7_sure_53 (by decide) ?_
        simp only [List.set_cons_zero, List.set_cons_succ]
        refine (key _).1 _ _ ⟨_, _, _, _, _, _, _, _, _, _, _, _, _, _, _, _, _, rfl, rfl, rfl, ?_⟩
        exact ⟨a1, a2, a3, a4, a5, a6, a7, by omega, by omega, by omega⟩
      · refine B.bipush (pc := 38) dX7_sure_38 ⟨by decide, by decide⟩ ?_
        refine B.ireturn (pc := 40) (by simp) dX7_sure_40 (Nat.le_refl _) (Nat.le_refl _) (fun rz rw => ⟨_, _, _, _, _, _, _, _, _, _, _, rfl, ?_⟩)
        trivial
    · refine B.bipush (pc := 21) dX7_sure_21 ⟨by decide, by decide⟩ ?_
      refine B.ireturn (pc := 23) (by simp) dX7_sure_23 (Nat.le_refl _) (Nat.le_refl _) (fun rz rw => ⟨_, _, _, _, _, _, _, _, _, _, _, rfl, ?_⟩)
      trivial
  · refine B.bipush (pc := 7) dX7_sure_7 ⟨by decide, by decide⟩ ?_
    refine B.ireturn (pc := 9) (by simp) dX7_sure_9 (Nat.le_refl _) (Nat.le_refl _) (fun rz rw => ⟨_, _, _, _, _, _, _, _, _, _, _, rfl, ?_⟩)
    trivial
set_option maxHeartbeats 4000000 in
set_option maxRecDepth 100000 in
theorem mX7_told {l : Launch} {D : va_G} {k : zK} {E : zE} (hE : zEok E) (m_a m_letters_a m_size_a m_kind_a m_cost_a m_joins_a m_rules_a m_line_a m_pad_a m_place_a m_length_a m_sort_a m_price_a m_of_a m_begins_a m_rowCost_a m_rowNext_a m_rows_a m_ahead_a m_waysTo_a m_image_a m_isKept_a : Nat) (m_words m_long1 m_signs m_readSize m_readKind m_readCost m_many what : Int) (m_letters m_size m_kind m_cost m_joins m_rules m_line m_pad m_place m_length m_sort m_price m_of m_begins m_rowCost m_rowNext m_rows m_ahead m_waysTo m_image m_isKept : Nat → Int) : zMi l D k E yX7_told cX7_told 2 .int { frames := 1, cells := 0, slots := 0, locals := 22 } 0 0 [.inr (some m_a), .inl what] [(m_a, .inr (.inr (7, [.inr (some m_letters_a), .inr (some m_size_a), .inr (some m_kind_a), .inr (some m_cost_a), .inl m_words, .inr (some m_joins_a), .inr (some m_rules_a), .inr (some m_line_a), .inl m_long1, .inl m_signs, .inr (some m_pad_a), .inl m_readSize, .inl m_readKind, .inl m_readCost, .inr (some m_place_a), .inr (some m_length_a), .inr (some m_sort_a), .inr (some m_price_a), .inr (some m_of_a), .inr (some m_begins_a), .inl m_many, .inr (some m_rowCost_a), .inr (some m_rowNext_a), .inr (some m_rows_a), .inr (some m_ahead_a), .inr (some m_waysTo_a), .inr (some m_image_a), .inr (some m_isKept_a)]))), (m_letters_a, .inl (false, 96, m_letters)), (m_size_a, .inl (false, 16, m_size)), (m_kind_a, .inl (false, 16, m_kind)), (m_cost_a, .inl (false, 16, m_cost)), (m_joins_a, .inl (false, 25, m_joins)), (m_rules_a, .inl (false, 4, m_rules)), (m_line_a, .inl (false, 24, m_line)), (m_pad_a, .inl (false, 40, m_pad)), (m_place_a, .inl (false, 480, m_place)), (m_length_a, .inl (false, 480, m_length)), (m_sort_a, .inl (false, 480, m_sort)), (m_price_a, .inl (false, 480, m_price)), (m_of_a, .inl (false, 480, m_of)), (m_begins_a, .inl (false, 26, m_begins)), (m_rowCost_a, .inl (false, 5760, m_rowCost)), (m_rowNext_a, .inl (false, 5760, m_rowNext)), (m_rows_a, .inl (false, 480, m_rows)), (m_ahead_a, .inl (false, 480, m_ahead)), (m_waysTo_a, .inl (false, 26, m_waysTo)), (m_image_a, .inl (false, 460, m_image)), (m_isKept_a, .inl (true, 2, m_isKept))] (MI m_words m_size m_kind m_cost m_joins m_rules m_long1 m_signs m_image m_isKept) (fun z u => u = [(m_a, .inr (.inr (7, [.inr (some m_letters_a), .inr (some m_size_a), .inr (some m_kind_a), .inr (some m_cost_a), .inl m_words, .inr (some m_joins_a), .inr (some m_rules_a), .inr (some m_line_a), .inl m_long1, .inl m_signs, .inr (some m_pad_a), .inl m_readSize, .inl m_readKind, .inl m_readCost, .inr (some m_place_a), .inr (some m_length_a), .inr (some m_sort_a), .inr (some m_price_a), .inr (some m_of_a), .inr (some m_begins_a), .inl m_many, .inr (some m_rowCost_a), .inr (some m_rowNext_a), .inr (some m_rows_a), .inr (some m_ahead_a), .inr (some m_waysTo_a), .inr (some m_image_a), .inr (some m_isKept_a)]))), (m_letters_a, .inl (false, 96, m_letters)), (m_size_a, .inl (false, 16, m_size)), (m_kind_a, .inl (false, 16, m_kind)), (m_cost_a, .inl (false, 16, m_cost)), (m_joins_a, .inl (false, 25, m_joins)), (m_rules_a, .inl (false, 4, m_rules)), (m_line_a, .inl (false, 24, m_line)), (m_pad_a, .inl (false, 40, m_pad)), (m_place_a, .inl (false, 480, m_place)), (m_length_a, .inl (false, 480, m_length)), (m_sort_a, .inl (false, 480, m_sort)), (m_price_a, .inl (false, 480, m_price)), (m_of_a, .inl (false, 480, m_of)), (m_begins_a, .inl (false, 26, m_begins)), (m_rowCost_a, .inl (false, 5760, m_rowCost)), (m_rowNext_a, .inl (false, 5760, m_rowNext)), (m_rows_a, .inl (false, 480, m_rows)), (m_ahead_a, .inl (false, 480, m_ahead)), (m_waysTo_a, .inl (false, 26, m_waysTo)), (m_image_a, .inl (false, 460, m_image)), (m_isKept_a, .inl (true, 2, m_isKept))] ∧ (zTS m_signs m_words m_long1 m_rules m_joins m_line what z)) := by
  refine zMi.of RX7 hE (by decide) rfl (by simp) (fun _ _ _ _ => rfl) ?_
  intro Z hP hav hwr B
  obtain ⟨l_what, u_what⟩ : zR what := hav (.inl what) (by simp)
  obtain ⟨l_m_words, u_m_words⟩ : zR m_words := zWr_at hwr (i := 0) rfl (.inl m_words) (by simp)
  obtain ⟨l_m_long1, u_m_long1⟩ : zR m_long1 := zWr_at hwr (i := 0) rfl (.inl m_long1) (by simp)
  obtain ⟨l_m_signs, u_m_signs⟩ : zR m_signs := zWr_at hwr (i := 0) rfl (.inl m_signs) (by simp)
  obtain ⟨l_m_readSize, u_m_readSize⟩ : zR m_readSize := zWr_at hwr (i := 0) rfl (.inl m_readSize) (by simp)
  obtain ⟨l_m_readKind, u_m_readKind⟩ : zR m_readKind := zWr_at hwr (i := 0) rfl (.inl m_readKind) (by simp)
  obtain ⟨l_m_readCost, u_m_readCost⟩ : zR m_readCost := zWr_at hwr (i := 0) rfl (.inl m_readCost) (by simp)
  obtain ⟨l_m_many, u_m_many⟩ : zR m_many := zWr_at hwr (i := 0) rfl (.inl m_many) (by simp)
  obtain ⟨h1, h2, h3, h4, h5⟩ := id hP
  obtain ⟨h1a, h1b, h1c⟩ := id h1
  obtain ⟨h2a, h2b⟩ := id h2
  show Z 0 0 0 [some (.inr (some m_a)), some (.inl what)] [] _
  refine B.iload_n (pc := 0) (i := 1) dX7_told_0 rfl rfl ?_
  refine B.bipush (pc := 1) dX7_told_1 ⟨by decide, by decide⟩ ?_
  refine B.icmp_lt (pc := 3) (tgt := 32) dX7_told_3 (by decide) (fun c3 => ?_) (fun c3 => ?_)
  · refine B.iload_n (pc := 32) (i := 1) dX7_told_32 rfl rfl ?_
    refine B.bipush (pc := 33) dX7_told_33 ⟨by decide, by decide⟩ ?_
    refine B.icmp_lt (pc := 35) (tgt := 59) dX7_told_35 (by decide) (fun c35 => ?_) (fun c35 => ?_)
    · refine B.iload_n (pc := 59) (i := 1) dX7_told_59 rfl rfl ?_
      refine zsplitE (X := fun v => Z _ _ 60 _ (.inl v :: _) _) (0) (fun e60_0 => ?_) (fun c60_0 => ?_)
      · refine B.tsIn (pc := 60) (tgt := 88) dX7_told_60 (by decide) (by decide) rfl (by decide) ?_
        refine B.aload_n (pc := 88) (i := 0) dX7_told_88 rfl rfl ?_
        refine B.getfield (pc := 89) 0 rfl rfl inX7z 9 (by decide) fl_X7_78 rfl dX7_told_89 ?_
        refine B.ireturn (pc := 92) (by simp) dX7_told_92 (Nat.le_refl _) (Nat.le_refl _) (fun rz rw => ⟨rfl, ?_⟩)
        unfold zTS
        omega
      refine zsplitE (X := fun v => Z _ _ 60 _ (.inl v :: _) _) (1) (fun e60_1 => ?_) (fun c60_1 => ?_)
      · refine B.tsIn (pc := 60) (tgt := 93) dX7_told_60 (by decide) (by decide) rfl (by decide) ?_
        refine B.aload_n (pc := 93) (i := 0) dX7_told_93 rfl rfl ?_
        refine B.getfield (pc := 94) 0 rfl rfl inX7z 4 (by decide) fl_X7_106 rfl dX7_told_94 ?_
        refine B.ireturn (pc := 97) (by simp) dX7_told_97 (Nat.le_refl _) (Nat.le_refl _) (fun rz rw => ⟨rfl, ?_⟩)
        unfold zTS
        omega
      refine zsplitE (X := fun v => Z _ _ 60 _ (.inl v :: _) _) (2) (fun e60_2 => ?_) (fun c60_2 => ?_)
      · refine B.tsIn (pc := 60) (tgt := 98) dX7_told_60 (by decide) (by decide) rfl (by decide) ?_
        refine B.aload_n (pc := 98) (i := 0) dX7_told_98 rfl rfl ?_
        refine B.getfield (pc := 99) 0 rfl rfl inX7z 8 (by decide) fl_X7_109 rfl dX7_told_99 ?_
        refine B.ireturn (pc := 102) (by simp) dX7_told_102 (Nat.le_refl _) (Nat.le_refl _) (fun rz rw => ⟨rfl, ?_⟩)
        unfold zTS
        omega
      refine B.tsOut (pc := 60) (tgt := 103) dX7_told_60 (by omega) (by decide) ?_
      refine B.iload_n (pc := 103) (i := 1) dX7_told_103 rfl rfl ?_
      refine B.iconst (pc := 104) dX7_told_104 ⟨by decide, by decide⟩ ?_
      refine B.bipush (pc := 105) dX7_told_105 ⟨by decide, by decide⟩ ?_
      refine B.callSi (pc := 107) 3 (mX7_in hE _ _ _) ml_X7_74 sm_X7_in it_X7 co_X7_in (by decide +kernel) rfl rfl rfl ⟨by decide, by decide⟩ ⟨by decide, by decide⟩ [] rfl rfl rfl (Nat.le_of_ble_eq_true rfl) dX7_told_107 (fun _ => trivial) (fun zk107 uk107 rzk107 ruk107 rak107 hqk107 => ?_)
      obtain ⟨lzk107, uzk107⟩ := rzk107
      obtain ⟨rfl, hk107⟩ := hqk107
      simp only [zput, List.append_nil, Nat.add_zero]
      refine B.if_eq (pc := 110) (tgt := 124) dX7_told_110 (by decide) (fun c110 => ?_) (fun c110 => ?_)
      · refine B.bipush (pc := 124) dX7_told_124 ⟨by decide, by decide⟩ ?_
        refine B.ireturn (pc := 126) (by simp) dX7_told_126 (Nat.le_refl _) (Nat.le_refl _) (fun rz rw => ⟨rfl, ?_⟩)
        unfold zTS
        omega
      · refine B.aload_n (pc := 113) (i := 0) dX7_told_113 rfl rfl ?_
        refine B.getfield (pc := 114) 0 rfl rfl inX7z 6 (by decide) fl_X7_25 rfl dX7_told_114 ?_
        refine B.iload_n (pc := 117) (i := 1) dX7_told_117 rfl rfl ?_
        refine B.iconst (pc := 118) dX7_told_118 ⟨by decide, by decide⟩ ?_
        refine B.isub (pc := 119) dX7_told_119 ⟨by omega, by omega⟩ ?_
        refine B.iaload (pc := 120) 6 rfl (by omega) (by omega) dX7_told_120 (fun r120 => ?_)
        obtain ⟨lr120, ur120⟩ := r120
        refine B.goto (pc := 121) (tgt := 126) dX7_told_121 (by decide) ?_
        refine B.ireturn (pc := 126) (by simp) dX7_told_126 (Nat.le_refl _) (Nat.le_refl _) (fun rz rw => ⟨rfl, ?_⟩)
        unfold zTS
        omega
    · refine B.iload_n (pc := 38) (i := 1) dX7_told_38 rfl rfl ?_
      refine B.bipush (pc := 39) dX7_told_39 ⟨by decide, by decide⟩ ?_
      refine B.icmp_ge (pc := 41) (tgt := 56) dX7_told_41 (by decide) (fun c41 => ?_) (fun c41 => ?_)
      · refine B.bipush (pc := 56) dX7_told_56 ⟨by decide, by decide⟩ ?_
        refine B.ireturn (pc := 58) (by simp) dX7_told_58 (Nat.le_refl _) (Nat.le_refl _) (fun rz rw => ⟨rfl, ?_⟩)
        unfold zTS
        omega
      · refine B.aload_n (pc := 44) (i := 0) dX7_told_44 rfl rfl ?_
        refine B.getfield (pc := 45) 0 rfl rfl inX7z 5 (by decide) fl_X7_22 rfl dX7_told_45 ?_
        refine B.iload_n (pc := 48) (i := 1) dX7_told_48 rfl rfl ?_
        refine B.bipush (pc := 49) dX7_told_49 ⟨by decide, by decide⟩ ?_
        refine B.isub (pc := 51) dX7_told_51 ⟨by omega, by omega⟩ ?_
        refine B.iaload (pc := 52) 5 rfl (by omega) (by omega) dX7_told_52 (fun r52 => ?_)
        obtain ⟨lr52, ur52⟩ := r52
        refine B.goto (pc := 53) (tgt := 58) dX7_told_53 (by decide) ?_
        refine B.ireturn (pc := 58) (by simp) dX7_told_58 (Nat.le_refl _) (Nat.le_refl _) (fun rz rw => ⟨rfl, ?_⟩)
        unfold zTS
        omega
  · refine B.iload_n (pc := 6) (i := 1) dX7_told_6 rfl rfl ?_
    refine B.bipush (pc := 7) dX7_told_7 ⟨by decide, by decide⟩ ?_
    refine B.isub (pc := 9) dX7_told_9 ⟨by omega, by omega⟩ ?_
    refine B.aload_n (pc := 10) (i := 0) dX7_told_10 rfl rfl ?_
    refine B.getfield (pc := 11) 0 rfl rfl inX7z 8 (by decide) fl_X7_109 rfl dX7_told_11 ?_
    refine B.icmp_ge (pc := 14) (tgt := 29) dX7_told_14 (by decide) (fun c14 => ?_) (fun c14 => ?_)
    · refine B.bipush (pc := 29) dX7_told_29 ⟨by decide, by decide⟩ ?_
      refine B.ireturn (pc := 31) (by simp) dX7_told_31 (Nat.le_refl _) (Nat.le_refl _) (fun rz rw => ⟨rfl, ?_⟩)
      unfold zTS
      omega
    · refine B.aload_n (pc := 17) (i := 0) dX7_told_17 rfl rfl ?_
      refine B.getfield (pc := 18) 0 rfl rfl inX7z 7 (by decide) fl_X7_28 rfl dX7_told_18 ?_
      refine B.iload_n (pc := 21) (i := 1) dX7_told_21 rfl rfl ?_
      refine B.bipush (pc := 22) dX7_told_22 ⟨by decide, by decide⟩ ?_
      refine B.isub (pc := 24) dX7_told_24 ⟨by omega, by omega⟩ ?_
      refine B.iaload (pc := 25) 7 rfl (by omega) (by omega) dX7_told_25 (fun r25 => ?_)
      obtain ⟨lr25, ur25⟩ := r25
      refine B.goto (pc := 26) (tgt := 31) dX7_told_26 (by decide) ?_
      refine B.ireturn (pc := 31) (by simp) dX7_told_31 (Nat.le_refl _) (Nat.le_refl _) (fun rz rw => ⟨rfl, ?_⟩)
      unfold zTS
      omega
set_option maxHeartbeats 4000000 in
set_option maxRecDepth 100000 in
theorem mX7_image {l : Launch} {D : va_G} {k : zK} {E : zE} (hE : zEok E) (m_a m_letters_a m_size_a m_kind_a m_cost_a m_joins_a m_rules_a m_line_a m_pad_a m_place_a m_length_a m_sort_a m_price_a m_of_a m_begins_a m_rowCost_a m_rowNext_a m_rows_a m_ahead_a m_waysTo_a m_image_a m_isKept_a : Nat) (m_words m_long1 m_signs m_readSize m_readKind m_readCost m_many n : Int) (m_letters m_size m_kind m_cost m_joins m_rules m_line m_pad m_place m_length m_sort m_price m_of m_begins m_rowCost m_rowNext m_rows m_ahead m_waysTo m_image m_isKept : Nat → Int) : zMi l D k E yX7_image cX7_image 4 .int { frames := 1, cells := 0, slots := 0, locals := 22 } 0 0 [.inr (some m_a), .inl n] [(m_a, .inr (.inr (7, [.inr (some m_letters_a), .inr (some m_size_a), .inr (some m_kind_a), .inr (some m_cost_a), .inl m_words, .inr (some m_joins_a), .inr (some m_rules_a), .inr (some m_line_a), .inl m_long1, .inl m_signs, .inr (some m_pad_a), .inl m_readSize, .inl m_readKind, .inl m_readCost, .inr (some m_place_a), .inr (some m_length_a), .inr (some m_sort_a), .inr (some m_price_a), .inr (some m_of_a), .inr (some m_begins_a), .inl m_many, .inr (some m_rowCost_a), .inr (some m_rowNext_a), .inr (some m_rows_a), .inr (some m_ahead_a), .inr (some m_waysTo_a), .inr (some m_image_a), .inr (some m_isKept_a)]))), (m_letters_a, .inl (false, 96, m_letters)), (m_size_a, .inl (false, 16, m_size)), (m_kind_a, .inl (false, 16, m_kind)), (m_cost_a, .inl (false, 16, m_cost)), (m_joins_a, .inl (false, 25, m_joins)), (m_rules_a, .inl (false, 4, m_rules)), (m_line_a, .inl (false, 24, m_line)), (m_pad_a, .inl (false, 40, m_pad)), (m_place_a, .inl (false, 480, m_place)), (m_length_a, .inl (false, 480, m_length)), (m_sort_a, .inl (false, 480, m_sort)), (m_price_a, .inl (false, 480, m_price)), (m_of_a, .inl (false, 480, m_of)), (m_begins_a, .inl (false, 26, m_begins)), (m_rowCost_a, .inl (false, 5760, m_rowCost)), (m_rowNext_a, .inl (false, 5760, m_rowNext)), (m_rows_a, .inl (false, 480, m_rows)), (m_ahead_a, .inl (false, 480, m_ahead)), (m_waysTo_a, .inl (false, 26, m_waysTo)), (m_image_a, .inl (false, 460, m_image)), (m_isKept_a, .inl (true, 2, m_isKept))] (MI m_words m_size m_kind m_cost m_joins m_rules m_long1 m_signs m_image m_isKept) (fun z u => ∃ (m_image' : Nat → Int) (m_isKept' : Nat → Int), u = [(m_a, .inr (.inr (7, [.inr (some m_letters_a), .inr (some m_size_a), .inr (some m_kind_a), .inr (some m_cost_a), .inl m_words, .inr (some m_joins_a), .inr (some m_rules_a), .inr (some m_line_a), .inl m_long1, .inl m_signs, .inr (some m_pad_a), .inl m_readSize, .inl m_readKind, .inl m_readCost, .inr (some m_place_a), .inr (some m_length_a), .inr (some m_sort_a), .inr (some m_price_a), .inr (some m_of_a), .inr (some m_begins_a), .inl m_many, .inr (some m_rowCost_a), .inr (some m_rowNext_a), .inr (some m_rows_a), .inr (some m_ahead_a), .inr (some m_waysTo_a), .inr (some m_image_a), .inr (some m_isKept_a)]))), (m_letters_a, .inl (false, 96, m_letters)), (m_size_a, .inl (false, 16, m_size)), (m_kind_a, .inl (false, 16, m_kind)), (m_cost_a, .inl (false, 16, m_cost)), (m_joins_a, .inl (false, 25, m_joins)), (m_rules_a, .inl (false, 4, m_rules)), (m_line_a, .inl (false, 24, m_line)), (m_pad_a, .inl (false, 40, m_pad)), (m_place_a, .inl (false, 480, m_place)), (m_length_a, .inl (false, 480, m_length)), (m_sort_a, .inl (false, 480, m_sort)), (m_price_a, .inl (false, 480, m_price)), (m_of_a, .inl (false, 480, m_of)), (m_begins_a, .inl (false, 26, m_begins)), (m_rowCost_a, .inl (false, 5760, m_rowCost)), (m_rowNext_a, .inl (false, 5760, m_rowNext)), (m_rows_a, .inl (false, 480, m_rows)), (m_ahead_a, .inl (false, 480, m_ahead)), (m_waysTo_a, .inl (false, 26, m_waysTo)), (m_image_a, .inl (false, 460, m_image')), (m_isKept_a, .inl (true, 2, m_isKept'))] ∧ (MI m_words m_size m_kind m_cost m_joins m_rules m_long1 m_signs m_image' m_isKept' ∧ zMQ n z m_words m_long1 m_letters m_size m_kind m_cost m_joins m_rules m_line m_image m_image' m_isKept m_isKept')) := by
  refine zMi.of RX7 hE (by decide) rfl (by simp) (fun _ _ _ _ => rfl) ?_
  intro Z hP hav hwr B
  obtain ⟨l_n, u_n⟩ : zR n := hav (.inl n) (by simp)
  obtain ⟨l_m_words, u_m_words⟩ : zR m_words := zWr_at hwr (i := 0) rfl (.inl m_words) (by simp)
  obtain ⟨l_m_long1, u_m_long1⟩ : zR m_long1 := zWr_at hwr (i := 0) rfl (.inl m_long1) (by simp)
  obtain ⟨l_m_signs, u_m_signs⟩ : zR m_signs := zWr_at hwr (i := 0) rfl (.inl m_signs) (by simp)
  obtain ⟨l_m_readSize, u_m_readSize⟩ : zR m_readSize := zWr_at hwr (i := 0) rfl (.inl m_readSize) (by simp)
  obtain ⟨l_m_readKind, u_m_readKind⟩ : zR m_readKind := zWr_at hwr (i := 0) rfl (.inl m_readKind) (by simp)
  obtain ⟨l_m_readCost, u_m_readCost⟩ : zR m_readCost := zWr_at hwr (i := 0) rfl (.inl m_readCost) (by simp)
  obtain ⟨l_m_many, u_m_many⟩ : zR m_many := zWr_at hwr (i := 0) rfl (.inl m_many) (by simp)
  obtain ⟨h1, h2, h3, h4, h5⟩ := id hP
  obtain ⟨h1a, h1b, h1c⟩ := id h1
  obtain ⟨h2a, h2b⟩ := id h2
  obtain ⟨im0, eim0⟩ : ∃ x, x = m_image := ⟨_, rfl⟩
  have key : ∀ mu_ : Nat, (∀ (lv : List (Option zV)) (ws : zW), (∃ (tt : Int) (q : Int) (m_image : Nat → Int), lv = [some (.inr (some m_a)), some (.inl n), some (.inl tt), some (.inl q)] ∧ ws = [(m_a, .inr (.inr (7, [.inr (some m_letters_a), .inr (some m_size_a), .inr (some m_kind_a), .inr (some m_cost_a), .inl m_words, .inr (some m_joins_a), .inr (some m_rules_a), .inr (some m_line_a), .inl m_long1, .inl m_signs, .inr (some m_pad_a), .inl m_readSize, .inl m_readKind, .inl m_readCost, .inr (some m_place_a), .inr (some m_length_a), .inr (some m_sort_a), .inr (some m_price_a), .inr (some m_of_a), .inr (some m_begins_a), .inl m_many, .inr (some m_rowCost_a), .inr (some m_rowNext_a), .inr (some m_rows_a), .inr (some m_ahead_a), .inr (some m_waysTo_a), .inr (some m_image_a), .inr (some m_isKept_a)]))), (m_letters_a, .inl (false, 96, m_letters)), (m_size_a, .inl (false, 16, m_size)), (m_kind_a, .inl (false, 16, m_kind)), (m_cost_a, .inl (false, 16, m_cost)), (m_joins_a, .inl (false, 25, m_joins)), (m_rules_a, .inl (false, 4, m_rules)), (m_line_a, .inl (false, 24, m_line)), (m_pad_a, .inl (false, 40, m_pad)), (m_place_a, .inl (false, 480, m_place)), (m_length_a, .inl (false, 480, m_length)), (m_sort_a, .inl (false, 480, m_sort)), (m_price_a, .inl (false, 480, m_price)), (m_of_a, .inl (false, 480, m_of)), (m_begins_a, .inl (false, 26, m_begins)), (m_rowCost_a, .inl (false, 5760, m_rowCost)), (m_rowNext_a, .inl (false, 5760, m_rowNext)), (m_rows_a, .inl (false, 480, m_rows)), (m_ahead_a, .inl (false, 480, m_ahead)), (m_waysTo_a, .inl (false, 26, m_waysTo)), (m_image_a, .inl (false, 460, m_image)), (m_isKept_a, .inl (true, 2, m_isKept))] ∧ mu_ = (5000 + (100 - q)).toNat ∧ ((n = 0 ∨ n = 1) ∧ tt = 230 * n ∧ 0 ≤ q ∧ q ≤ 96 ∧ CO m_image im0 tt ∧ CY m_image m_letters tt q)) → Z 0 0 20 lv [] ws) ∧ (∀ (lv : List (Option zV)) (ws : zW), (∃ (tt : Int) (q : Int) (m_image : Nat → Int), lv = [some (.inr (some m_a)), some (.inl n), some (.inl tt), some (.inl q)] ∧ ws = [(m_a, .inr (.inr (7, [.inr (some m_letters_a), .inr (some m_size_a), .inr (some m_kind_a), .inr (some m_cost_a), .inl m_words, .inr (some m_joins_a), .inr (some m_rules_a), .inr (some m_line_a), .inl m_long1, .inl m_signs, .inr (some m_pad_a), .inl m_readSize, .inl m_readKind, .inl m_readCost, .inr (some m_place_a), .inr (some m_length_a), .inr (some m_sort_a), .inr (some m_price_a), .inr (some m_of_a), .inr (some m_begins_a), .inl m_many, .inr (some m_rowCost_a), .inr (some m_rowNext_a), .inr (some m_rows_a), .inr (some m_ahead_a), .inr (some m_waysTo_a), .inr (some m_image_a), .inr (some m_isKept_a)]))), (m_letters_a, .inl (false, 96, m_letters)), (m_size_a, .inl (false, 16, m_size)), (m_kind_a, .inl (false, 16, m_kind)), (m_cost_a, .inl (false, 16, m_cost)), (m_joins_a, .inl (false, 25, m_joins)), (m_rules_a, .inl (false, 4, m_rules)), (m_line_a, .inl (false, 24, m_line)), (m_pad_a, .inl (false, 40, m_pad)), (m_place_a, .inl (false, 480, m_place)), (m_length_a, .inl (false, 480, m_length)), (m_sort_a, .inl (false, 480, m_sort)), (m_price_a, .inl (false, 480, m_price)), (m_of_a, .inl (false, 480, m_of)), (m_begins_a, .inl (false, 26, m_begins)), (m_rowCost_a, .inl (false, 5760, m_rowCost)), (m_rowNext_a, .inl (false, 5760, m_rowNext)), (m_rows_a, .inl (false, 480, m_rows)), (m_ahead_a, .inl (false, 480, m_ahead)), (m_waysTo_a, .inl (false, 26, m_waysTo)), (m_image_a, .inl (false, 460, m_image)), (m_isKept_a, .inl (true, 2, m_isKept))] ∧ mu_ = (4000 + (100 - q)).toNat ∧ ((n = 0 ∨ n = 1) ∧ tt = 230 * n ∧ 0 ≤ q ∧ q ≤ 16 ∧ CO m_image im0 tt ∧ CY m_image m_letters tt 96 ∧ CY m_image m_size (tt + 96) q ∧ CY m_image m_kind (tt + 112) q ∧ CY m_image m_cost (tt + 128) q)) → Z 0 0 48 lv [] ws) ∧ (∀ (lv : List (Option zV)) (ws : zW), (∃ (tt : Int) (q : Int) (m_image : Nat → Int), lv = [some (.inr (some m_a)), some (.inl n), some (.inl tt), some (.inl q)] ∧ ws = [(m_a, .inr (.inr (7, [.inr (some m_letters_a), .inr (some m_size_a), .inr (some m_kind_a), .inr (some m_cost_a), .inl m_words, .inr (some m_joins_a), .inr (some m_rules_a), .inr (some m_line_a), .inl m_long1, .inl m_signs, .inr (some m_pad_a), .inl m_readSize, .inl m_readKind, .inl m_readCost, .inr (some m_place_a), .inr (some m_length_a), .inr (some m_sort_a), .inr (some m_price_a), .inr (some m_of_a), .inr (some m_begins_a), .inl m_many, .inr (some m_rowCost_a), .inr (some m_rowNext_a), .inr (some m_rows_a), .inr (some m_ahead_a), .inr (some m_waysTo_a), .inr (some m_image_a), .inr (some m_isKept_a)]))), (m_letters_a, .inl (false, 96, m_letters)), (m_size_a, .inl (false, 16, m_size)), (m_kind_a, .inl (false, 16, m_kind)), (m_cost_a, .inl (false, 16, m_cost)), (m_joins_a, .inl (false, 25, m_joins)), (m_rules_a, .inl (false, 4, m_rules)), (m_line_a, .inl (false, 24, m_line)), (m_pad_a, .inl (false, 40, m_pad)), (m_place_a, .inl (false, 480, m_place)), (m_length_a, .inl (false, 480, m_length)), (m_sort_a, .inl (false, 480, m_sort)), (m_price_a, .inl (false, 480, m_price)), (m_of_a, .inl (false, 480, m_of)), (m_begins_a, .inl (false, 26, m_begins)), (m_rowCost_a, .inl (false, 5760, m_rowCost)), (m_rowNext_a, .inl (false, 5760, m_rowNext)), (m_rows_a, .inl (false, 480, m_rows)), (m_ahead_a, .inl (false, 480, m_ahead)), (m_waysTo_a, .inl (false, 26, m_waysTo)), (m_image_a, .inl (false, 460, m_image)), (m_isKept_a, .inl (true, 2, m_isKept))] ∧ mu_ = (3000 + (100 - q)).toNat ∧ ((n = 0 ∨ n = 1) ∧ tt = 230 * n ∧ 0 ≤ q ∧ q ≤ 25 ∧ CO m_image im0 tt ∧ CY m_image m_letters tt 96 ∧ CY m_image m_size (tt + 96) 16 ∧ CY m_image m_kind (tt + 112) 16 ∧ CY m_image m_cost (tt + 128) 16 ∧ CY m_image m_joins (tt + 144) q)) → Z 0 0 114 lv [] ws) ∧ (∀ (lv : List (Option zV)) (ws : zW), (∃ (tt : Int) (q : Int) (m_image : Nat → Int), lv = [some (.inr (some m_a)), some (.inl n), some (.inl tt), some (.inl q)] ∧ ws = [(m_a, .inr (.inr (7, [.inr (some m_letters_a), .inr (some m_size_a), .inr (some m_kind_a), .inr (some m_cost_a), .inl m_words, .inr (some m_joins_a), .inr (some m_rules_a), .inr (some m_line_a), .inl m_long1, .inl m_signs, .inr (some m_pad_a), .inl m_readSize, .inl m_readKind, .inl m_readCost, .inr (some m_place_a), .inr (some m_length_a), .inr (some m_sort_a), .inr (some m_price_a), .inr (some m_of_a), .inr (some m_begins_a), .inl m_many, .inr (some m_rowCost_a), .inr (some m_rowNext_a), .inr (some m_rows_a), .inr (some m_ahead_a), .inr (some m_waysTo_a), .inr (some m_image_a), .inr (some m_isKept_a)]))), (m_letters_a, .inl (false, 96, m_letters)), (m_size_a, .inl (false, 16, m_size)), (m_kind_a, .inl (false, 16, m_kind)), (m_cost_a, .inl (false, 16, m_cost)), (m_joins_a, .inl (false, 25, m_joins)), (m_rules_a, .inl (false, 4, m_rules)), (m_line_a, .inl (false, 24, m_line)), (m_pad_a, .inl (false, 40, m_pad)), (m_place_a, .inl (false, 480, m_place)), (m_length_a, .inl (false, 480, m_length)), (m_sort_a, .inl (false, 480, m_sort)), (m_price_a, .inl (false, 480, m_price)), (m_of_a, .inl (false, 480, m_of)), (m_begins_a, .inl (false, 26, m_begins)), (m_rowCost_a, .inl (false, 5760, m_rowCost)), (m_rowNext_a, .inl (false, 5760, m_rowNext)), (m_rows_a, .inl (false, 480, m_rows)), (m_ahead_a, .inl (false, 480, m_ahead)), (m_waysTo_a, .inl (false, 26, m_waysTo)), (m_image_a, .inl (false, 460, m_image)), (m_isKept_a, .inl (true, 2, m_isKept))] ∧ mu_ = (2000 + (100 - q)).toNat ∧ ((n = 0 ∨ n = 1) ∧ tt = 230 * n ∧ 0 ≤ q ∧ q ≤ 4 ∧ CO m_image im0 tt ∧ CY m_image m_letters tt 96 ∧ CY m_image m_size (tt + 96) 16 ∧ CY m_image m_kind (tt + 112) 16 ∧ CY m_image m_cost (tt + 128) 16 ∧ CY m_image m_joins (tt + 144) 25 ∧ CY m_image m_rules (tt + 170) q)) → Z 0 0 146 lv [] ws) ∧ (∀ (lv : List (Option zV)) (ws : zW), (∃ (tt : Int) (q : Int) (m_image : Nat → Int), lv = [some (.inr (some m_a)), some (.inl n), some (.inl tt), some (.inl q)] ∧ ws = [(m_a, .inr (.inr (7, [.inr (some m_letters_a), .inr (some m_size_a), .inr (some m_kind_a), .inr (some m_cost_a), .inl m_words, .inr (some m_joins_a), .inr (some m_rules_a), .inr (some m_line_a), .inl m_long1, .inl m_signs, .inr (some m_pad_a), .inl m_readSize, .inl m_readKind, .inl m_readCost, .inr (some m_place_a), .inr (some m_length_a), .inr (some m_sort_a), .inr (some m_price_a), .inr (some m_of_a), .inr (some m_begins_a), .inl m_many, .inr (some m_rowCost_a), .inr (some m_rowNext_a), .inr (some m_rows_a), .inr (some m_ahead_a), .inr (some m_waysTo_a), .inr (some m_image_a), .inr (some m_isKept_a)]))), (m_letters_a, .inl (false, 96, m_letters)), (m_size_a, .inl (false, 16, m_size)), (m_kind_a, .inl (false, 16, m_kind)), (m_cost_a, .inl (false, 16, m_cost)), (m_joins_a, .inl (false, 25, m_joins)), (m_rules_a, .inl (false, 4, m_rules)), (m_line_a, .inl (false, 24, m_line)), (m_pad_a, .inl (false, 40, m_pad)), (m_place_a, .inl (false, 480, m_place)), (m_length_a, .inl (false, 480, m_length)), (m_sort_a, .inl (false, 480, m_sort)), (m_price_a, .inl (false, 480, m_price)), (m_of_a, .inl (false, 480, m_of)), (m_begins_a, .inl (false, 26, m_begins)), (m_rowCost_a, .inl (false, 5760, m_rowCost)), (m_rowNext_a, .inl (false, 5760, m_rowNext)), (m_rows_a, .inl (false, 480, m_rows)), (m_ahead_a, .inl (false, 480, m_ahead)), (m_waysTo_a, .inl (false, 26, m_waysTo)), (m_image_a, .inl (false, 460, m_image)), (m_isKept_a, .inl (true, 2, m_isKept))] ∧ mu_ = (1000 + (100 - q)).toNat ∧ ((n = 0 ∨ n = 1) ∧ tt = 230 * n ∧ 0 ≤ q ∧ q ≤ 24 ∧ CO m_image im0 tt ∧ CY m_image m_letters tt 96 ∧ CY m_image m_size (tt + 96) 16 ∧ CY m_image m_kind (tt + 112) 16 ∧ CY m_image m_cost (tt + 128) 16 ∧ CY m_image m_joins (tt + 144) 25 ∧ CY m_image m_rules (tt + 170) 4 ∧ CY m_image m_line (tt + 180) q)) → Z 0 0 177 lv [] ws) := by
    intro mu_
    induction mu_ using Nat.strongRecOn with
    | _ mu_ ih =>
      refine ⟨?_, ?_, ?_, ?_, ?_⟩
      · intro lv ws hJ
        obtain ⟨tt, q, m_image, rfl, rfl, rfl, hi⟩ := hJ
        obtain ⟨i1, i2, i3, i4, i5, d0⟩ := hi
        refine B.iload_n (pc := 20) (i := 3) dX7_image_20 rfl rfl ?_
        refine B.bipush (pc := 21) dX7_image_21 ⟨by decide, by decide⟩ ?_
        refine B.icmp_ge (pc := 23) (tgt := 46) dX7_image_23 (by decide) (fun c23 => ?_) (fun c23 => ?_)
        · refine B.iconst (pc := 46) dX7_image_46 ⟨by decide, by decide⟩ ?_
          refine B.istore_n (pc := 47) (i := 3) dX7_image_47 rfl (by decide) ?_
          simp only [List.set_cons_zero, List.set_cons_succ]
          refine (ih _ ?_).2.1 _ _ ⟨_, _, _, rfl, rfl, rfl, ?_⟩
          · omega
          · first | (have hq : q = 96 := by omega
                     subst hq; exact ⟨i1, i2, by omega, by omega, i5, d0, CY.nil, CY.nil, CY.nil⟩) | exact ⟨i1, i2, by omega, by omega, ((i5.put (by omega) (by omega) (by omega)).put (by omega) (by omega) (by omega)).put (by omega) (by omega) (by omega), ((d0.keep (by omega) (by omega) (by omega)).keep (by omega) (by omega) (by omega)).keep (by omega) (by omega) (by omega), ((d1.step (by omega) (by omega)).keep (by omega) (by omega) (by omega)).keep (by omega) (by omega) (by omega), ((d2.keep (by omega) (by omega) (by omega)).step (by omega) (by omega)).keep (by omega) (by omega) (by omega), ((d3.keep (by omega) (by omega) (by omega)).keep (by omega) (by omega) (by omega)).step (by omega) (by omega)⟩
        · refine B.aload_n (pc := 26) (i := 0) dX7_image_26 rfl rfl ?_
          refine B.getfield (pc := 27) 0 rfl rfl inX7z 26 (by decide) fl_X7_67 rfl dX7_image_27 ?_
          refine B.iload_n (pc := 30) (i := 2) dX7_image_30 rfl rfl ?_
          refine B.iload_n (pc := 31) (i := 3) dX7_image_31 rfl rfl ?_
          refine B.iadd (pc := 32) dX7_image_32 ⟨by omega, by omega⟩ ?_
          refine B.aload_n (pc := 33) (i := 0) dX7_image_33 rfl rfl ?_
          refine B.getfield (pc := 34) 0 rfl rfl inX7z 0 (by decide) fl_X7_7 rfl dX7_image_34 ?_
          refine B.iload_n (pc := 37) (i := 3) dX7_image_37 rfl rfl ?_
          refine B.iaload (pc := 38) 1 rfl (by omega) (by omega) dX7_image_38 (fun r38 => ?_)
          obtain ⟨lr38, ur38⟩ := r38
          refine B.iastore (pc := 39) 20 rfl (by omega) (by omega) dX7_image_39 ?_
          simp only [List.set_cons_zero, List.set_cons_succ]
          refine B.iinc (pc := 40) dX7_image_40 (by decide) rfl ⟨by omega, by omega⟩ ?_
          simp only [List.set_cons_zero, List.set_cons_succ]
          refine B.goto (pc := 43) (tgt := 20) dX7_image_43 (by decide) ?_
          refine (ih _ ?_).1 _ _ ⟨_, _, _, rfl, rfl, rfl, ?_⟩
          · omega
          · exact ⟨i1, i2, by omega, by omega, i5.put (by omega) (by omega) (by omega), d0.step (by omega) (by omega)⟩
      · intro lv ws hJ
        obtain ⟨tt, q, m_image, rfl, rfl, rfl, hi⟩ := hJ
        obtain ⟨i1, i2, i3, i4, i5, d0, d1, d2, d3⟩ := hi
        refine B.iload_n (pc := 48) (i := 3) dX7_image_48 rfl rfl ?_
        refine B.bipush (pc := 49) dX7_image_49 ⟨by decide, by decide⟩ ?_
        refine B.icmp_ge (pc := 51) (tgt := 112) dX7_image_51 (by decide) (fun c51 => ?_) (fun c51 => ?_)
        · refine B.iconst (pc := 112) dX7_image_112 ⟨by decide, by decide⟩ ?_
          refine B.istore_n (pc := 113) (i := 3) dX7_image_113 rfl (by decide) ?_
          simp only [List.set_cons_zero, List.set_cons_succ]
          refine (ih _ ?_).2.2.1 _ _ ⟨_, _, _, rfl, rfl, rfl, ?_⟩
          · omega
          · first | (have hq : q = 16 := by omega
                     subst hq; exact ⟨i1, i2, by omega, by omega, i5, d0, d1, d2, d3, CY.nil⟩) | exact ⟨i1, i2, by omega, by omega, i5.put (by omega) (by omega) (by omega), d0.keep (by omega) (by omega) (by omega), d1.keep (by omega) (by omega) (by omega), d2.keep (by omega) (by omega) (by omega), d3.keep (by omega) (by omega) (by omega), d4.step (by omega) (by omega)⟩
        · refine B.aload_n (pc := 54) (i := 0) dX7_image_54 rfl rfl ?_
          refine B.getfield (pc := 55) 0 rfl rfl inX7z 26 (by decide) fl_X7_67 rfl dX7_image_55 ?_
          refine B.iload_n (pc := 58) (i := 2) dX7_image_58 rfl rfl ?_
          refine B.bipush (pc := 59) dX7_image_59 ⟨by decide, by decide⟩ ?_
          refine B.iadd (pc := 61) dX7_image_61 ⟨by omega, by omega⟩ ?_
          refine B.iload_n (pc := 62) (i := 3) dX7_image_62 rfl rfl ?_
          refine B.iadd (pc := 63) dX7_image_63 ⟨by omega, by omega⟩ ?_
          refine B.aload_n (pc := 64) (i := 0) dX7_image_64 rfl rfl ?_
          refine B.getfield (pc := 65) 0 rfl rfl inX7z 1 (by decide) fl_X7_13 rfl dX7_image_65 ?_
          refine B.iload_n (pc := 68) (i := 3) dX7_image_68 rfl rfl ?_
          refine B.iaload (pc := 69) 2 rfl (by omega) (by omega) dX7_image_69 (fun r69 => ?_)
          obtain ⟨lr69, ur69⟩ := r69
          refine B.iastore (pc := 70) 20 rfl (by omega) (by omega) dX7_image_70 ?_
          simp only [List.set_cons_zero, List.set_cons_succ]
          refine B.aload_n (pc := 71) (i := 0) dX7_image_71 rfl rfl ?_
          refine B.getfield (pc := 72) 0 rfl rfl inX7z 26 (by decide) fl_X7_67 rfl dX7_image_72 ?_
          refine B.iload_n (pc := 75) (i := 2) dX7_image_75 rfl rfl ?_
          refine B.bipush (pc := 76) dX7_image_76 ⟨by decide, by decide⟩ ?_
          refine B.iadd (pc := 78) dX7_image_78 ⟨by omega, by omega⟩ ?_
          refine B.iload_n (pc := 79) (i := 3) dX7_image_79 rfl rfl ?_
          refine B.iadd (pc := 80) dX7_image_80 ⟨by omega, by omega⟩ ?_
          refine B.aload_n (pc := 81) (i := 0) dX7_image_81 rfl rfl ?_
          refine B.getfield (pc := 82) 0 rfl rfl inX7z 2 (by decide) fl_X7_16 rfl dX7_image_82 ?_
          refine B.iload_n (pc := 85) (i := 3) dX7_image_85 rfl rfl ?_
          refine B.iaload (pc := 86) 3 rfl (by omega) (by omega) dX7_image_86 (fun r86 => ?_)
          obtain ⟨lr86, ur86⟩ := r86
          refine B.iastore (pc := 87) 20 rfl (by omega) (by omega) dX7_image_87 ?_
          simp only [List.set_cons_zero, List.set_cons_succ]
          refine B.aload_n (pc := 88) (i := 0) dX7_image_88 rfl rfl ?_
          refine B.getfield (pc := 89) 0 rfl rfl inX7z 26 (by decide) fl_X7_67 rfl dX7_image_89 ?_
          refine B.iload_n (pc := 92) (i := 2) dX7_image_92 rfl rfl ?_
          refine B.sipush (pc := 93) dX7_image_93 ⟨by decide, by decide⟩ ?_
          refine B.iadd (pc := 96) dX7_image_96 ⟨by omega, by omega⟩ ?_
          refine B.iload_n (pc := 97) (i := 3) dX7_image_97 rfl rfl ?_
          refine B.iadd (pc := 98) dX7_image_98 ⟨by omega, by omega⟩ ?_
          refine B.aload_n (pc := 99) (i := 0) dX7_image_99 rfl rfl ?_
          refine B.getfield (pc := 100) 0 rfl rfl inX7z 3 (by decide) fl_X7_19 rfl dX7_image_100 ?_
          refine B.iload_n (pc := 103) (i := 3) dX7_image_103 rfl rfl ?_
          refine B.iaload (pc := 104) 4 rfl (by omega) (by omega) dX7_image_104 (fun r104 => ?_)
          obtain ⟨lr104, ur104⟩ := r104
          refine B.iastore (pc := 105) 20 rfl (by omega) (by omega) dX7_image_105 ?_
          simp only [List.set_cons_zero, List.set_cons_succ]
          refine B.iinc (pc := 106) dX7_image_106 (by decide) rfl ⟨by omega, by omega⟩ ?_
          simp only [List.set_cons_zero, List.set_cons_succ]
          refine B.goto (pc := 109) (tgt := 48) dX7_image_109 (by decide) ?_
          refine (ih _ ?_).2.1 _ _ ⟨_, _, _, rfl, rfl, rfl, ?_⟩
          · omega
          · first | (have hq : q = 96 := by omega
                     subst hq; exact ⟨i1, i2, by omega, by omega, i5, d0, CY.nil, CY.nil, CY.nil⟩) | exact ⟨i1, i2, by omega, by omega, ((i5.put (by omega) (by omega) (by omega)).put (by omega) (by omega) (by omega)).put (by omega) (by omega) (by omega), ((d0.keep (by omega) (by omega) (by omega)).keep (by omega) (by omega) (by omega)).keep (by omega) (by omega) (by omega), ((d1.step (by omega) (by omega)).keep (by omega) (by omega) (by omega)).keep (by omega) (by omega) (by omega), ((d2.keep (by omega) (by omega) (by omega)).step (by omega) (by omega)).keep (by omega) (by omega) (by omega), ((d3.keep (by omega) (by omega) (by omega)).keep (by omega) (by omega) (by omega)).step (by omega) (by omega)⟩
      · intro lv ws hJ
        obtain ⟨tt, q, m_image, rfl, rfl, rfl, hi⟩ := hJ
        obtain ⟨i1, i2, i3, i4, i5, d0, d1, d2, d3, d4⟩ := hi
        refine B.iload_n (pc := 114) (i := 3) dX7_image_114 rfl rfl ?_
        refine B.bipush (pc := 115) dX7_image_115 ⟨by decide, by decide⟩ ?_
        refine B.icmp_ge (pc := 117) (tgt := 144) dX7_image_117 (by decide) (fun c117 => ?_) (fun c117 => ?_)
        · refine B.iconst (pc := 144) dX7_image_144 ⟨by decide, by decide⟩ ?_
          refine B.istore_n (pc := 145) (i := 3) dX7_image_145 rfl (by decide) ?_
          simp only [List.set_cons_zero, List.set_cons_succ]
          refine (ih _ ?_).2.2.2.1 _ _ ⟨_, _, _, rfl, rfl, rfl, ?_⟩
          · omega
          · first | (have hq : q = 25 := by omega
                     subst hq; exact ⟨i1, i2, by omega, by omega, i5, d0, d1, d2, d3, d4, CY.nil⟩) | exact ⟨i1, i2, by omega, by omega, i5.put (by omega) (by omega) (by omega), d0.keep (by omega) (by omega) (by omega), d1.keep (by omega) (by omega) (by omega), d2.keep (by omega) (by omega) (by omega), d3.keep (by omega) (by omega) (by omega), d4.keep (by omega) (by omega) (by omega), d5.step (by omega) (by omega)⟩
        · refine B.aload_n (pc := 120) (i := 0) dX7_image_120 rfl rfl ?_
          refine B.getfield (pc := 121) 0 rfl rfl inX7z 26 (by decide) fl_X7_67 rfl dX7_image_121 ?_
          refine B.iload_n (pc := 124) (i := 2) dX7_image_124 rfl rfl ?_
          refine B.sipush (pc := 125) dX7_image_125 ⟨by decide, by decide⟩ ?_
          refine B.iadd (pc := 128) dX7_image_128 ⟨by omega, by omega⟩ ?_
          refine B.iload_n (pc := 129) (i := 3) dX7_image_129 rfl rfl ?_
          refine B.iadd (pc := 130) dX7_image_130 ⟨by omega, by omega⟩ ?_
          refine B.aload_n (pc := 131) (i := 0) dX7_image_131 rfl rfl ?_
          refine B.getfield (pc := 132) 0 rfl rfl inX7z 5 (by decide) fl_X7_22 rfl dX7_image_132 ?_
          refine B.iload_n (pc := 135) (i := 3) dX7_image_135 rfl rfl ?_
          refine B.iaload (pc := 136) 5 rfl (by omega) (by omega) dX7_image_136 (fun r136 => ?_)
          obtain ⟨lr136, ur136⟩ := r136
          refine B.iastore (pc := 137) 20 rfl (by omega) (by omega) dX7_image_137 ?_
          simp only [List.set_cons_zero, List.set_cons_succ]
          refine B.iinc (pc := 138) dX7_image_138 (by decide) rfl ⟨by omega, by omega⟩ ?_
          simp only [List.set_cons_zero, List.set_cons_succ]
          refine B.goto (pc := 141) (tgt := 114) dX7_image_141 (by decide) ?_
          refine (ih _ ?_).2.2.1 _ _ ⟨_, _, _, rfl, rfl, rfl, ?_⟩
          · omega
          · first | (have hq : q = 16 := by omega
                     subst hq; exact ⟨i1, i2, by omega, by omega, i5, d0, d1, d2, d3, CY.nil⟩) | exact ⟨i1, i2, by omega, by omega, i5.put (by omega) (by omega) (by omega), d0.keep (by omega) (by omega) (by omega), d1.keep (by omega) (by omega) (by omega), d2.keep (by omega) (by omega) (by omega), d3.keep (by omega) (by omega) (by omega), d4.step (by omega) (by omega)⟩
      · intro lv ws hJ
        obtain ⟨tt, q, m_image, rfl, rfl, rfl, hi⟩ := hJ
        obtain ⟨i1, i2, i3, i4, i5, d0, d1, d2, d3, d4, d5⟩ := hi
        refine B.iload_n (pc := 146) (i := 3) dX7_image_146 rfl rfl ?_
        refine B.iconst (pc := 147) dX7_image_147 ⟨by decide, by decide⟩ ?_
        refine B.icmp_ge (pc := 148) (tgt := 175) dX7_image_148 (by decide) (fun c148 => ?_) (fun c148 => ?_)
        · refine B.iconst (pc := 175) dX7_image_175 ⟨by decide, by decide⟩ ?_
          refine B.istore_n (pc := 176) (i := 3) dX7_image_176 rfl (by decide) ?_
          simp only [List.set_cons_zero, List.set_cons_succ]
          refine (ih _ ?_).2.2.2.2 _ _ ⟨_, _, _, rfl, rfl, rfl, ?_⟩
          · omega
          · first | (have hq : q = 4 := by omega
                     subst hq; exact ⟨i1, i2, by omega, by omega, i5, d0, d1, d2, d3, d4, d5, CY.nil⟩) | exact ⟨i1, i2, by omega, by omega, i5.put (by omega) (by omega) (by omega), d0.keep (by omega) (by omega) (by omega), d1.keep (by omega) (by omega) (by omega), d2.keep (by omega) (by omega) (by omega), d3.keep (by omega) (by omega) (by omega), d4.keep (by omega) (by omega) (by omega), d5.keep (by omega) (by omega) (by omega), d6.step (by omega) (by omega)⟩
        · refine B.aload_n (pc := 151) (i := 0) dX7_image_151 rfl rfl ?_
          refine B.getfield (pc := 152) 0 rfl rfl inX7z 26 (by decide) fl_X7_67 rfl dX7_image_152 ?_
          refine B.iload_n (pc := 155) (i := 2) dX7_image_155 rfl rfl ?_
          refine B.sipush (pc := 156) dX7_image_156 ⟨by decide, by decide⟩ ?_
          refine B.iadd (pc := 159) dX7_image_159 ⟨by omega, by omega⟩ ?_
          refine B.iload_n (pc := 160) (i := 3) dX7_image_160 rfl rfl ?_
          refine B.iadd (pc := 161) dX7_image_161 ⟨by omega, by omega⟩ ?_
          refine B.aload_n (pc := 162) (i := 0) dX7_image_162 rfl rfl ?_
          refine B.getfield (pc := 163) 0 rfl rfl inX7z 6 (by decide) fl_X7_25 rfl dX7_image_163 ?_
          refine B.iload_n (pc := 166) (i := 3) dX7_image_166 rfl rfl ?_
          refine B.iaload (pc := 167) 6 rfl (by omega) (by omega) dX7_image_167 (fun r167 => ?_)
          obtain ⟨lr167, ur167⟩ := r167
          refine B.iastore (pc := 168) 20 rfl (by omega) (by omega) dX7_image_168 ?_
          simp only [List.set_cons_zero, List.set_cons_succ]
          refine B.iinc (pc := 169) dX7_image_169 (by decide) rfl ⟨by omega, by omega⟩ ?_
          simp only [List.set_cons_zero, List.set_cons_succ]
          refine B.goto (pc := 172) (tgt := 146) dX7_image_172 (by decide) ?_
          refine (ih _ ?_).2.2.2.1 _ _ ⟨_, _, _, rfl, rfl, rfl, ?_⟩
          · omega
          · first | (have hq : q = 25 := by omega
                     subst hq; exact ⟨i1, i2, by omega, by omega, i5, d0, d1, d2, d3, d4, CY.nil⟩) | exact ⟨i1, i2, by omega, by omega, i5.put (by omega) (by omega) (by omega), d0.keep (by omega) (by omega) (by omega), d1.keep (by omega) (by omega) (by omega), d2.keep (by omega) (by omega) (by omega), d3.keep (by omega) (by omega) (by omega), d4.keep (by omega) (by omega) (by omega), d5.step (by omega) (by omega)⟩
      · intro lv ws hJ
        obtain ⟨tt, q, m_image, rfl, rfl, rfl, hi⟩ := hJ
        obtain ⟨i1, i2, i3, i4, i5, d0, d1, d2, d3, d4, d5, d6⟩ := hi
        refine B.iload_n (pc := 177) (i := 3) dX7_image_177 rfl rfl ?_
        refine B.bipush (pc := 178) dX7_image_178 ⟨by decide, by decide⟩ ?_
        refine B.icmp_ge (pc := 180) (tgt := 207) dX7_image_180 (by decide) (fun c180 => ?_) (fun c180 => ?_)
        · refine B.aload_n (pc := 207) (i := 0) dX7_image_207 rfl rfl ?_
          refine B.getfield (pc := 208) 0 rfl rfl inX7z 26 (by decide) fl_X7_67 rfl dX7_image_208 ?_
          refine B.iload_n (pc := 211) (i := 2) dX7_image_211 rfl rfl ?_
          refine B.sipush (pc := 212) dX7_image_212 ⟨by decide, by decide⟩ ?_
          refine B.iadd (pc := 215) dX7_image_215 ⟨by omega, by omega⟩ ?_
          refine B.aload_n (pc := 216) (i := 0) dX7_image_216 rfl rfl ?_
          refine B.getfield (pc := 217) 0 rfl rfl inX7z 4 (by decide) fl_X7_106 rfl dX7_image_217 ?_
          refine B.iastore (pc := 220) 20 rfl (by omega) (by omega) dX7_image_220 ?_
          simp only [List.set_cons_zero, List.set_cons_succ]
          refine B.aload_n (pc := 221) (i := 0) dX7_image_221 rfl rfl ?_
          refine B.getfield (pc := 222) 0 rfl rfl inX7z 26 (by decide) fl_X7_67 rfl dX7_image_222 ?_
          refine B.iload_n (pc := 225) (i := 2) dX7_image_225 rfl rfl ?_
          refine B.sipush (pc := 226) dX7_image_226 ⟨by decide, by decide⟩ ?_
          refine B.iadd (pc := 229) dX7_image_229 ⟨by omega, by omega⟩ ?_
          refine B.aload_n (pc := 230) (i := 0) dX7_image_230 rfl rfl ?_
          refine B.getfield (pc := 231) 0 rfl rfl inX7z 8 (by decide) fl_X7_109 rfl dX7_image_231 ?_
          refine B.iastore (pc := 234) 20 rfl (by omega) (by omega) dX7_image_234 ?_
          simp only [List.set_cons_zero, List.set_cons_succ]
          refine B.aload_n (pc := 235) (i := 0) dX7_image_235 rfl rfl ?_
          refine B.getfield (pc := 236) 0 rfl rfl inX7z 27 (by decide) fl_X7_70 rfl dX7_image_236 ?_
          refine B.iload_n (pc := 239) (i := 1) dX7_image_239 rfl rfl ?_
          refine B.iconst (pc := 240) dX7_image_240 ⟨by decide, by decide⟩ ?_
          refine B.bastore (pc := 241) 21 rfl (by omega) (by omega) (by decide) dX7_image_241 ?_
          simp only [List.set_cons_zero, List.set_cons_succ]
          refine B.iconst (pc := 242) dX7_image_242 ⟨by decide, by decide⟩ ?_
          refine B.ireturn (pc := 243) (by simp) dX7_image_243 (Nat.le_refl _) (Nat.le_refl _) (fun rz rw => ⟨_, _, rfl, ?_⟩)
          subst i2
          have hq : q = 24 := by omega
          subst hq
          have ho := (i5.put (x := 230 * n + 210) (v := m_words) (by omega) (by omega) (by omega)).put (x := 230 * n + 211) (v := m_long1) (by omega) (by omega) (by omega)
          have k0 := (d0.keep (x := 230 * n + 210) (v := m_words) (by omega) (by omega) (by omega)).keep (x := 230 * n + 211) (v := m_long1) (by omega) (by omega) (by omega)
          have k1 := (d1.keep (x := 230 * n + 210) (v := m_words) (by omega) (by omega) (by omega)).keep (x := 230 * n + 211) (v := m_long1) (by omega) (by omega) (by omega)
          have k2 := (d2.keep (x := 230 * n + 210) (v := m_words) (by omega) (by omega) (by omega)).keep (x := 230 * n + 211) (v := m_long1) (by omega) (by omega) (by omega)
          have k3 := (d3.keep (x := 230 * n + 210) (v := m_words) (by omega) (by omega) (by omega)).keep (x := 230 * n + 211) (v := m_long1) (by omega) (by omega) (by omega)
          have k4 := (d4.keep (x := 230 * n + 210) (v := m_words) (by omega) (by omega) (by omega)).keep (x := 230 * n + 211) (v := m_long1) (by omega) (by omega) (by omega)
          have k5 := (d5.keep (x := 230 * n + 210) (v := m_words) (by omega) (by omega) (by omega)).keep (x := 230 * n + 211) (v := m_long1) (by omega) (by omega) (by omega)
          have k6 := (d6.keep (x := 230 * n + 210) (v := m_words) (by omega) (by omega) (by omega)).keep (x := 230 * n + 211) (v := m_long1) (by omega) (by omega) (by omega)
          refine ⟨MI.image (im0 := im0) (by rw [eim0]; exact hP) i1 ho (II.of (by omega) h1 h2 k1 k2 k3 k4 k5 ?_ ?_), Or.inr ⟨i1, rfl, rfl, by rw [← eim0]; exact ho, k0, k1, k2, k3, k4, k5, k6, ?_, ?_⟩⟩
          · rw [zup_ne (by omega), zup_eq]
          · rw [zup_eq]
          · rw [zup_ne (by omega), zup_eq]
          · rw [zup_eq]
        · refine B.aload_n (pc := 183) (i := 0) dX7_image_183 rfl rfl ?_
          refine B.getfield (pc := 184) 0 rfl rfl inX7z 26 (by decide) fl_X7_67 rfl dX7_image_184 ?_
          refine B.iload_n (pc := 187) (i := 2) dX7_image_187 rfl rfl ?_
          refine B.sipush (pc := 188) dX7_image_188 ⟨by decide, by decide⟩ ?_
          refine B.iadd (pc := 191) dX7_image_191 ⟨by omega, by omega⟩ ?_
          refine B.iload_n (pc := 192) (i := 3) dX7_image_192 rfl rfl ?_
          refine B.iadd (pc := 193) dX7_image_193 ⟨by omega, by omega⟩ ?_
          refine B.aload_n (pc := 194) (i := 0) dX7_image_194 rfl rfl ?_
          refine B.getfield (pc := 195) 0 rfl rfl inX7z 7 (by decide) fl_X7_28 rfl dX7_image_195 ?_
          refine B.iload_n (pc := 198) (i := 3) dX7_image_198 rfl rfl ?_
          refine B.iaload (pc := 199) 7 rfl (by omega) (by omega) dX7_image_199 (fun r199 => ?_)
          obtain ⟨lr199, ur199⟩ := r199
          refine B.iastore (pc := 200) 20 rfl (by omega) (by omega) dX7_image_200 ?_
          simp only [List.set_cons_zero, List.set_cons_succ]
          refine B.iinc (pc := 201) dX7_image_201 (by decide) rfl ⟨by omega, by omega⟩ ?_
          simp only [List.set_cons_zero, List.set_cons_succ]
          refine B.goto (pc := 204) (tgt := 177) dX7_image_204 (by decide) ?_
          refine (ih _ ?_).2.2.2.2 _ _ ⟨_, _, _, rfl, rfl, rfl, ?_⟩
          · omega
          · first | (have hq : q = 4 := by omega
                     subst hq; exact ⟨i1, i2, by omega, by omega, i5, d0, d1, d2, d3, d4, d5, CY.nil⟩) | exact ⟨i1, i2, by omega, by omega, i5.put (by omega) (by omega) (by omega), d0.keep (by omega) (by omega) (by omega), d1.keep (by omega) (by omega) (by omega), d2.keep (by omega) (by omega) (by omega), d3.keep (by omega) (by omega) (by omega), d4.keep (by omega) (by omega) (by omega), d5.keep (by omega) (by omega) (by omega), d6.step (by omega) (by omega)⟩
  show Z 0 0 0 [some (.inr (some m_a)), some (.inl n), none, none] [] _
  refine B.iload_n (pc := 0) (i := 1) dX7_image_0 rfl rfl ?_
  refine B.iconst (pc := 1) dX7_image_1 ⟨by decide, by decide⟩ ?_
  refine B.iconst (pc := 2) dX7_image_2 ⟨by decide, by decide⟩ ?_
  refine B.callSi (pc := 3) 3 (mX7_in hE _ _ _) ml_X7_74 sm_X7_in it_X7 co_X7_in (by decide +kernel) rfl rfl rfl ⟨by decide, by decide⟩ ⟨by decide, by decide⟩ [] rfl rfl rfl (Nat.le_of_ble_eq_true rfl) dX7_image_3 (fun _ => trivial) (fun zk3 uk3 rzk3 ruk3 rak3 hqk3 => ?_)
  obtain ⟨lzk3, uzk3⟩ := rzk3
  obtain ⟨rfl, hk3⟩ := hqk3
  simp only [zput, List.append_nil, Nat.add_zero]
  refine B.if_ne (pc := 6) (tgt := 12) dX7_image_6 (by decide) (fun c6 => ?_) (fun c6 => ?_)
  · refine B.sipush (pc := 12) dX7_image_12 ⟨by decide, by decide⟩ ?_
    refine B.iload_n (pc := 15) (i := 1) dX7_image_15 rfl rfl ?_
    refine B.imul (pc := 16) dX7_image_16 ⟨by omega, by omega⟩ ?_
    refine B.istore_n (pc := 17) (i := 2) dX7_image_17 rfl (by decide) ?_
    simp only [List.set_cons_zero, List.set_cons_succ]
    refine B.iconst (pc := 18) dX7_image_18 ⟨by decide, by decide⟩ ?_
    refine B.istore_n (pc := 19) (i := 3) dX7_image_19 rfl (by decide) ?_
    simp only [List.set_cons_zero, List.set_cons_succ]
    refine (key _).1 _ _ ⟨_, _, _, rfl, rfl, rfl, ?_⟩
    exact ⟨by omega, rfl, by omega, by omega, fun j _ => by rw [eim0], CY.nil⟩
  · refine B.bipush (pc := 9) dX7_image_9 ⟨by decide, by decide⟩ ?_
    refine B.ireturn (pc := 11) (by simp) dX7_image_11 (Nat.le_refl _) (Nat.le_refl _) (fun rz rw => ⟨_, _, rfl, ?_⟩)
    exact ⟨hP, Or.inl ⟨by omega, rfl, rfl, rfl⟩⟩
set_option maxHeartbeats 4000000 in
set_option maxRecDepth 100000 in
theorem mX7_restore {l : Launch} {D : va_G} {k : zK} {E : zE} (hE : zEok E) (m_a m_letters_a m_size_a m_kind_a m_cost_a m_joins_a m_rules_a m_line_a m_pad_a m_place_a m_length_a m_sort_a m_price_a m_of_a m_begins_a m_rowCost_a m_rowNext_a m_rows_a m_ahead_a m_waysTo_a m_image_a m_isKept_a : Nat) (m_words m_long1 m_signs m_readSize m_readKind m_readCost m_many n : Int) (m_letters m_size m_kind m_cost m_joins m_rules m_line m_pad m_place m_length m_sort m_price m_of m_begins m_rowCost m_rowNext m_rows m_ahead m_waysTo m_image m_isKept : Nat → Int) : zMi l D k E yX7_restore cX7_restore 4 .int { frames := 1, cells := 0, slots := 0, locals := 22 } 0 0 [.inr (some m_a), .inl n] [(m_a, .inr (.inr (7, [.inr (some m_letters_a), .inr (some m_size_a), .inr (some m_kind_a), .inr (some m_cost_a), .inl m_words, .inr (some m_joins_a), .inr (some m_rules_a), .inr (some m_line_a), .inl m_long1, .inl m_signs, .inr (some m_pad_a), .inl m_readSize, .inl m_readKind, .inl m_readCost, .inr (some m_place_a), .inr (some m_length_a), .inr (some m_sort_a), .inr (some m_price_a), .inr (some m_of_a), .inr (some m_begins_a), .inl m_many, .inr (some m_rowCost_a), .inr (some m_rowNext_a), .inr (some m_rows_a), .inr (some m_ahead_a), .inr (some m_waysTo_a), .inr (some m_image_a), .inr (some m_isKept_a)]))), (m_letters_a, .inl (false, 96, m_letters)), (m_size_a, .inl (false, 16, m_size)), (m_kind_a, .inl (false, 16, m_kind)), (m_cost_a, .inl (false, 16, m_cost)), (m_joins_a, .inl (false, 25, m_joins)), (m_rules_a, .inl (false, 4, m_rules)), (m_line_a, .inl (false, 24, m_line)), (m_pad_a, .inl (false, 40, m_pad)), (m_place_a, .inl (false, 480, m_place)), (m_length_a, .inl (false, 480, m_length)), (m_sort_a, .inl (false, 480, m_sort)), (m_price_a, .inl (false, 480, m_price)), (m_of_a, .inl (false, 480, m_of)), (m_begins_a, .inl (false, 26, m_begins)), (m_rowCost_a, .inl (false, 5760, m_rowCost)), (m_rowNext_a, .inl (false, 5760, m_rowNext)), (m_rows_a, .inl (false, 480, m_rows)), (m_ahead_a, .inl (false, 480, m_ahead)), (m_waysTo_a, .inl (false, 26, m_waysTo)), (m_image_a, .inl (false, 460, m_image)), (m_isKept_a, .inl (true, 2, m_isKept))] (MI m_words m_size m_kind m_cost m_joins m_rules m_long1 m_signs m_image m_isKept) (fun z u => ∃ (m_letters' : Nat → Int) (m_size' : Nat → Int) (m_kind' : Nat → Int) (m_cost' : Nat → Int) (m_joins' : Nat → Int) (m_rules' : Nat → Int) (m_line' : Nat → Int) (m_words' : Int) (m_long1' : Int), u = [(m_a, .inr (.inr (7, [.inr (some m_letters_a), .inr (some m_size_a), .inr (some m_kind_a), .inr (some m_cost_a), .inl m_words', .inr (some m_joins_a), .inr (some m_rules_a), .inr (some m_line_a), .inl m_long1', .inl m_signs, .inr (some m_pad_a), .inl m_readSize, .inl m_readKind, .inl m_readCost, .inr (some m_place_a), .inr (some m_length_a), .inr (some m_sort_a), .inr (some m_price_a), .inr (some m_of_a), .inr (some m_begins_a), .inl m_many, .inr (some m_rowCost_a), .inr (some m_rowNext_a), .inr (some m_rows_a), .inr (some m_ahead_a), .inr (some m_waysTo_a), .inr (some m_image_a), .inr (some m_isKept_a)]))), (m_letters_a, .inl (false, 96, m_letters')), (m_size_a, .inl (false, 16, m_size')), (m_kind_a, .inl (false, 16, m_kind')), (m_cost_a, .inl (false, 16, m_cost')), (m_joins_a, .inl (false, 25, m_joins')), (m_rules_a, .inl (false, 4, m_rules')), (m_line_a, .inl (false, 24, m_line')), (m_pad_a, .inl (false, 40, m_pad)), (m_place_a, .inl (false, 480, m_place)), (m_length_a, .inl (false, 480, m_length)), (m_sort_a, .inl (false, 480, m_sort)), (m_price_a, .inl (false, 480, m_price)), (m_of_a, .inl (false, 480, m_of)), (m_begins_a, .inl (false, 26, m_begins)), (m_rowCost_a, .inl (false, 5760, m_rowCost)), (m_rowNext_a, .inl (false, 5760, m_rowNext)), (m_rows_a, .inl (false, 480, m_rows)), (m_ahead_a, .inl (false, 480, m_ahead)), (m_waysTo_a, .inl (false, 26, m_waysTo)), (m_image_a, .inl (false, 460, m_image)), (m_isKept_a, .inl (true, 2, m_isKept))] ∧ (MI m_words' m_size' m_kind' m_cost' m_joins' m_rules' m_long1' m_signs m_image m_isKept ∧ zMR n z m_image m_isKept m_words m_long1 m_letters m_size m_kind m_cost m_joins m_rules m_line m_words' m_long1' m_letters' m_size' m_kind' m_cost' m_joins' m_rules' m_line')) := by
  refine zMi.of RX7 hE (by decide) rfl (by simp) (fun _ _ _ _ => rfl) ?_
  intro Z hP hav hwr B
  obtain ⟨l_n, u_n⟩ : zR n := hav (.inl n) (by simp)
  obtain ⟨l_m_words, u_m_words⟩ : zR m_words := zWr_at hwr (i := 0) rfl (.inl m_words) (by simp)
  obtain ⟨l_m_long1, u_m_long1⟩ : zR m_long1 := zWr_at hwr (i := 0) rfl (.inl m_long1) (by simp)
  obtain ⟨l_m_signs, u_m_signs⟩ : zR m_signs := zWr_at hwr (i := 0) rfl (.inl m_signs) (by simp)
  obtain ⟨l_m_readSize, u_m_readSize⟩ : zR m_readSize := zWr_at hwr (i := 0) rfl (.inl m_readSize) (by simp)
  obtain ⟨l_m_readKind, u_m_readKind⟩ : zR m_readKind := zWr_at hwr (i := 0) rfl (.inl m_readKind) (by simp)
  obtain ⟨l_m_readCost, u_m_readCost⟩ : zR m_readCost := zWr_at hwr (i := 0) rfl (.inl m_readCost) (by simp)
  obtain ⟨l_m_many, u_m_many⟩ : zR m_many := zWr_at hwr (i := 0) rfl (.inl m_many) (by simp)
  obtain ⟨h1, h2, h3, h4, h5⟩ := id hP
  obtain ⟨h1a, h1b, h1c⟩ := id h1
  obtain ⟨h2a, h2b⟩ := id h2
  have key : ∀ mu_ : Nat, (∀ (lv : List (Option zV)) (ws : zW), (∃ (tt : Int) (q : Int) (m_letters : Nat → Int) (m_size : Nat → Int) (m_kind : Nat → Int) (m_cost : Nat → Int) (m_joins : Nat → Int) (m_rules : Nat → Int) (m_line : Nat → Int), lv = [some (.inr (some m_a)), some (.inl n), some (.inl tt), some (.inl q)] ∧ ws = [(m_a, .inr (.inr (7, [.inr (some m_letters_a), .inr (some m_size_a), .inr (some m_kind_a), .inr (some m_cost_a), .inl m_words, .inr (some m_joins_a), .inr (some m_rules_a), .inr (some m_line_a), .inl m_long1, .inl m_signs, .inr (some m_pad_a), .inl m_readSize, .inl m_readKind, .inl m_readCost, .inr (some m_place_a), .inr (some m_length_a), .inr (some m_sort_a), .inr (some m_price_a), .inr (some m_of_a), .inr (some m_begins_a), .inl m_many, .inr (some m_rowCost_a), .inr (some m_rowNext_a), .inr (some m_rows_a), .inr (some m_ahead_a), .inr (some m_waysTo_a), .inr (some m_image_a), .inr (some m_isKept_a)]))), (m_letters_a, .inl (false, 96, m_letters)), (m_size_a, .inl (false, 16, m_size)), (m_kind_a, .inl (false, 16, m_kind)), (m_cost_a, .inl (false, 16, m_cost)), (m_joins_a, .inl (false, 25, m_joins)), (m_rules_a, .inl (false, 4, m_rules)), (m_line_a, .inl (false, 24, m_line)), (m_pad_a, .inl (false, 40, m_pad)), (m_place_a, .inl (false, 480, m_place)), (m_length_a, .inl (false, 480, m_length)), (m_sort_a, .inl (false, 480, m_sort)), (m_price_a, .inl (false, 480, m_price)), (m_of_a, .inl (false, 480, m_of)), (m_begins_a, .inl (false, 26, m_begins)), (m_rowCost_a, .inl (false, 5760, m_rowCost)), (m_rowNext_a, .inl (false, 5760, m_rowNext)), (m_rows_a, .inl (false, 480, m_rows)), (m_ahead_a, .inl (false, 480, m_ahead)), (m_waysTo_a, .inl (false, 26, m_waysTo)), (m_image_a, .inl (false, 460, m_image)), (m_isKept_a, .inl (true, 2, m_isKept))] ∧ mu_ = (5000 + (100 - q)).toNat ∧ ((n = 0 ∨ n = 1) ∧ tt = 230 * n ∧ 0 ≤ q ∧ q ≤ 96 ∧ (II m_image tt.toNat ∧ m_isKept n.toNat ≠ 0) ∧ RY m_letters m_image tt q)) → Z 0 0 32 lv [] ws) ∧ (∀ (lv : List (Option zV)) (ws : zW), (∃ (tt : Int) (q : Int) (m_letters : Nat → Int) (m_size : Nat → Int) (m_kind : Nat → Int) (m_cost : Nat → Int) (m_joins : Nat → Int) (m_rules : Nat → Int) (m_line : Nat → Int), lv = [some (.inr (some m_a)), some (.inl n), some (.inl tt), some (.inl q)] ∧ ws = [(m_a, .inr (.inr (7, [.inr (some m_letters_a), .inr (some m_size_a), .inr (some m_kind_a), .inr (some m_cost_a), .inl m_words, .inr (some m_joins_a), .inr (some m_rules_a), .inr (some m_line_a), .inl m_long1, .inl m_signs, .inr (some m_pad_a), .inl m_readSize, .inl m_readKind, .inl m_readCost, .inr (some m_place_a), .inr (some m_length_a), .inr (some m_sort_a), .inr (some m_price_a), .inr (some m_of_a), .inr (some m_begins_a), .inl m_many, .inr (some m_rowCost_a), .inr (some m_rowNext_a), .inr (some m_rows_a), .inr (some m_ahead_a), .inr (some m_waysTo_a), .inr (some m_image_a), .inr (some m_isKept_a)]))), (m_letters_a, .inl (false, 96, m_letters)), (m_size_a, .inl (false, 16, m_size)), (m_kind_a, .inl (false, 16, m_kind)), (m_cost_a, .inl (false, 16, m_cost)), (m_joins_a, .inl (false, 25, m_joins)), (m_rules_a, .inl (false, 4, m_rules)), (m_line_a, .inl (false, 24, m_line)), (m_pad_a, .inl (false, 40, m_pad)), (m_place_a, .inl (false, 480, m_place)), (m_length_a, .inl (false, 480, m_length)), (m_sort_a, .inl (false, 480, m_sort)), (m_price_a, .inl (false, 480, m_price)), (m_of_a, .inl (false, 480, m_of)), (m_begins_a, .inl (false, 26, m_begins)), (m_rowCost_a, .inl (false, 5760, m_rowCost)), (m_rowNext_a, .inl (false, 5760, m_rowNext)), (m_rows_a, .inl (false, 480, m_rows)), (m_ahead_a, .inl (false, 480, m_ahead)), (m_waysTo_a, .inl (false, 26, m_waysTo)), (m_image_a, .inl (false, 460, m_image)), (m_isKept_a, .inl (true, 2, m_isKept))] ∧ mu_ = (4000 + (100 - q)).toNat ∧ ((n = 0 ∨ n = 1) ∧ tt = 230 * n ∧ 0 ≤ q ∧ q ≤ 16 ∧ (II m_image tt.toNat ∧ m_isKept n.toNat ≠ 0) ∧ RY m_letters m_image tt 96 ∧ RY m_size m_image (tt + 96) q ∧ RY m_kind m_image (tt + 112) q ∧ RY m_cost m_image (tt + 128) q)) → Z 0 0 60 lv [] ws) ∧ (∀ (lv : List (Option zV)) (ws : zW), (∃ (tt : Int) (q : Int) (m_letters : Nat → Int) (m_size : Nat → Int) (m_kind : Nat → Int) (m_cost : Nat → Int) (m_joins : Nat → Int) (m_rules : Nat → Int) (m_line : Nat → Int), lv = [some (.inr (some m_a)), some (.inl n), some (.inl tt), some (.inl q)] ∧ ws = [(m_a, .inr (.inr (7, [.inr (some m_letters_a), .inr (some m_size_a), .inr (some m_kind_a), .inr (some m_cost_a), .inl m_words, .inr (some m_joins_a), .inr (some m_rules_a), .inr (some m_line_a), .inl m_long1, .inl m_signs, .inr (some m_pad_a), .inl m_readSize, .inl m_readKind, .inl m_readCost, .inr (some m_place_a), .inr (some m_length_a), .inr (some m_sort_a), .inr (some m_price_a), .inr (some m_of_a), .inr (some m_begins_a), .inl m_many, .inr (some m_rowCost_a), .inr (some m_rowNext_a), .inr (some m_rows_a), .inr (some m_ahead_a), .inr (some m_waysTo_a), .inr (some m_image_a), .inr (some m_isKept_a)]))), (m_letters_a, .inl (false, 96, m_letters)), (m_size_a, .inl (false, 16, m_size)), (m_kind_a, .inl (false, 16, m_kind)), (m_cost_a, .inl (false, 16, m_cost)), (m_joins_a, .inl (false, 25, m_joins)), (m_rules_a, .inl (false, 4, m_rules)), (m_line_a, .inl (false, 24, m_line)), (m_pad_a, .inl (false, 40, m_pad)), (m_place_a, .inl (false, 480, m_place)), (m_length_a, .inl (false, 480, m_length)), (m_sort_a, .inl (false, 480, m_sort)), (m_price_a, .inl (false, 480, m_price)), (m_of_a, .inl (false, 480, m_of)), (m_begins_a, .inl (false, 26, m_begins)), (m_rowCost_a, .inl (false, 5760, m_rowCost)), (m_rowNext_a, .inl (false, 5760, m_rowNext)), (m_rows_a, .inl (false, 480, m_rows)), (m_ahead_a, .inl (false, 480, m_ahead)), (m_waysTo_a, .inl (false, 26, m_waysTo)), (m_image_a, .inl (false, 460, m_image)), (m_isKept_a, .inl (true, 2, m_isKept))] ∧ mu_ = (3000 + (100 - q)).toNat ∧ ((n = 0 ∨ n = 1) ∧ tt = 230 * n ∧ 0 ≤ q ∧ q ≤ 25 ∧ (II m_image tt.toNat ∧ m_isKept n.toNat ≠ 0) ∧ RY m_letters m_image tt 96 ∧ RY m_size m_image (tt + 96) 16 ∧ RY m_kind m_image (tt + 112) 16 ∧ RY m_cost m_image (tt + 128) 16 ∧ RY m_joins m_image (tt + 144) q)) → Z 0 0 126 lv [] ws) ∧ (∀ (lv : List (Option zV)) (ws : zW), (∃ (tt : Int) (q : Int) (m_letters : Nat → Int) (m_size : Nat → Int) (m_kind : Nat → Int) (m_cost : Nat → Int) (m_joins : Nat → Int) (m_rules : Nat → Int) (m_line : Nat → Int), lv = [some (.inr (some m_a)), some (.inl n), some (.inl tt), some (.inl q)] ∧ ws = [(m_a, .inr (.inr (7, [.inr (some m_letters_a), .inr (some m_size_a), .inr (some m_kind_a), .inr (some m_cost_a), .inl m_words, .inr (some m_joins_a), .inr (some m_rules_a), .inr (some m_line_a), .inl m_long1, .inl m_signs, .inr (some m_pad_a), .inl m_readSize, .inl m_readKind, .inl m_readCost, .inr (some m_place_a), .inr (some m_length_a), .inr (some m_sort_a), .inr (some m_price_a), .inr (some m_of_a), .inr (some m_begins_a), .inl m_many, .inr (some m_rowCost_a), .inr (some m_rowNext_a), .inr (some m_rows_a), .inr (some m_ahead_a), .inr (some m_waysTo_a), .inr (some m_image_a), .inr (some m_isKept_a)]))), (m_letters_a, .inl (false, 96, m_letters)), (m_size_a, .inl (false, 16, m_size)), (m_kind_a, .inl (false, 16, m_kind)), (m_cost_a, .inl (false, 16, m_cost)), (m_joins_a, .inl (false, 25, m_joins)), (m_rules_a, .inl (false, 4, m_rules)), (m_line_a, .inl (false, 24, m_line)), (m_pad_a, .inl (false, 40, m_pad)), (m_place_a, .inl (false, 480, m_place)), (m_length_a, .inl (false, 480, m_length)), (m_sort_a, .inl (false, 480, m_sort)), (m_price_a, .inl (false, 480, m_price)), (m_of_a, .inl (false, 480, m_of)), (m_begins_a, .inl (false, 26, m_begins)), (m_rowCost_a, .inl (false, 5760, m_rowCost)), (m_rowNext_a, .inl (false, 5760, m_rowNext)), (m_rows_a, .inl (false, 480, m_rows)), (m_ahead_a, .inl (false, 480, m_ahead)), (m_waysTo_a, .inl (false, 26, m_waysTo)), (m_image_a, .inl (false, 460, m_image)), (m_isKept_a, .inl (true, 2, m_isKept))] ∧ mu_ = (2000 + (100 - q)).toNat ∧ ((n = 0 ∨ n = 1) ∧ tt = 230 * n ∧ 0 ≤ q ∧ q ≤ 4 ∧ (II m_image tt.toNat ∧ m_isKept n.toNat ≠ 0) ∧ RY m_letters m_image tt 96 ∧ RY m_size m_image (tt + 96) 16 ∧ RY m_kind m_image (tt + 112) 16 ∧ RY m_cost m_image (tt + 128) 16 ∧ RY m_joins m_image (tt + 144) 25 ∧ RY m_rules m_image (tt + 170) q)) → Z 0 0 158 lv [] ws) ∧ (∀ (lv : List (Option zV)) (ws : zW), (∃ (tt : Int) (q : Int) (m_letters : Nat → Int) (m_size : Nat → Int) (m_kind : Nat → Int) (m_cost : Nat → Int) (m_joins : Nat → Int) (m_rules : Nat → Int) (m_line : Nat → Int), lv = [some (.inr (some m_a)), some (.inl n), some (.inl tt), some (.inl q)] ∧ ws = [(m_a, .inr (.inr (7, [.inr (some m_letters_a), .inr (some m_size_a), .inr (some m_kind_a), .inr (some m_cost_a), .inl m_words, .inr (some m_joins_a), .inr (some m_rules_a), .inr (some m_line_a), .inl m_long1, .inl m_signs, .inr (some m_pad_a), .inl m_readSize, .inl m_readKind, .inl m_readCost, .inr (some m_place_a), .inr (some m_length_a), .inr (some m_sort_a), .inr (some m_price_a), .inr (some m_of_a), .inr (some m_begins_a), .inl m_many, .inr (some m_rowCost_a), .inr (some m_rowNext_a), .inr (some m_rows_a), .inr (some m_ahead_a), .inr (some m_waysTo_a), .inr (some m_image_a), .inr (some m_isKept_a)]))), (m_letters_a, .inl (false, 96, m_letters)), (m_size_a, .inl (false, 16, m_size)), (m_kind_a, .inl (false, 16, m_kind)), (m_cost_a, .inl (false, 16, m_cost)), (m_joins_a, .inl (false, 25, m_joins)), (m_rules_a, .inl (false, 4, m_rules)), (m_line_a, .inl (false, 24, m_line)), (m_pad_a, .inl (false, 40, m_pad)), (m_place_a, .inl (false, 480, m_place)), (m_length_a, .inl (false, 480, m_length)), (m_sort_a, .inl (false, 480, m_sort)), (m_price_a, .inl (false, 480, m_price)), (m_of_a, .inl (false, 480, m_of)), (m_begins_a, .inl (false, 26, m_begins)), (m_rowCost_a, .inl (false, 5760, m_rowCost)), (m_rowNext_a, .inl (false, 5760, m_rowNext)), (m_rows_a, .inl (false, 480, m_rows)), (m_ahead_a, .inl (false, 480, m_ahead)), (m_waysTo_a, .inl (false, 26, m_waysTo)), (m_image_a, .inl (false, 460, m_image)), (m_isKept_a, .inl (true, 2, m_isKept))] ∧ mu_ = (1000 + (100 - q)).toNat ∧ ((n = 0 ∨ n = 1) ∧ tt = 230 * n ∧ 0 ≤ q ∧ q ≤ 24 ∧ (II m_image tt.toNat ∧ m_isKept n.toNat ≠ 0) ∧ RY m_letters m_image tt 96 ∧ RY m_size m_image (tt + 96) 16 ∧ RY m_kind m_image (tt + 112) 16 ∧ RY m_cost m_image (tt + 128) 16 ∧ RY m_joins m_image (tt + 144) 25 ∧ RY m_rules m_image (tt + 170) 4 ∧ RY m_line m_image (tt + 180) q)) → Z 0 0 189 lv [] ws) := by
    intro mu_
    induction mu_ using Nat.strongRecOn with
    | _ mu_ ih =>
      refine ⟨?_, ?_, ?_, ?_, ?_⟩
      · intro lv ws hJ
        obtain ⟨tt, q, m_letters, m_size, m_kind, m_cost, m_joins, m_rules, m_line, rfl, rfl, rfl, hi⟩ := hJ
        obtain ⟨i1, i2, i3, i4, i5, d0⟩ := hi
        refine B.iload_n (pc := 32) (i := 3) dX7_restore_32 rfl rfl ?_
        refine B.bipush (pc := 33) dX7_restore_33 ⟨by decide, by decide⟩ ?_
        refine B.icmp_ge (pc := 35) (tgt := 58) dX7_restore_35 (by decide) (fun c35 => ?_) (fun c35 => ?_)
        · refine B.iconst (pc := 58) dX7_restore_58 ⟨by decide, by decide⟩ ?_
          refine B.istore_n (pc := 59) (i := 3) dX7_restore_59 rfl (by decide) ?_
          simp only [List.set_cons_zero, List.set_cons_succ]
          refine (ih _ ?_).2.1 _ _ ⟨_, _, _, _, _, _, _, _, _, rfl, rfl, rfl, ?_⟩
          · omega
          · first | (have hq : q = 96 := by omega
                     subst hq; exact ⟨i1, i2, by omega, by omega, i5, d0, RY.nil, RY.nil, RY.nil⟩) | exact ⟨i1, i2, by omega, by omega, i5, d0, d1.step (by omega), d2.step (by omega), d3.step (by omega)⟩
        · refine B.aload_n (pc := 38) (i := 0) dX7_restore_38 rfl rfl ?_
          refine B.getfield (pc := 39) 0 rfl rfl inX7z 0 (by decide) fl_X7_7 rfl dX7_restore_39 ?_
          refine B.iload_n (pc := 42) (i := 3) dX7_restore_42 rfl rfl ?_
          refine B.aload_n (pc := 43) (i := 0) dX7_restore_43 rfl rfl ?_
          refine B.getfield (pc := 44) 0 rfl rfl inX7z 26 (by decide) fl_X7_67 rfl dX7_restore_44 ?_
          refine B.iload_n (pc := 47) (i := 2) dX7_restore_47 rfl rfl ?_
          refine B.iload_n (pc := 48) (i := 3) dX7_restore_48 rfl rfl ?_
          refine B.iadd (pc := 49) dX7_restore_49 ⟨by omega, by omega⟩ ?_
          refine B.iaload (pc := 50) 20 rfl (by omega) (by omega) dX7_restore_50 (fun r50 => ?_)
          obtain ⟨lr50, ur50⟩ := r50
          refine B.iastore (pc := 51) 1 rfl (by omega) (by omega) dX7_restore_51 ?_
          simp only [List.set_cons_zero, List.set_cons_succ]
          refine B.iinc (pc := 52) dX7_restore_52 (by decide) rfl ⟨by omega, by omega⟩ ?_
          simp only [List.set_cons_zero, List.set_cons_succ]
          refine B.goto (pc := 55) (tgt := 32) dX7_restore_55 (by decide) ?_
          refine (ih _ ?_).1 _ _ ⟨_, _, _, _, _, _, _, _, _, rfl, rfl, rfl, ?_⟩
          · omega
          · exact ⟨i1, i2, by omega, by omega, i5, d0.step (by omega)⟩
      · intro lv ws hJ
        obtain ⟨tt, q, m_letters, m_size, m_kind, m_cost, m_joins, m_rules, m_line, rfl, rfl, rfl, hi⟩ := hJ
        obtain ⟨i1, i2, i3, i4, i5, d0, d1, d2, d3⟩ := hi
        refine B.iload_n (pc := 60) (i := 3) dX7_restore_60 rfl rfl ?_
        refine B.bipush (pc := 61) dX7_restore_61 ⟨by decide, by decide⟩ ?_
        refine B.icmp_ge (pc := 63) (tgt := 124) dX7_restore_63 (by decide) (fun c63 => ?_) (fun c63 => ?_)
        · refine B.iconst (pc := 124) dX7_restore_124 ⟨by decide, by decide⟩ ?_
          refine B.istore_n (pc := 125) (i := 3) dX7_restore_125 rfl (by decide) ?_
          simp only [List.set_cons_zero, List.set_cons_succ]
          refine (ih _ ?_).2.2.1 _ _ ⟨_, _, _, _, _, _, _, _, _, rfl, rfl, rfl, ?_⟩
          · omega
          · first | (have hq : q = 16 := by omega
                     subst hq; exact ⟨i1, i2, by omega, by omega, i5, d0, d1, d2, d3, RY.nil⟩) | exact ⟨i1, i2, by omega, by omega, i5, d0, d1, d2, d3, d4.step (by omega)⟩
        · refine B.aload_n (pc := 66) (i := 0) dX7_restore_66 rfl rfl ?_
          refine B.getfield (pc := 67) 0 rfl rfl inX7z 1 (by decide) fl_X7_13 rfl dX7_restore_67 ?_
          refine B.iload_n (pc := 70) (i := 3) dX7_restore_70 rfl rfl ?_
          refine B.aload_n (pc := 71) (i := 0) dX7_restore_71 rfl rfl ?_
          refine B.getfield (pc := 72) 0 rfl rfl inX7z 26 (by decide) fl_X7_67 rfl dX7_restore_72 ?_
          refine B.iload_n (pc := 75) (i := 2) dX7_restore_75 rfl rfl ?_
          refine B.bipush (pc := 76) dX7_restore_76 ⟨by decide, by decide⟩ ?_
          refine B.iadd (pc := 78) dX7_restore_78 ⟨by omega, by omega⟩ ?_
          refine B.iload_n (pc := 79) (i := 3) dX7_restore_79 rfl rfl ?_
          refine B.iadd (pc := 80) dX7_restore_80 ⟨by omega, by omega⟩ ?_
          refine B.iaload (pc := 81) 20 rfl (by omega) (by omega) dX7_restore_81 (fun r81 => ?_)
          obtain ⟨lr81, ur81⟩ := r81
          refine B.iastore (pc := 82) 2 rfl (by omega) (by omega) dX7_restore_82 ?_
          simp only [List.set_cons_zero, List.set_cons_succ]
          refine B.aload_n (pc := 83) (i := 0) dX7_restore_83 rfl rfl ?_
          refine B.getfield (pc := 84) 0 rfl rfl inX7z 2 (by decide) fl_X7_16 rfl dX7_restore_84 ?_
          refine B.iload_n (pc := 87) (i := 3) dX7_restore_87 rfl rfl ?_
          refine B.aload_n (pc := 88) (i := 0) dX7_restore_88 rfl rfl ?_
          refine B.getfield (pc := 89) 0 rfl rfl inX7z 26 (by decide) fl_X7_67 rfl dX7_restore_89 ?_
          refine B.iload_n (pc := 92) (i := 2) dX7_restore_92 rfl rfl ?_
          refine B.bipush (pc := 93) dX7_restore_93 ⟨by decide, by decide⟩ ?_
          refine B.iadd (pc := 95) dX7_restore_95 ⟨by omega, by omega⟩ ?_
          refine B.iload_n (pc := 96) (i := 3) dX7_restore_96 rfl rfl ?_
          refine B.iadd (pc := 97) dX7_restore_97 ⟨by omega, by omega⟩ ?_
          refine B.iaload (pc := 98) 20 rfl (by omega) (by omega) dX7_restore_98 (fun r98 => ?_)
          obtain ⟨lr98, ur98⟩ := r98
          refine B.iastore (pc := 99) 3 rfl (by omega) (by omega) dX7_restore_99 ?_
          simp only [List.set_cons_zero, List.set_cons_succ]
          refine B.aload_n (pc := 100) (i := 0) dX7_restore_100 rfl rfl ?_
          refine B.getfield (pc := 101) 0 rfl rfl inX7z 3 (by decide) fl_X7_19 rfl dX7_restore_101 ?_
          refine B.iload_n (pc := 104) (i := 3) dX7_restore_104 rfl rfl ?_
          refine B.aload_n (pc := 105) (i := 0) dX7_restore_105 rfl rfl ?_
          refine B.getfield (pc := 106) 0 rfl rfl inX7z 26 (by decide) fl_X7_67 rfl dX7_restore_106 ?_
          refine B.iload_n (pc := 109) (i := 2) dX7_restore_109 rfl rfl ?_
          refine B.sipush (pc := 110) dX7_restore_110 ⟨by decide, by decide⟩ ?_
          refine B.iadd (pc := 113) dX7_restore_113 ⟨by omega, by omega⟩ ?_
          refine B.iload_n (pc := 114) (i := 3) dX7_restore_114 rfl rfl ?_
          refine B.iadd (pc := 115) dX7_restore_115 ⟨by omega, by omega⟩ ?_
          refine B.iaload (pc := 116) 20 rfl (by omega) (by omega) dX7_restore_116 (fun r116 => ?_)
          obtain ⟨lr116, ur116⟩ := r116
          refine B.iastore (pc := 117) 4 rfl (by omega) (by omega) dX7_restore_117 ?_
          simp only [List.set_cons_zero, List.set_cons_succ]
          refine B.iinc (pc := 118) dX7_restore_118 (by decide) rfl ⟨by omega, by omega⟩ ?_
          simp only [List.set_cons_zero, List.set_cons_succ]
          refine B.goto (pc := 121) (tgt := 60) dX7_restore_121 (by decide) ?_
          refine (ih _ ?_).2.1 _ _ ⟨_, _, _, _, _, _, _, _, _, rfl, rfl, rfl, ?_⟩
          · omega
          · first | (have hq : q = 96 := by omega
                     subst hq; exact ⟨i1, i2, by omega, by omega, i5, d0, RY.nil, RY.nil, RY.nil⟩) | exact ⟨i1, i2, by omega, by omega, i5, d0, d1.step (by omega), d2.step (by omega), d3.step (by omega)⟩
      · intro lv ws hJ
        obtain ⟨tt, q, m_letters, m_size, m_kind, m_cost, m_joins, m_rules, m_line, rfl, rfl, rfl, hi⟩ := hJ
        obtain ⟨i1, i2, i3, i4, i5, d0, d1, d2, d3, d4⟩ := hi
        refine B.iload_n (pc := 126) (i := 3) dX7_restore_126 rfl rfl ?_
        refine B.bipush (pc := 127) dX7_restore_127 ⟨by decide, by decide⟩ ?_
        refine B.icmp_ge (pc := 129) (tgt := 156) dX7_restore_129 (by decide) (fun c129 => ?_) (fun c129 => ?_)
        · refine B.iconst (pc := 156) dX7_restore_156 ⟨by decide, by decide⟩ ?_
          refine B.istore_n (pc := 157) (i := 3) dX7_restore_157 rfl (by decide) ?_
          simp only [List.set_cons_zero, List.set_cons_succ]
          refine (ih _ ?_).2.2.2.1 _ _ ⟨_, _, _, _, _, _, _, _, _, rfl, rfl, rfl, ?_⟩
          · omega
          · first | (have hq : q = 25 := by omega
                     subst hq; exact ⟨i1, i2, by omega, by omega, i5, d0, d1, d2, d3, d4, RY.nil⟩) | exact ⟨i1, i2, by omega, by omega, i5, d0, d1, d2, d3, d4, d5.step (by omega)⟩
        · refine B.aload_n (pc := 132) (i := 0) dX7_restore_132 rfl rfl ?_
          refine B.getfield (pc := 133) 0 rfl rfl inX7z 5 (by decide) fl_X7_22 rfl dX7_restore_133 ?_
          refine B.iload_n (pc := 136) (i := 3) dX7_restore_136 rfl rfl ?_
          refine B.aload_n (pc := 137) (i := 0) dX7_restore_137 rfl rfl ?_
          refine B.getfield (pc := 138) 0 rfl rfl inX7z 26 (by decide) fl_X7_67 rfl dX7_restore_138 ?_
          refine B.iload_n (pc := 141) (i := 2) dX7_restore_141 rfl rfl ?_
          refine B.sipush (pc := 142) dX7_restore_142 ⟨by decide, by decide⟩ ?_
          refine B.iadd (pc := 145) dX7_restore_145 ⟨by omega, by omega⟩ ?_
          refine B.iload_n (pc := 146) (i := 3) dX7_restore_146 rfl rfl ?_
          refine B.iadd (pc := 147) dX7_restore_147 ⟨by omega, by omega⟩ ?_
          refine B.iaload (pc := 148) 20 rfl (by omega) (by omega) dX7_restore_148 (fun r148 => ?_)
          obtain ⟨lr148, ur148⟩ := r148
          refine B.iastore (pc := 149) 5 rfl (by omega) (by omega) dX7_restore_149 ?_
          simp only [List.set_cons_zero, List.set_cons_succ]
          refine B.iinc (pc := 150) dX7_restore_150 (by decide) rfl ⟨by omega, by omega⟩ ?_
          simp only [List.set_cons_zero, List.set_cons_succ]
          refine B.goto (pc := 153) (tgt := 126) dX7_restore_153 (by decide) ?_
          refine (ih _ ?_).2.2.1 _ _ ⟨_, _, _, _, _, _, _, _, _, rfl, rfl, rfl, ?_⟩
          · omega
          · first | (have hq : q = 16 := by omega
                     subst hq; exact ⟨i1, i2, by omega, by omega, i5, d0, d1, d2, d3, RY.nil⟩) | exact ⟨i1, i2, by omega, by omega, i5, d0, d1, d2, d3, d4.step (by omega)⟩
      · intro lv ws hJ
        obtain ⟨tt, q, m_letters, m_size, m_kind, m_cost, m_joins, m_rules, m_line, rfl, rfl, rfl, hi⟩ := hJ
        obtain ⟨i1, i2, i3, i4, i5, d0, d1, d2, d3, d4, d5⟩ := hi
        refine B.iload_n (pc := 158) (i := 3) dX7_restore_158 rfl rfl ?_
        refine B.iconst (pc := 159) dX7_restore_159 ⟨by decide, by decide⟩ ?_
        refine B.icmp_ge (pc := 160) (tgt := 187) dX7_restore_160 (by decide) (fun c160 => ?_) (fun c160 => ?_)
        · refine B.iconst (pc := 187) dX7_restore_187 ⟨by decide, by decide⟩ ?_
          refine B.istore_n (pc := 188) (i := 3) dX7_restore_188 rfl (by decide) ?_
          simp only [List.set_cons_zero, List.set_cons_succ]
          refine (ih _ ?_).2.2.2.2 _ _ ⟨_, _, _, _, _, _, _, _, _, rfl, rfl, rfl, ?_⟩
          · omega
          · first | (have hq : q = 4 := by omega
                     subst hq; exact ⟨i1, i2, by omega, by omega, i5, d0, d1, d2, d3, d4, d5, RY.nil⟩) | exact ⟨i1, i2, by omega, by omega, i5, d0, d1, d2, d3, d4, d5, d6.step (by omega)⟩
        · refine B.aload_n (pc := 163) (i := 0) dX7_restore_163 rfl rfl ?_
          refine B.getfield (pc := 164) 0 rfl rfl inX7z 6 (by decide) fl_X7_25 rfl dX7_restore_164 ?_
          refine B.iload_n (pc := 167) (i := 3) dX7_restore_167 rfl rfl ?_
          refine B.aload_n (pc := 168) (i := 0) dX7_restore_168 rfl rfl ?_
          refine B.getfield (pc := 169) 0 rfl rfl inX7z 26 (by decide) fl_X7_67 rfl dX7_restore_169 ?_
          refine B.iload_n (pc := 172) (i := 2) dX7_restore_172 rfl rfl ?_
          refine B.sipush (pc := 173) dX7_restore_173 ⟨by decide, by decide⟩ ?_
          refine B.iadd (pc := 176) dX7_restore_176 ⟨by omega, by omega⟩ ?_
          refine B.iload_n (pc := 177) (i := 3) dX7_restore_177 rfl rfl ?_
          refine B.iadd (pc := 178) dX7_restore_178 ⟨by omega, by omega⟩ ?_
          refine B.iaload (pc := 179) 20 rfl (by omega) (by omega) dX7_restore_179 (fun r179 => ?_)
          obtain ⟨lr179, ur179⟩ := r179
          refine B.iastore (pc := 180) 6 rfl (by omega) (by omega) dX7_restore_180 ?_
          simp only [List.set_cons_zero, List.set_cons_succ]
          refine B.iinc (pc := 181) dX7_restore_181 (by decide) rfl ⟨by omega, by omega⟩ ?_
          simp only [List.set_cons_zero, List.set_cons_succ]
          refine B.goto (pc := 184) (tgt := 158) dX7_restore_184 (by decide) ?_
          refine (ih _ ?_).2.2.2.1 _ _ ⟨_, _, _, _, _, _, _, _, _, rfl, rfl, rfl, ?_⟩
          · omega
          · first | (have hq : q = 25 := by omega
                     subst hq; exact ⟨i1, i2, by omega, by omega, i5, d0, d1, d2, d3, d4, RY.nil⟩) | exact ⟨i1, i2, by omega, by omega, i5, d0, d1, d2, d3, d4, d5.step (by omega)⟩
      · intro lv ws hJ
        obtain ⟨tt, q, m_letters, m_size, m_kind, m_cost, m_joins, m_rules, m_line, rfl, rfl, rfl, hi⟩ := hJ
        obtain ⟨i1, i2, i3, i4, i5, d0, d1, d2, d3, d4, d5, d6⟩ := hi
        refine B.iload_n (pc := 189) (i := 3) dX7_restore_189 rfl rfl ?_
        refine B.bipush (pc := 190) dX7_restore_190 ⟨by decide, by decide⟩ ?_
        refine B.icmp_ge (pc := 192) (tgt := 219) dX7_restore_192 (by decide) (fun c192 => ?_) (fun c192 => ?_)
        · refine B.aload_n (pc := 219) (i := 0) dX7_restore_219 rfl rfl ?_
          refine B.aload_n (pc := 220) (i := 0) dX7_restore_220 rfl rfl ?_
          refine B.getfield (pc := 221) 0 rfl rfl inX7z 26 (by decide) fl_X7_67 rfl dX7_restore_221 ?_
          refine B.iload_n (pc := 224) (i := 2) dX7_restore_224 rfl rfl ?_
          refine B.sipush (pc := 225) dX7_restore_225 ⟨by decide, by decide⟩ ?_
          refine B.iadd (pc := 228) dX7_restore_228 ⟨by omega, by omega⟩ ?_
          refine B.iaload (pc := 229) 20 rfl (by omega) (by omega) dX7_restore_229 (fun r229 => ?_)
          obtain ⟨lr229, ur229⟩ := r229
          refine B.putfield (pc := 230) 0 rfl rfl inX7z tyX7 tyX7_ok nmX7 4 (by decide) fl_X7_106 rfl rfl rfl (Nat.le_of_ble_eq_true rfl) dX7_restore_230 ?_
          simp only [List.set_cons_zero, List.set_cons_succ]
          refine B.aload_n (pc := 233) (i := 0) dX7_restore_233 rfl rfl ?_
          refine B.aload_n (pc := 234) (i := 0) dX7_restore_234 rfl rfl ?_
          refine B.getfield (pc := 235) 0 rfl rfl inX7z 26 (by decide) fl_X7_67 rfl dX7_restore_235 ?_
          refine B.iload_n (pc := 238) (i := 2) dX7_restore_238 rfl rfl ?_
          refine B.sipush (pc := 239) dX7_restore_239 ⟨by decide, by decide⟩ ?_
          refine B.iadd (pc := 242) dX7_restore_242 ⟨by omega, by omega⟩ ?_
          refine B.iaload (pc := 243) 20 rfl (by omega) (by omega) dX7_restore_243 (fun r243 => ?_)
          obtain ⟨lr243, ur243⟩ := r243
          refine B.putfield (pc := 244) 0 rfl rfl inX7z tyX7 tyX7_ok nmX7 8 (by decide) fl_X7_109 rfl rfl rfl (Nat.le_of_ble_eq_true rfl) dX7_restore_244 ?_
          simp only [List.set_cons_zero, List.set_cons_succ]
          refine B.iconst (pc := 247) dX7_restore_247 ⟨by decide, by decide⟩ ?_
          refine B.ireturn (pc := 248) (by simp) dX7_restore_248 (Nat.le_refl _) (Nat.le_refl _) (fun rz rw => ⟨_, _, _, _, _, _, _, _, _, rfl, ?_⟩)
          subst i2
          have hq : q = 24 := by omega
          subst hq
          have hb := II.back (by omega) i5.1 d1 d2 d3 d4 d5
          exact ⟨⟨hb.1, hb.2, h3, h4, h5⟩, Or.inr (Or.inr ⟨i1, i5.2, rfl, rfl, rfl, d0, d1, d2, d3, d4, d5, d6⟩)⟩
        · refine B.aload_n (pc := 195) (i := 0) dX7_restore_195 rfl rfl ?_
          refine B.getfield (pc := 196) 0 rfl rfl inX7z 7 (by decide) fl_X7_28 rfl dX7_restore_196 ?_
          refine B.iload_n (pc := 199) (i := 3) dX7_restore_199 rfl rfl ?_
          refine B.aload_n (pc := 200) (i := 0) dX7_restore_200 rfl rfl ?_
          refine B.getfield (pc := 201) 0 rfl rfl inX7z 26 (by decide) fl_X7_67 rfl dX7_restore_201 ?_
          refine B.iload_n (pc := 204) (i := 2) dX7_restore_204 rfl rfl ?_
          refine B.sipush (pc := 205) dX7_restore_205 ⟨by decide, by decide⟩ ?_
          refine B.iadd (pc := 208) dX7_restore_208 ⟨by omega, by omega⟩ ?_
          refine B.iload_n (pc := 209) (i := 3) dX7_restore_209 rfl rfl ?_
          refine B.iadd (pc := 210) dX7_restore_210 ⟨by omega, by omega⟩ ?_
          refine B.iaload (pc := 211) 20 rfl (by omega) (by omega) dX7_restore_211 (fun r211 => ?_)
          obtain ⟨lr211, ur211⟩ := r211
          refine B.iastore (pc := 212) 7 rfl (by omega) (by omega) dX7_restore_212 ?_
          simp only [List.set_cons_zero, List.set_cons_succ]
          refine B.iinc (pc := 213) dX7_restore_213 (by decide) rfl ⟨by omega, by omega⟩ ?_
          simp only [List.set_cons_zero, List.set_cons_succ]
          refine B.goto (pc := 216) (tgt := 189) dX7_restore_216 (by decide) ?_
          refine (ih _ ?_).2.2.2.2 _ _ ⟨_, _, _, _, _, _, _, _, _, rfl, rfl, rfl, ?_⟩
          · omega
          · first | (have hq : q = 4 := by omega
                     subst hq; exact ⟨i1, i2, by omega, by omega, i5, d0, d1, d2, d3, d4, d5, RY.nil⟩) | exact ⟨i1, i2, by omega, by omega, i5, d0, d1, d2, d3, d4, d5, d6.step (by omega)⟩
  show Z 0 0 0 [some (.inr (some m_a)), some (.inl n), none, none] [] _
  refine B.iload_n (pc := 0) (i := 1) dX7_restore_0 rfl rfl ?_
  refine B.iconst (pc := 1) dX7_restore_1 ⟨by decide, by decide⟩ ?_
  refine B.iconst (pc := 2) dX7_restore_2 ⟨by decide, by decide⟩ ?_
  refine B.callSi (pc := 3) 3 (mX7_in hE _ _ _) ml_X7_74 sm_X7_in it_X7 co_X7_in (by decide +kernel) rfl rfl rfl ⟨by decide, by decide⟩ ⟨by decide, by decide⟩ [] rfl rfl rfl (Nat.le_of_ble_eq_true rfl) dX7_restore_3 (fun _ => trivial) (fun zk3 uk3 rzk3 ruk3 rak3 hqk3 => ?_)
  obtain ⟨lzk3, uzk3⟩ := rzk3
  obtain ⟨rfl, hk3⟩ := hqk3
  simp only [zput, List.append_nil, Nat.add_zero]
  refine B.if_ne (pc := 6) (tgt := 12) dX7_restore_6 (by decide) (fun c6 => ?_) (fun c6 => ?_)
  · refine B.aload_n (pc := 12) (i := 0) dX7_restore_12 rfl rfl ?_
    refine B.getfield (pc := 13) 0 rfl rfl inX7z 27 (by decide) fl_X7_70 rfl dX7_restore_13 ?_
    refine B.iload_n (pc := 16) (i := 1) dX7_restore_16 rfl rfl ?_
    refine B.baload (pc := 17) 21 rfl (by omega) (by omega) dX7_restore_17 (fun r17 => ?_)
    obtain ⟨lr17, ur17⟩ := r17
    refine B.if_ne (pc := 18) (tgt := 24) dX7_restore_18 (by decide) (fun c18 => ?_) (fun c18 => ?_)
    · refine B.sipush (pc := 24) dX7_restore_24 ⟨by decide, by decide⟩ ?_
      refine B.iload_n (pc := 27) (i := 1) dX7_restore_27 rfl rfl ?_
      refine B.imul (pc := 28) dX7_restore_28 ⟨by omega, by omega⟩ ?_
      refine B.istore_n (pc := 29) (i := 2) dX7_restore_29 rfl (by decide) ?_
      simp only [List.set_cons_zero, List.set_cons_succ]
      refine B.iconst (pc := 30) dX7_restore_30 ⟨by decide, by decide⟩ ?_
      refine B.istore_n (pc := 31) (i := 3) dX7_restore_31 rfl (by decide) ?_
      simp only [List.set_cons_zero, List.set_cons_succ]
      refine (key _).1 _ _ ⟨_, _, _, _, _, _, _, _, _, rfl, rfl, rfl, ?_⟩
      have hn : n = 0 ∨ n = 1 := by omega
      refine ⟨hn, rfl, by omega, by omega, ⟨?_, c18⟩, RY.nil⟩
      rcases hn with rfl | rfl
      · exact h4 c18
      · exact h5 c18
    · refine B.bipush (pc := 21) dX7_restore_21 ⟨by decide, by decide⟩ ?_
      refine B.ireturn (pc := 23) (by simp) dX7_restore_23 (Nat.le_refl _) (Nat.le_refl _) (fun rz rw => ⟨_, _, _, _, _, _, _, _, _, rfl, ?_⟩)
      exact ⟨hP, Or.inr (Or.inl ⟨by omega, by omega, rfl, rfl, rfl, rfl, rfl, rfl, rfl, rfl, rfl, rfl⟩)⟩
  · refine B.bipush (pc := 9) dX7_restore_9 ⟨by decide, by decide⟩ ?_
    refine B.ireturn (pc := 11) (by simp) dX7_restore_11 (Nat.le_refl _) (Nat.le_refl _) (fun rz rw => ⟨_, _, _, _, _, _, _, _, _, rfl, ?_⟩)
    exact ⟨hP, Or.inl ⟨by omega, rfl, rfl, rfl, rfl, rfl, rfl, rfl, rfl, rfl, rfl⟩⟩
