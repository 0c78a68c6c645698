set_option maxHeartbeats 4000000 in
set_option maxRecDepth 100000 in
theorem mX7_in {l : Launch} {D : va_G} {k : zK} {E : zE} (hE : zEok E) (v low high : Int) : zMi l D k E yX7_in cX7_in 3 .boolean { frames := 0, cells := 0, slots := 0, locals := 0 } 0 0 [.inl v, .inl low, .inl high] [] (True) (fun z u => u = [] ∧ ((z = 0 ∨ z = 1) ∧ (z = 1 ↔ low ≤ v ∧ v ≤ high))) := by
  refine zMi.of RX7 hE (by decide) rfl (by simp) (fun z u hp hq => ?_) ?_
  · have hz : z = 0 ∨ z = 1 := by obtain ⟨_, hq⟩ := hq; first | exact hq | exact hq.1 | exact Or.inr hq
    rcases hz with rfl | rfl <;> decide
  intro Z hP hav hwr B
  obtain ⟨l_v, u_v⟩ : zR v := hav (.inl v) (by simp)
  obtain ⟨l_low, u_low⟩ : zR low := hav (.inl low) (by simp)
  obtain ⟨l_high, u_high⟩ : zR high := hav (.inl high) (by simp)
  show Z 0 0 0 [some (.inl v), some (.inl low), some (.inl high)] [] _
  refine B.iload_n (pc := 0) (i := 0) dX7_in_0 rfl rfl ?_
  refine B.iload_n (pc := 1) (i := 1) dX7_in_1 rfl rfl ?_
  refine B.icmp_lt (pc := 2) (tgt := 14) dX7_in_2 (by decide) (fun c2 => ?_) (fun c2 => ?_)
  · refine B.iconst (pc := 14) dX7_in_14 ⟨by decide, by decide⟩ ?_
    refine B.ireturn (pc := 15) (by simp) dX7_in_15 (Nat.le_refl _) (Nat.le_refl _) (fun rz rw => ⟨rfl, ?_⟩)
    omega
  · refine B.iload_n (pc := 5) (i := 0) dX7_in_5 rfl rfl ?_
    refine B.iload_n (pc := 6) (i := 2) dX7_in_6 rfl rfl ?_
    refine B.icmp_gt (pc := 7) (tgt := 14) dX7_in_7 (by decide) (fun c7 => ?_) (fun c7 => ?_)
    · refine B.iconst (pc := 14) dX7_in_14 ⟨by decide, by decide⟩ ?_
      refine B.ireturn (pc := 15) (by simp) dX7_in_15 (Nat.le_refl _) (Nat.le_refl _) (fun rz rw => ⟨rfl, ?_⟩)
      omega
    · refine B.iconst (pc := 10) dX7_in_10 ⟨by decide, by decide⟩ ?_
      refine B.goto (pc := 11) (tgt := 15) dX7_in_11 (by decide) ?_
      refine B.ireturn (pc := 15) (by simp) dX7_in_15 (Nat.le_refl _) (Nat.le_refl _) (fun rz rw => ⟨rfl, ?_⟩)
      omega
set_option maxHeartbeats 4000000 in
set_option maxRecDepth 100000 in
theorem mX7_isLetter {l : Launch} {D : va_G} {k : zK} {E : zE} (hE : zEok E) (v : Int) : zMi l D k E yX7_isLetter cX7_isLetter 1 .boolean { frames := 1, cells := 0, slots := 0, locals := 22 } 0 0 [.inl v] [] (True) (fun z u => u = [] ∧ ((z = 0 ∨ z = 1) ∧ (z = 1 ↔ 97 ≤ v ∧ v ≤ 104))) := by
  refine zMi.of RX7 hE (by decide) rfl (by simp) (fun z u hp hq => ?_) ?_
  · have hz : z = 0 ∨ z = 1 := by obtain ⟨_, hq⟩ := hq; first | exact hq | exact hq.1 | exact Or.inr hq
    rcases hz with rfl | rfl <;> decide
  intro Z hP hav hwr B
  obtain ⟨l_v, u_v⟩ : zR v := hav (.inl v) (by simp)
  show Z 0 0 0 [some (.inl v)] [] _
  refine B.iload_n (pc := 0) (i := 0) dX7_isLetter_0 rfl rfl ?_
  refine B.bipush (pc := 1) dX7_isLetter_1 ⟨by decide, by decide⟩ ?_
  refine B.bipush (pc := 3) dX7_isLetter_3 ⟨by decide, by decide⟩ ?_
  refine B.callSi (pc := 5) 3 (mX7_in hE _ _ _) ml_X7_74 sm_X7_in it_X7 co_X7_in (by decide +kernel) rfl rfl rfl ⟨by decide, by decide⟩ ⟨by decide, by decide⟩ [] rfl rfl rfl (Nat.le_of_ble_eq_true rfl) dX7_isLetter_5 (fun _ => trivial) (fun zk5 uk5 rzk5 ruk5 rak5 hqk5 => ?_)
  obtain ⟨lzk5, uzk5⟩ := rzk5
  obtain ⟨rfl, hk5⟩ := hqk5
  simp only [zput, List.append_nil, Nat.add_zero]
  refine B.ireturn (pc := 8) (by simp) dX7_isLetter_8 (Nat.le_refl _) (Nat.le_refl _) (fun rz rw => ⟨rfl, ?_⟩)
  exact hk5
set_option maxHeartbeats 4000000 in
set_option maxRecDepth 100000 in
theorem mX7_classOf {l : Launch} {D : va_G} {k : zK} {E : zE} (hE : zEok E) (sg : Int) : zMi l D k E yX7_classOf cX7_classOf 1 .int { frames := 0, cells := 0, slots := 0, locals := 0 } 0 0 [.inl sg] [] (True) (fun z u => u = [] ∧ ((sg = 97 ∨ sg = 101 → z = 0) ∧ (sg ≠ 97 → sg ≠ 101 → z = 1))) := by
  refine zMi.of RX7 hE (by decide) rfl (by simp) (fun _ _ _ _ => rfl) ?_
  intro Z hP hav hwr B
  obtain ⟨l_sg, u_sg⟩ : zR sg := hav (.inl sg) (by simp)
  show Z 0 0 0 [some (.inl sg)] [] _
  refine B.iload_n (pc := 0) (i := 0) dX7_classOf_0 rfl rfl ?_
  refine B.bipush (pc := 1) dX7_classOf_1 ⟨by decide, by decide⟩ ?_
  refine B.icmp_eq (pc := 3) (tgt := 12) dX7_classOf_3 (by decide) (fun c3 => ?_) (fun c3 => ?_)
  · refine B.iconst (pc := 12) dX7_classOf_12 ⟨by decide, by decide⟩ ?_
    refine B.goto (pc := 13) (tgt := 17) dX7_classOf_13 (by decide) ?_
    refine B.ireturn (pc := 17) (by simp) dX7_classOf_17 (Nat.le_refl _) (Nat.le_refl _) (fun rz rw => ⟨rfl, ?_⟩)
    omega
  · refine B.iload_n (pc := 6) (i := 0) dX7_classOf_6 rfl rfl ?_
    refine B.bipush (pc := 7) dX7_classOf_7 ⟨by decide, by decide⟩ ?_
    refine B.icmp_ne (pc := 9) (tgt := 16) dX7_classOf_9 (by decide) (fun c9 => ?_) (fun c9 => ?_)
    · refine B.iconst (pc := 16) dX7_classOf_16 ⟨by decide, by decide⟩ ?_
      refine B.ireturn (pc := 17) (by simp) dX7_classOf_17 (Nat.le_refl _) (Nat.le_refl _) (fun rz rw => ⟨rfl, ?_⟩)
      omega
    · refine B.iconst (pc := 12) dX7_classOf_12 ⟨by decide, by decide⟩ ?_
      refine B.goto (pc := 13) (tgt := 17) dX7_classOf_13 (by decide) ?_
      refine B.ireturn (pc := 17) (by simp) dX7_classOf_17 (Nat.le_refl _) (Nat.le_refl _) (fun rz rw => ⟨rfl, ?_⟩)
      omega
set_option maxHeartbeats 4000000 in
set_option maxRecDepth 100000 in
theorem mX7_name {l : Launch} {D : va_G} {k : zK} {E : zE} (hE : zEok E) (kd i : Int) : zMi l D k E yX7_name cX7_name 2 .int { frames := 0, cells := 0, slots := 0, locals := 0 } 0 0 [.inl kd, .inl i] [] (0 ≤ kd ∧ kd ≤ 2 ∧ 0 ≤ i ∧ i ≤ 3) (fun z u => u = [] ∧ (z = ztxt (4 * kd + i).toNat)) := by
  refine zMi.of RX7 hE (by decide) rfl (by simp) (fun _ _ _ _ => rfl) ?_
  intro Z hP hav hwr B
  obtain ⟨l_kd, u_kd⟩ : zR kd := hav (.inl kd) (by simp)
  obtain ⟨l_i, u_i⟩ : zR i := hav (.inl i) (by simp)
  show Z 0 0 0 [some (.inl kd), some (.inl i)] [] _
  refine B.iconst (pc := 0) dX7_name_0 ⟨by decide, by decide⟩ ?_
  refine B.iload_n (pc := 1) (i := 0) dX7_name_1 rfl rfl ?_
  refine B.imul (pc := 2) dX7_name_2 ⟨by omega, by omega⟩ ?_
  refine B.iload_n (pc := 3) (i := 1) dX7_name_3 rfl rfl ?_
  refine B.iadd (pc := 4) dX7_name_4 ⟨by omega, by omega⟩ ?_
  refine zsplitE (X := fun v => Z _ _ 5 _ (.inl v :: _) _) (0) (fun e5_0 => ?_) (fun c5_0 => ?_)
  · refine B.tsIn (pc := 5) (tgt := 64) dX7_name_5 (by decide) (by decide) rfl (by decide) ?_
    refine B.bipush (pc := 64) dX7_name_64 ⟨by decide, by decide⟩ ?_
    refine B.ireturn (pc := 66) (by simp) dX7_name_66 (Nat.le_refl _) (Nat.le_refl _) (fun rz rw => ⟨rfl, ?_⟩)
    rw [e5_0]; rfl
  refine zsplitE (X := fun v => Z _ _ 5 _ (.inl v :: _) _) (1) (fun e5_1 => ?_) (fun c5_1 => ?_)
  · refine B.tsIn (pc := 5) (tgt := 67) dX7_name_5 (by decide) (by decide) rfl (by decide) ?_
    refine B.bipush (pc := 67) dX7_name_67 ⟨by decide, by decide⟩ ?_
    refine B.ireturn (pc := 69) (by simp) dX7_name_69 (Nat.le_refl _) (Nat.le_refl _) (fun rz rw => ⟨rfl, ?_⟩)
    rw [e5_1]; rfl
  refine zsplitE (X := fun v => Z _ _ 5 _ (.inl v :: _) _) (2) (fun e5_2 => ?_) (fun c5_2 => ?_)
  · refine B.tsIn (pc := 5) (tgt := 70) dX7_name_5 (by decide) (by decide) rfl (by decide) ?_
    refine B.bipush (pc := 70) dX7_name_70 ⟨by decide, by decide⟩ ?_
    refine B.ireturn (pc := 72) (by simp) dX7_name_72 (Nat.le_refl _) (Nat.le_refl _) (fun rz rw => ⟨rfl, ?_⟩)
    rw [e5_2]; rfl
  refine zsplitE (X := fun v => Z _ _ 5 _ (.inl v :: _) _) (3) (fun e5_3 => ?_) (fun c5_3 => ?_)
  · refine B.tsIn (pc := 5) (tgt := 73) dX7_name_5 (by decide) (by decide) rfl (by decide) ?_
    refine B.bipush (pc := 73) dX7_name_73 ⟨by decide, by decide⟩ ?_
    refine B.ireturn (pc := 75) (by simp) dX7_name_75 (Nat.le_refl _) (Nat.le_refl _) (fun rz rw => ⟨rfl, ?_⟩)
    rw [e5_3]; rfl
  refine zsplitE (X := fun v => Z _ _ 5 _ (.inl v :: _) _) (4) (fun e5_4 => ?_) (fun c5_4 => ?_)
  · refine B.tsIn (pc := 5) (tgt := 76) dX7_name_5 (by decide) (by decide) rfl (by decide) ?_
    refine B.bipush (pc := 76) dX7_name_76 ⟨by decide, by decide⟩ ?_
    refine B.ireturn (pc := 78) (by simp) dX7_name_78 (Nat.le_refl _) (Nat.le_refl _) (fun rz rw => ⟨rfl, ?_⟩)
    rw [e5_4]; rfl
  refine zsplitE (X := fun v => Z _ _ 5 _ (.inl v :: _) _) (5) (fun e5_5 => ?_) (fun c5_5 => ?_)
  · refine B.tsIn (pc := 5) (tgt := 79) dX7_name_5 (by decide) (by decide) rfl (by decide) ?_
    refine B.bipush (pc := 79) dX7_name_79 ⟨by decide, by decide⟩ ?_
    refine B.ireturn (pc := 81) (by simp) dX7_name_81 (Nat.le_refl _) (Nat.le_refl _) (fun rz rw => ⟨rfl, ?_⟩)
    rw [e5_5]; rfl
  refine zsplitE (X := fun v => Z _ _ 5 _ (.inl v :: _) _) (6) (fun e5_6 => ?_) (fun c5_6 => ?_)
  · refine B.tsIn (pc := 5) (tgt := 82) dX7_name_5 (by decide) (by decide) rfl (by decide) ?_
    refine B.bipush (pc := 82) dX7_name_82 ⟨by decide, by decide⟩ ?_
    refine B.ireturn (pc := 84) (by simp) dX7_name_84 (Nat.le_refl _) (Nat.le_refl _) (fun rz rw => ⟨rfl, ?_⟩)
    rw [e5_6]; rfl
  refine zsplitE (X := fun v => Z _ _ 5 _ (.inl v :: _) _) (7) (fun e5_7 => ?_) (fun c5_7 => ?_)
  · refine B.tsIn (pc := 5) (tgt := 85) dX7_name_5 (by decide) (by decide) rfl (by decide) ?_
    refine B.bipush (pc := 85) dX7_name_85 ⟨by decide, by decide⟩ ?_
    refine B.ireturn (pc := 87) (by simp) dX7_name_87 (Nat.le_refl _) (Nat.le_refl _) (fun rz rw => ⟨rfl, ?_⟩)
    rw [e5_7]; rfl
  refine zsplitE (X := fun v => Z _ _ 5 _ (.inl v :: _) _) (8) (fun e5_8 => ?_) (fun c5_8 => ?_)
  · refine B.tsIn (pc := 5) (tgt := 88) dX7_name_5 (by decide) (by decide) rfl (by decide) ?_
    refine B.bipush (pc := 88) dX7_name_88 ⟨by decide, by decide⟩ ?_
    refine B.ireturn (pc := 90) (by simp) dX7_name_90 (Nat.le_refl _) (Nat.le_refl _) (fun rz rw => ⟨rfl, ?_⟩)
    rw [e5_8]; rfl
  refine zsplitE (X := fun v => Z _ _ 5 _ (.inl v :: _) _) (9) (fun e5_9 => ?_) (fun c5_9 => ?_)
  · refine B.tsIn (pc := 5) (tgt := 91) dX7_name_5 (by decide) (by decide) rfl (by decide) ?_
    refine B.bipush (pc := 91) dX7_name_91 ⟨by decide, by decide⟩ ?_
    refine B.ireturn (pc := 93) (by simp) dX7_name_93 (Nat.le_refl _) (Nat.le_refl _) (fun rz rw => ⟨rfl, ?_⟩)
    rw [e5_9]; rfl
  refine zsplitE (X := fun v => Z _ _ 5 _ (.inl v :: _) _) (10) (fun e5_10 => ?_) (fun c5_10 => ?_)
  · refine B.tsIn (pc := 5) (tgt := 94) dX7_name_5 (by decide) (by decide) rfl (by decide) ?_
    refine B.bipush (pc := 94) dX7_name_94 ⟨by decide, by decide⟩ ?_
    refine B.ireturn (pc := 96) (by simp) dX7_name_96 (Nat.le_refl _) (Nat.le_refl _) (fun rz rw => ⟨rfl, ?_⟩)
    rw [e5_10]; rfl
  refine B.tsOut (pc := 5) (tgt := 97) dX7_name_5 (by omega) (by decide) ?_
  refine B.bipush (pc := 97) dX7_name_97 ⟨by decide, by decide⟩ ?_
  refine B.ireturn (pc := 99) (by simp) dX7_name_99 (Nat.le_refl _) (Nat.le_refl _) (fun rz rw => ⟨rfl, ?_⟩)
  rw [show 4 * kd + i = 11 by omega]; rfl
set_option maxHeartbeats 4000000 in
set_option maxRecDepth 100000 in
theorem mX7_say {l : Launch} {D : va_G} {k : zK} {E : zE} (hE : zEok E) (m_a m_letters_a m_size_a m_kind_a m_cost_a m_joins_a m_rules_a m_line_a m_pad_a m_place_a m_length_a m_sort_a m_price_a m_of_a m_begins_a m_rowCost_a m_rowNext_a m_rows_a m_ahead_a m_waysTo_a m_image_a m_isKept_a : Nat) (m_words m_long1 m_signs m_readSize m_readKind m_readCost m_many sg : Int) (m_letters m_size m_kind m_cost m_joins m_rules m_line m_pad m_place m_length m_sort m_price m_of m_begins m_rowCost m_rowNext m_rows m_ahead m_waysTo m_image m_isKept : Nat → Int) : zMi l D k E yX7_say cX7_say 2 .int { frames := 1, cells := 0, slots := 0, locals := 22 } 0 0 [.inr (some m_a), .inl sg] [(m_a, .inr (.inr (7, [.inr (some m_letters_a), .inr (some m_size_a), .inr (some m_kind_a), .inr (some m_cost_a), .inl m_words, .inr (some m_joins_a), .inr (some m_rules_a), .inr (some m_line_a), .inl m_long1, .inl m_signs, .inr (some m_pad_a), .inl m_readSize, .inl m_readKind, .inl m_readCost, .inr (some m_place_a), .inr (some m_length_a), .inr (some m_sort_a), .inr (some m_price_a), .inr (some m_of_a), .inr (some m_begins_a), .inl m_many, .inr (some m_rowCost_a), .inr (some m_rowNext_a), .inr (some m_rows_a), .inr (some m_ahead_a), .inr (some m_waysTo_a), .inr (some m_image_a), .inr (some m_isKept_a)]))), (m_letters_a, .inl (false, 96, m_letters)), (m_size_a, .inl (false, 16, m_size)), (m_kind_a, .inl (false, 16, m_kind)), (m_cost_a, .inl (false, 16, m_cost)), (m_joins_a, .inl (false, 25, m_joins)), (m_rules_a, .inl (false, 4, m_rules)), (m_line_a, .inl (false, 24, m_line)), (m_pad_a, .inl (false, 40, m_pad)), (m_place_a, .inl (false, 480, m_place)), (m_length_a, .inl (false, 480, m_length)), (m_sort_a, .inl (false, 480, m_sort)), (m_price_a, .inl (false, 480, m_price)), (m_of_a, .inl (false, 480, m_of)), (m_begins_a, .inl (false, 26, m_begins)), (m_rowCost_a, .inl (false, 5760, m_rowCost)), (m_rowNext_a, .inl (false, 5760, m_rowNext)), (m_rows_a, .inl (false, 480, m_rows)), (m_ahead_a, .inl (false, 480, m_ahead)), (m_waysTo_a, .inl (false, 26, m_waysTo)), (m_image_a, .inl (false, 460, m_image)), (m_isKept_a, .inl (true, 2, m_isKept))] (MI m_words m_size m_kind m_cost m_joins m_rules m_long1 m_signs m_image m_isKept) (fun z u => ∃ (m_signs' : Int) (m_pad' : Nat → Int), u = [(m_a, .inr (.inr (7, [.inr (some m_letters_a), .inr (some m_size_a), .inr (some m_kind_a), .inr (some m_cost_a), .inl m_words, .inr (some m_joins_a), .inr (some m_rules_a), .inr (some m_line_a), .inl m_long1, .inl m_signs', .inr (some m_pad_a), .inl m_readSize, .inl m_readKind, .inl m_readCost, .inr (some m_place_a), .inr (some m_length_a), .inr (some m_sort_a), .inr (some m_price_a), .inr (some m_of_a), .inr (some m_begins_a), .inl m_many, .inr (some m_rowCost_a), .inr (some m_rowNext_a), .inr (some m_rows_a), .inr (some m_ahead_a), .inr (some m_waysTo_a), .inr (some m_image_a), .inr (some m_isKept_a)]))), (m_letters_a, .inl (false, 96, m_letters)), (m_size_a, .inl (false, 16, m_size)), (m_kind_a, .inl (false, 16, m_kind)), (m_cost_a, .inl (false, 16, m_cost)), (m_joins_a, .inl (false, 25, m_joins)), (m_rules_a, .inl (false, 4, m_rules)), (m_line_a, .inl (false, 24, m_line)), (m_pad_a, .inl (false, 40, m_pad')), (m_place_a, .inl (false, 480, m_place)), (m_length_a, .inl (false, 480, m_length)), (m_sort_a, .inl (false, 480, m_sort)), (m_price_a, .inl (false, 480, m_price)), (m_of_a, .inl (false, 480, m_of)), (m_begins_a, .inl (false, 26, m_begins)), (m_rowCost_a, .inl (false, 5760, m_rowCost)), (m_rowNext_a, .inl (false, 5760, m_rowNext)), (m_rows_a, .inl (false, 480, m_rows)), (m_ahead_a, .inl (false, 480, m_ahead)), (m_waysTo_a, .inl (false, 26, m_waysTo)), (m_image_a, .inl (false, 460, m_image)), (m_isKept_a, .inl (true, 2, m_isKept))] ∧ (MI m_words m_size m_kind m_cost m_joins m_rules m_long1 m_signs' m_image m_isKept ∧ zSS sg z m_signs m_pad m_signs' m_pad')) := by
  refine zMi.of RX7 hE (by decide) rfl (by simp) (fun _ _ _ _ => rfl) ?_
  intro Z hP hav hwr B
  obtain ⟨l_sg, u_sg⟩ : zR sg := hav (.inl sg) (by simp)
  obtain ⟨l_m_words, u_m_words⟩ : zR m_words := zWr_at hwr (i := 0) rfl (.inl m_words) (by simp)
  obtain ⟨l_m_long1, u_m_long1⟩ : zR m_long1 := zWr_at hwr (i := 0) rfl (.inl m_long1) (by simp)
  obtain ⟨l_m_signs, u_m_signs⟩ : zR m_signs := zWr_at hwr (i := 0) rfl (.inl m_signs) (by simp)
  obtain ⟨l_m_readSize, u_m_readSize⟩ : zR m_readSize := zWr_at hwr (i := 0) rfl (.inl m_readSize) (by simp)
  obtain ⟨l_m_readKind, u_m_readKind⟩ : zR m_readKind := zWr_at hwr (i := 0) rfl (.inl m_readKind) (by simp)
  obtain ⟨l_m_readCost, u_m_readCost⟩ : zR m_readCost := zWr_at hwr (i := 0) rfl (.inl m_readCost) (by simp)
  obtain ⟨l_m_many, u_m_many⟩ : zR m_many := zWr_at hwr (i := 0) rfl (.inl m_many) (by simp)
  obtain ⟨h1, h2, h3, h4, h5⟩ := id hP
  obtain ⟨h1a, h1b, h1c⟩ := id h1
  obtain ⟨h2a, h2b⟩ := id h2
  show Z 0 0 0 [some (.inr (some m_a)), some (.inl sg)] [] _
  refine B.iload_n (pc := 0) (i := 1) dX7_say_0 rfl rfl ?_
  refine B.bipush (pc := 1) dX7_say_1 ⟨by decide, by decide⟩ ?_
  refine B.bipush (pc := 3) dX7_say_3 ⟨by decide, by decide⟩ ?_
  refine B.callSi (pc := 5) 3 (mX7_in hE _ _ _) ml_X7_74 sm_X7_in it_X7 co_X7_in (by decide +kernel) rfl rfl rfl ⟨by decide, by decide⟩ ⟨by decide, by decide⟩ [] rfl rfl rfl (Nat.le_of_ble_eq_true rfl) dX7_say_5 (fun _ => trivial) (fun zk5 uk5 rzk5 ruk5 rak5 hqk5 => ?_)
  obtain ⟨lzk5, uzk5⟩ := rzk5
  obtain ⟨rfl, hk5⟩ := hqk5
  simp only [zput, List.append_nil, Nat.add_zero]
  refine B.if_ne (pc := 8) (tgt := 14) dX7_say_8 (by decide) (fun c8 => ?_) (fun c8 => ?_)
  · refine B.aload_n (pc := 14) (i := 0) dX7_say_14 rfl rfl ?_
    refine B.getfield (pc := 15) 0 rfl rfl inX7z 9 (by decide) fl_X7_78 rfl dX7_say_15 ?_
    refine B.bipush (pc := 18) dX7_say_18 ⟨by decide, by decide⟩ ?_
    refine B.icmp_ne (pc := 20) (tgt := 26) dX7_say_20 (by decide) (fun c20 => ?_) (fun c20 => ?_)
    · refine B.aload_n (pc := 26) (i := 0) dX7_say_26 rfl rfl ?_
      refine B.getfield (pc := 27) 0 rfl rfl inX7z 10 (by decide) fl_X7_31 rfl dX7_say_27 ?_
      refine B.aload_n (pc := 30) (i := 0) dX7_say_30 rfl rfl ?_
      refine B.getfield (pc := 31) 0 rfl rfl inX7z 9 (by decide) fl_X7_78 rfl dX7_say_31 ?_
      refine B.iload_n (pc := 34) (i := 1) dX7_say_34 rfl rfl ?_
      refine B.iastore (pc := 35) 8 rfl (by omega) (by omega) dX7_say_35 ?_
      simp only [List.set_cons_zero, List.set_cons_succ]
      refine B.aload_n (pc := 36) (i := 0) dX7_say_36 rfl rfl ?_
      refine B.dup (pc := 37) dX7_say_37 ?_
      refine B.getfield (pc := 38) 0 rfl rfl inX7z 9 (by decide) fl_X7_78 rfl dX7_say_38 ?_
      refine B.iconst (pc := 41) dX7_say_41 ⟨by decide, by decide⟩ ?_
      refine B.iadd (pc := 42) dX7_say_42 ⟨by omega, by omega⟩ ?_
      refine B.putfield (pc := 43) 0 rfl rfl inX7z tyX7 tyX7_ok nmX7 9 (by decide) fl_X7_78 rfl rfl rfl (Nat.le_of_ble_eq_true rfl) dX7_say_43 ?_
      simp only [List.set_cons_zero, List.set_cons_succ]
      refine B.aload_n (pc := 46) (i := 0) dX7_say_46 rfl rfl ?_
      refine B.getfield (pc := 47) 0 rfl rfl inX7z 9 (by decide) fl_X7_78 rfl dX7_say_47 ?_
      refine B.ireturn (pc := 50) (by simp) dX7_say_50 (Nat.le_refl _) (Nat.le_refl _) (fun rz rw => ⟨_, _, rfl, ?_⟩)
      exact ⟨⟨h1, h2, by omega, h4, h5⟩, Or.inr (Or.inr ⟨by omega, by omega, by omega, rfl, rfl, rfl⟩)⟩
    · refine B.bipush (pc := 23) dX7_say_23 ⟨by decide, by decide⟩ ?_
      refine B.ireturn (pc := 25) (by simp) dX7_say_25 (Nat.le_refl _) (Nat.le_refl _) (fun rz rw => ⟨_, _, rfl, ?_⟩)
      exact ⟨hP, Or.inr (Or.inl ⟨by omega, by omega, by omega, rfl, rfl, rfl⟩)⟩
  · refine B.bipush (pc := 11) dX7_say_11 ⟨by decide, by decide⟩ ?_
    refine B.ireturn (pc := 13) (by simp) dX7_say_13 (Nat.le_refl _) (Nat.le_refl _) (fun rz rw => ⟨_, _, rfl, ?_⟩)
    exact ⟨hP, Or.inl ⟨by omega, rfl, rfl, rfl⟩⟩
set_option maxHeartbeats 4000000 in
set_option maxRecDepth 100000 in
theorem mX7_wipe {l : Launch} {D : va_G} {k : zK} {E : zE} (hE : zEok E) (m_a m_letters_a m_size_a m_kind_a m_cost_a m_joins_a m_rules_a m_line_a m_pad_a m_place_a m_length_a m_sort_a m_price_a m_of_a m_begins_a m_rowCost_a m_rowNext_a m_rows_a m_ahead_a m_waysTo_a m_image_a m_isKept_a : Nat) (m_words m_long1 m_signs m_readSize m_readKind m_readCost m_many : Int) (m_letters m_size m_kind m_cost m_joins m_rules m_line m_pad m_place m_length m_sort m_price m_of m_begins m_rowCost m_rowNext m_rows m_ahead m_waysTo m_image m_isKept : Nat → Int) : zMi l D k E yX7_wipe cX7_wipe 2 .int { frames := 0, cells := 0, slots := 0, locals := 0 } 0 0 [.inr (some m_a)] [(m_a, .inr (.inr (7, [.inr (some m_letters_a), .inr (some m_size_a), .inr (some m_kind_a), .inr (some m_cost_a), .inl m_words, .inr (some m_joins_a), .inr (some m_rules_a), .inr (some m_line_a), .inl m_long1, .inl m_signs, .inr (some m_pad_a), .inl m_readSize, .inl m_readKind, .inl m_readCost, .inr (some m_place_a), .inr (some m_length_a), .inr (some m_sort_a), .inr (some m_price_a), .inr (some m_of_a), .inr (some m_begins_a), .inl m_many, .inr (some m_rowCost_a), .inr (some m_rowNext_a), .inr (some m_rows_a), .inr (some m_ahead_a), .inr (some m_waysTo_a), .inr (some m_image_a), .inr (some m_isKept_a)]))), (m_letters_a, .inl (false, 96, m_letters)), (m_size_a, .inl (false, 16, m_size)), (m_kind_a, .inl (false, 16, m_kind)), (m_cost_a, .inl (false, 16, m_cost)), (m_joins_a, .inl (false, 25, m_joins)), (m_rules_a, .inl (false, 4, m_rules)), (m_line_a, .inl (false, 24, m_line)), (m_pad_a, .inl (false, 40, m_pad)), (m_place_a, .inl (false, 480, m_place)), (m_length_a, .inl (false, 480, m_length)), (m_sort_a, .inl (false, 480, m_sort)), (m_price_a, .inl (false, 480, m_price)), (m_of_a, .inl (false, 480, m_of)), (m_begins_a, .inl (false, 26, m_begins)), (m_rowCost_a, .inl (false, 5760, m_rowCost)), (m_rowNext_a, .inl (false, 5760, m_rowNext)), (m_rows_a, .inl (false, 480, m_rows)), (m_ahead_a, .inl (false, 480, m_ahead)), (m_waysTo_a, .inl (false, 26, m_waysTo)), (m_image_a, .inl (false, 460, m_image)), (m_isKept_a, .inl (true, 2, m_isKept))] (MI m_words m_size m_kind m_cost m_joins m_rules m_long1 m_signs m_image m_isKept) (fun z u => ∃ (m_signs' : Int), u = [(m_a, .inr (.inr (7, [.inr (some m_letters_a), .inr (some m_size_a), .inr (some m_kind_a), .inr (some m_cost_a), .inl m_words, .inr (some m_joins_a), .inr (some m_rules_a), .inr (some m_line_a), .inl m_long1, .inl m_signs', .inr (some m_pad_a), .inl m_readSize, .inl m_readKind, .inl m_readCost, .inr (some m_place_a), .inr (some m_length_a), .inr (some m_sort_a), .inr (some m_price_a), .inr (some m_of_a), .inr (some m_begins_a), .inl m_many, .inr (some m_rowCost_a), .inr (some m_rowNext_a), .inr (some m_rows_a), .inr (some m_ahead_a), .inr (some m_waysTo_a), .inr (some m_image_a), .inr (some m_isKept_a)]))), (m_letters_a, .inl (false, 96, m_letters)), (m_size_a, .inl (false, 16, m_size)), (m_kind_a, .inl (false, 16, m_kind)), (m_cost_a, .inl (false, 16, m_cost)), (m_joins_a, .inl (false, 25, m_joins)), (m_rules_a, .inl (false, 4, m_rules)), (m_line_a, .inl (false, 24, m_line)), (m_pad_a, .inl (false, 40, m_pad)), (m_place_a, .inl (false, 480, m_place)), (m_length_a, .inl (false, 480, m_length)), (m_sort_a, .inl (false, 480, m_sort)), (m_price_a, .inl (false, 480, m_price)), (m_of_a, .inl (false, 480, m_of)), (m_begins_a, .inl (false, 26, m_begins)), (m_rowCost_a, .inl (false, 5760, m_rowCost)), (m_rowNext_a, .inl (false, 5760, m_rowNext)), (m_rows_a, .inl (false, 480, m_rows)), (m_ahead_a, .inl (false, 480, m_ahead)), (m_waysTo_a, .inl (false, 26, m_waysTo)), (m_image_a, .inl (false, 460, m_image)), (m_isKept_a, .inl (true, 2, m_isKept))] ∧ (MI m_words m_size m_kind m_cost m_joins m_rules m_long1 m_signs' m_image m_isKept ∧ zWP m_signs z m_signs')) := by
  refine zMi.of RX7 hE (by decide) rfl (by simp) (fun _ _ _ _ => rfl) ?_
  intro Z hP hav hwr B
  obtain ⟨l_m_words, u_m_words⟩ : zR m_words := zWr_at hwr (i := 0) rfl (.inl m_words) (by simp)
  obtain ⟨l_m_long1, u_m_long1⟩ : zR m_long1 := zWr_at hwr (i := 0) rfl (.inl m_long1) (by simp)
  obtain ⟨l_m_signs, u_m_signs⟩ : zR m_signs := zWr_at hwr (i := 0) rfl (.inl m_signs) (by simp)
  obtain ⟨l_m_readSize, u_m_readSize⟩ : zR m_readSize := zWr_at hwr (i := 0) rfl (.inl m_readSize) (by simp)
  obtain ⟨l_m_readKind, u_m_readKind⟩ : zR m_readKind := zWr_at hwr (i := 0) rfl (.inl m_readKind) (by simp)
  obtain ⟨l_m_readCost, u_m_readCost⟩ : zR m_readCost := zWr_at hwr (i := 0) rfl (.inl m_readCost) (by simp)
  obtain ⟨l_m_many, u_m_many⟩ : zR m_many := zWr_at hwr (i := 0) rfl (.inl m_many) (by simp)
  obtain ⟨h1, h2, h3, h4, h5⟩ := id hP
  obtain ⟨h1a, h1b, h1c⟩ := id h1
  obtain ⟨h2a, h2b⟩ := id h2
  show Z 0 0 0 [some (.inr (some m_a)), none] [] _
  refine B.aload_n (pc := 0) (i := 0) dX7_wipe_0 rfl rfl ?_
  refine B.getfield (pc := 1) 0 rfl rfl inX7z 9 (by decide) fl_X7_78 rfl dX7_wipe_1 ?_
  refine B.istore_n (pc := 4) (i := 1) dX7_wipe_4 rfl (by decide) ?_
  simp only [List.set_cons_zero, List.set_cons_succ]
  refine B.aload_n (pc := 5) (i := 0) dX7_wipe_5 rfl rfl ?_
  refine B.iconst (pc := 6) dX7_wipe_6 ⟨by decide, by decide⟩ ?_
  refine B.putfield (pc := 7) 0 rfl rfl inX7z tyX7 tyX7_ok nmX7 9 (by decide) fl_X7_78 rfl rfl rfl (Nat.le_of_ble_eq_true rfl) dX7_wipe_7 ?_
  simp only [List.set_cons_zero, List.set_cons_succ]
  refine B.iload_n (pc := 10) (i := 1) dX7_wipe_10 rfl rfl ?_
  refine B.ireturn (pc := 11) (by simp) dX7_wipe_11 (Nat.le_refl _) (Nat.le_refl _) (fun rz rw => ⟨_, rfl, ?_⟩)
  exact ⟨⟨h1, h2, by omega, h4, h5⟩, rfl, rfl⟩
set_option maxHeartbeats 4000000 in
set_option maxRecDepth 100000 in
theorem mX7_wordFault {l : Launch} {D : va_G} {k : zK} {E : zE} (hE : zEok E) (m_a m_letters_a m_size_a m_kind_a m_cost_a m_joins_a m_rules_a m_line_a m_pad_a m_place_a m_length_a m_sort_a m_price_a m_of_a m_begins_a m_rowCost_a m_rowNext_a m_rows_a m_ahead_a m_waysTo_a m_image_a m_isKept_a : Nat) (m_words m_long1 m_signs m_readSize m_readKind m_readCost m_many : Int) (m_letters m_size m_kind m_cost m_joins m_rules m_line m_pad m_place m_length m_sort m_price m_of m_begins m_rowCost m_rowNext m_rows m_ahead m_waysTo m_image m_isKept : Nat → Int) : zMi l D k E yX7_wordFault cX7_wordFault 4 .int { frames := 2, cells := 0, slots := 0, locals := 42 } 0 0 [.inr (some m_a)] [(m_a, .inr (.inr (7, [.inr (some m_letters_a), .inr (some m_size_a), .inr (some m_kind_a), .inr (some m_cost_a), .inl m_words, .inr (some m_joins_a), .inr (some m_rules_a), .inr (some m_line_a), .inl m_long1, .inl m_signs, .inr (some m_pad_a), .inl m_readSize, .inl m_readKind, .inl m_readCost, .inr (some m_place_a), .inr (some m_length_a), .inr (some m_sort_a), .inr (some m_price_a), .inr (some m_of_a), .inr (some m_begins_a), .inl m_many, .inr (some m_rowCost_a), .inr (some m_rowNext_a), .inr (some m_rows_a), .inr (some m_ahead_a), .inr (some m_waysTo_a), .inr (some m_image_a), .inr (some m_isKept_a)]))), (m_letters_a, .inl (false, 96, m_letters)), (m_size_a, .inl (false, 16, m_size)), (m_kind_a, .inl (false, 16, m_kind)), (m_cost_a, .inl (false, 16, m_cost)), (m_joins_a, .inl (false, 25, m_joins)), (m_rules_a, .inl (false, 4, m_rules)), (m_line_a, .inl (false, 24, m_line)), (m_pad_a, .inl (false, 40, m_pad)), (m_place_a, .inl (false, 480, m_place)), (m_length_a, .inl (false, 480, m_length)), (m_sort_a, .inl (false, 480, m_sort)), (m_price_a, .inl (false, 480, m_price)), (m_of_a, .inl (false, 480, m_of)), (m_begins_a, .inl (false, 26, m_begins)), (m_rowCost_a, .inl (false, 5760, m_rowCost)), (m_rowNext_a, .inl (false, 5760, m_rowNext)), (m_rows_a, .inl (false, 480, m_rows)), (m_ahead_a, .inl (false, 480, m_ahead)), (m_waysTo_a, .inl (false, 26, m_waysTo)), (m_image_a, .inl (false, 460, m_image)), (m_isKept_a, .inl (true, 2, m_isKept))] (0 ≤ m_signs ∧ m_signs ≤ 40) (fun z u => ∃ (m_readSize' : Int) (m_readKind' : Int) (m_readCost' : Int), u = [(m_a, .inr (.inr (7, [.inr (some m_letters_a), .inr (some m_size_a), .inr (some m_kind_a), .inr (some m_cost_a), .inl m_words, .inr (some m_joins_a), .inr (some m_rules_a), .inr (some m_line_a), .inl m_long1, .inl m_signs, .inr (some m_pad_a), .inl m_readSize', .inl m_readKind', .inl m_readCost', .inr (some m_place_a), .inr (some m_length_a), .inr (some m_sort_a), .inr (some m_price_a), .inr (some m_of_a), .inr (some m_begins_a), .inl m_many, .inr (some m_rowCost_a), .inr (some m_rowNext_a), .inr (some m_rows_a), .inr (some m_ahead_a), .inr (some m_waysTo_a), .inr (some m_image_a), .inr (some m_isKept_a)]))), (m_letters_a, .inl (false, 96, m_letters)), (m_size_a, .inl (false, 16, m_size)), (m_kind_a, .inl (false, 16, m_kind)), (m_cost_a, .inl (false, 16, m_cost)), (m_joins_a, .inl (false, 25, m_joins)), (m_rules_a, .inl (false, 4, m_rules)), (m_line_a, .inl (false, 24, m_line)), (m_pad_a, .inl (false, 40, m_pad)), (m_place_a, .inl (false, 480, m_place)), (m_length_a, .inl (false, 480, m_length)), (m_sort_a, .inl (false, 480, m_sort)), (m_price_a, .inl (false, 480, m_price)), (m_of_a, .inl (false, 480, m_of)), (m_begins_a, .inl (false, 26, m_begins)), (m_rowCost_a, .inl (false, 5760, m_rowCost)), (m_rowNext_a, .inl (false, 5760, m_rowNext)), (m_rows_a, .inl (false, 480, m_rows)), (m_ahead_a, .inl (false, 480, m_ahead)), (m_waysTo_a, .inl (false, 26, m_waysTo)), (m_image_a, .inl (false, 460, m_image)), (m_isKept_a, .inl (true, 2, m_isKept))] ∧ (WF m_signs m_pad z m_readSize' m_readKind' m_readCost' ∧ (z < 0 → 1 ≤ m_readSize' ∧ m_readSize' ≤ 6 ∧ 0 ≤ m_readKind' ∧ m_readKind' ≤ 2 ∧ 0 ≤ m_readCost' ∧ m_readCost' ≤ 99) ∧ (z < 0 → z = -6))) := by
  refine zMi.of RX7 hE (by decide) rfl (by simp) (fun _ _ _ _ => rfl) ?_
  intro Z hP hav hwr B
  obtain ⟨l_m_words, u_m_words⟩ : zR m_words := zWr_at hwr (i := 0) rfl (.inl m_words) (by simp)
  obtain ⟨l_m_long1, u_m_long1⟩ : zR m_long1 := zWr_at hwr (i := 0) rfl (.inl m_long1) (by simp)
  obtain ⟨l_m_signs, u_m_signs⟩ : zR m_signs := zWr_at hwr (i := 0) rfl (.inl m_signs) (by simp)
  obtain ⟨l_m_readSize, u_m_readSize⟩ : zR m_readSize := zWr_at hwr (i := 0) rfl (.inl m_readSize) (by simp)
  obtain ⟨l_m_readKind, u_m_readKind⟩ : zR m_readKind := zWr_at hwr (i := 0) rfl (.inl m_readKind) (by simp)
  obtain ⟨l_m_readCost, u_m_readCost⟩ : zR m_readCost := zWr_at hwr (i := 0) rfl (.inl m_readCost) (by simp)
  obtain ⟨l_m_many, u_m_many⟩ : zR m_many := zWr_at hwr (i := 0) rfl (.inl m_many) (by simp)
  have key : ∀ mu_ : Nat, (∀ (lv : List (Option zV)) (ws : zW), (∃ (d2 : Option zV) (d3 : Option zV) (t : Int), lv = [some (.inr (some m_a)), some (.inl t), d2, d3] ∧ ws = [(m_a, .inr (.inr (7, [.inr (some m_letters_a), .inr (some m_size_a), .inr (some m_kind_a), .inr (some m_cost_a), .inl m_words, .inr (some m_joins_a), .inr (some m_rules_a), .inr (some m_line_a), .inl m_long1, .inl m_signs, .inr (some m_pad_a), .inl m_readSize, .inl m_readKind, .inl m_readCost, .inr (some m_place_a), .inr (some m_length_a), .inr (some m_sort_a), .inr (some m_price_a), .inr (some m_of_a), .inr (some m_begins_a), .inl m_many, .inr (some m_rowCost_a), .inr (some m_rowNext_a), .inr (some m_rows_a), .inr (some m_ahead_a), .inr (some m_waysTo_a), .inr (some m_image_a), .inr (some m_isKept_a)]))), (m_letters_a, .inl (false, 96, m_letters)), (m_size_a, .inl (false, 16, m_size)), (m_kind_a, .inl (false, 16, m_kind)), (m_cost_a, .inl (false, 16, m_cost)), (m_joins_a, .inl (false, 25, m_joins)), (m_rules_a, .inl (false, 4, m_rules)), (m_line_a, .inl (false, 24, m_line)), (m_pad_a, .inl (false, 40, m_pad)), (m_place_a, .inl (false, 480, m_place)), (m_length_a, .inl (false, 480, m_length)), (m_sort_a, .inl (false, 480, m_sort)), (m_price_a, .inl (false, 480, m_price)), (m_of_a, .inl (false, 480, m_of)), (m_begins_a, .inl (false, 26, m_begins)), (m_rowCost_a, .inl (false, 5760, m_rowCost)), (m_rowNext_a, .inl (false, 5760, m_rowNext)), (m_rows_a, .inl (false, 480, m_rows)), (m_ahead_a, .inl (false, 480, m_ahead)), (m_waysTo_a, .inl (false, 26, m_waysTo)), (m_image_a, .inl (false, 460, m_image)), (m_isKept_a, .inl (true, 2, m_isKept))] ∧ mu_ = (6 - t).toNat + 1000 ∧ (0 ≤ t ∧ t ≤ 6 ∧ t ≤ m_signs ∧ ∀ j : Nat, (j : Int) < t → lt_ (m_pad j))) → Z 0 0 2 lv [] ws) ∧ (∀ (lv : List (Option zV)) (ws : zW), (∃ (d3 : Option zV) (t : Int) (q : Int) (m_readSize : Int) (m_readKind : Int), lv = [some (.inr (some m_a)), some (.inl t), some (.inl q), d3] ∧ ws = [(m_a, .inr (.inr (7, [.inr (some m_letters_a), .inr (some m_size_a), .inr (some m_kind_a), .inr (some m_cost_a), .inl m_words, .inr (some m_joins_a), .inr (some m_rules_a), .inr (some m_line_a), .inl m_long1, .inl m_signs, .inr (some m_pad_a), .inl m_readSize, .inl m_readKind, .inl m_readCost, .inr (some m_place_a), .inr (some m_length_a), .inr (some m_sort_a), .inr (some m_price_a), .inr (some m_of_a), .inr (some m_begins_a), .inl m_many, .inr (some m_rowCost_a), .inr (some m_rowNext_a), .inr (some m_rows_a), .inr (some m_ahead_a), .inr (some m_waysTo_a), .inr (some m_image_a), .inr (some m_isKept_a)]))), (m_letters_a, .inl (false, 96, m_letters)), (m_size_a, .inl (false, 16, m_size)), (m_kind_a, .inl (false, 16, m_kind)), (m_cost_a, .inl (false, 16, m_cost)), (m_joins_a, .inl (false, 25, m_joins)), (m_rules_a, .inl (false, 4, m_rules)), (m_line_a, .inl (false, 24, m_line)), (m_pad_a, .inl (false, 40, m_pad)), (m_place_a, .inl (false, 480, m_place)), (m_length_a, .inl (false, 480, m_length)), (m_sort_a, .inl (false, 480, m_sort)), (m_price_a, .inl (false, 480, m_price)), (m_of_a, .inl (false, 480, m_of)), (m_begins_a, .inl (false, 26, m_begins)), (m_rowCost_a, .inl (false, 5760, m_rowCost)), (m_rowNext_a, .inl (false, 5760, m_rowNext)), (m_rows_a, .inl (false, 480, m_rows)), (m_ahead_a, .inl (false, 480, m_ahead)), (m_waysTo_a, .inl (false, 26, m_waysTo)), (m_image_a, .inl (false, 460, m_image)), (m_isKept_a, .inl (true, 2, m_isKept))] ∧ mu_ = (3 - q).toNat + 100 ∧ (1 ≤ m_readSize ∧ m_readSize ≤ 6 ∧ t = m_readSize + 1 ∧ t ≤ m_signs ∧ 0 ≤ q ∧ q ≤ 3 ∧ LD m_signs m_pad 6 m_readSize ∧ sA m_signs m_pad m_readSize = 61 ∧ KQ (sA m_signs m_pad t) q m_readKind)) → Z 0 0 75 lv [] ws) ∧ (∀ (lv : List (Option zV)) (ws : zW), (∃ (t : Int) (wh : Int) (q : Int) (m_readSize : Int) (m_readKind : Int), lv = [some (.inr (some m_a)), some (.inl t), some (.inl wh), some (.inl q)] ∧ ws = [(m_a, .inr (.inr (7, [.inr (some m_letters_a), .inr (some m_size_a), .inr (some m_kind_a), .inr (some m_cost_a), .inl m_words, .inr (some m_joins_a), .inr (some m_rules_a), .inr (some m_line_a), .inl m_long1, .inl m_signs, .inr (some m_pad_a), .inl m_readSize, .inl m_readKind, .inl m_readCost, .inr (some m_place_a), .inr (some m_length_a), .inr (some m_sort_a), .inr (some m_price_a), .inr (some m_of_a), .inr (some m_begins_a), .inl m_many, .inr (some m_rowCost_a), .inr (some m_rowNext_a), .inr (some m_rows_a), .inr (some m_ahead_a), .inr (some m_waysTo_a), .inr (some m_image_a), .inr (some m_isKept_a)]))), (m_letters_a, .inl (false, 96, m_letters)), (m_size_a, .inl (false, 16, m_size)), (m_kind_a, .inl (false, 16, m_kind)), (m_cost_a, .inl (false, 16, m_cost)), (m_joins_a, .inl (false, 25, m_joins)), (m_rules_a, .inl (false, 4, m_rules)), (m_line_a, .inl (false, 24, m_line)), (m_pad_a, .inl (false, 40, m_pad)), (m_place_a, .inl (false, 480, m_place)), (m_length_a, .inl (false, 480, m_length)), (m_sort_a, .inl (false, 480, m_sort)), (m_price_a, .inl (false, 480, m_price)), (m_of_a, .inl (false, 480, m_of)), (m_begins_a, .inl (false, 26, m_begins)), (m_rowCost_a, .inl (false, 5760, m_rowCost)), (m_rowNext_a, .inl (false, 5760, m_rowNext)), (m_rows_a, .inl (false, 480, m_rows)), (m_ahead_a, .inl (false, 480, m_ahead)), (m_waysTo_a, .inl (false, 26, m_waysTo)), (m_image_a, .inl (false, 460, m_image)), (m_isKept_a, .inl (true, 2, m_isKept))] ∧ mu_ = (4 - q).toNat ∧ (1 ≤ m_readSize ∧ m_readSize ≤ 6 ∧ t = m_readSize + 1 ∧ t < m_signs ∧ (1 ≤ q ∧ q ≤ 4 ∧ 0 ≤ m_readKind ∧ m_readKind ≤ 2) ∧ ((wh = 0 ∨ wh = 1) ∧ (wh = 1 → t + 3 < m_signs)) ∧ LD m_signs m_pad 6 m_readSize ∧ sA m_signs m_pad m_readSize = 61 ∧ KD (sA m_signs m_pad t) m_readKind ∧ (wh = 1 → ∀ j : Int, 0 ≤ j → j < q → sA m_signs m_pad (t + j) = ztxt (4 * m_readKind + j).toNat) ∧ (wh = 0 → ¬ WN m_signs m_pad t m_readKind))) → Z 0 0 147 lv [] ws) := by
    intro mu_
    induction mu_ using Nat.strongRecOn with
    | _ mu_ ih =>
      refine ⟨?_, ?_, ?_⟩
      · intro lv ws hJ
        obtain ⟨d2, d3, t, rfl, rfl, rfl, hi⟩ := hJ
        obtain ⟨i1, i2, i3, i4⟩ := hi
        refine B.iload_n (pc := 2) (i := 1) dX7_wordFault_2 rfl rfl ?_
        refine B.aload_n (pc := 3) (i := 0) dX7_wordFault_3 rfl rfl ?_
        refine B.getfield (pc := 4) 0 rfl rfl inX7z 9 (by decide) fl_X7_78 rfl dX7_wordFault_4 ?_
        refine B.icmp_ge (pc := 7) (tgt := 34) dX7_wordFault_7 (by decide) (fun c7 => ?_) (fun c7 => ?_)
        · have hLD : LD m_signs m_pad 6 t := ⟨by omega, by omega, by omega, i4, by unfold lt_; omega⟩
          refine B.aload_n (pc := 34) (i := 0) dX7_wordFault_34 rfl rfl ?_
          refine B.iload_n (pc := 35) (i := 1) dX7_wordFault_35 rfl rfl ?_
          refine B.putfield (pc := 36) 0 rfl rfl inX7z tyX7 tyX7_ok nmX7 11 (by decide) fl_X7_86 rfl rfl rfl (Nat.le_of_ble_eq_true rfl) dX7_wordFault_36 ?_
          simp only [List.set_cons_zero, List.set_cons_succ]
          refine B.iload_n (pc := 39) (i := 1) dX7_wordFault_39 rfl rfl ?_
          refine B.aload_n (pc := 40) (i := 0) dX7_wordFault_40 rfl rfl ?_
          refine B.getfield (pc := 41) 0 rfl rfl inX7z 9 (by decide) fl_X7_78 rfl dX7_wordFault_41 ?_
          refine B.icmp_eq (pc := 44) (tgt := 62) dX7_wordFault_44 (by decide) (fun c44 => ?_) (fun c44 => ?_)
          · refine B.iload_n (pc := 62) (i := 1) dX7_wordFault_62 rfl rfl ?_
            refine B.ireturn (pc := 63) (by simp) dX7_wordFault_63 (Nat.le_refl _) (Nat.le_refl _) (fun rz rw => ⟨_, _, _, rfl, ?_⟩)
            refine ⟨⟨_, hLD, rfl, Or.inl ⟨?_, rfl⟩⟩, by omega, by omega⟩
            rintro ⟨g1, g2⟩
            first | omega | (rw [sA_in (by omega) (by omega)] at g2; omega) | (rw [sA_out (by omega)] at g2; omega)
          · refine B.iload_n (pc := 47) (i := 1) dX7_wordFault_47 rfl rfl ?_
            refine B.if_eq (pc := 48) (tgt := 62) dX7_wordFault_48 (by decide) (fun c48 => ?_) (fun c48 => ?_)
            · refine B.iload_n (pc := 62) (i := 1) dX7_wordFault_62 rfl rfl ?_
              refine B.ireturn (pc := 63) (by simp) dX7_wordFault_63 (Nat.le_refl _) (Nat.le_refl _) (fun rz rw => ⟨_, _, _, rfl, ?_⟩)
              refine ⟨⟨_, hLD, rfl, Or.inl ⟨?_, rfl⟩⟩, by omega, by omega⟩
              rintro ⟨g1, g2⟩
              first | omega | (rw [sA_in (by omega) (by omega)] at g2; omega) | (rw [sA_out (by omega)] at g2; omega)
            · refine B.aload_n (pc := 51) (i := 0) dX7_wordFault_51 rfl rfl ?_
              refine B.getfield (pc := 52) 0 rfl rfl inX7z 10 (by decide) fl_X7_31 rfl dX7_wordFault_52 ?_
              refine B.iload_n (pc := 55) (i := 1) dX7_wordFault_55 rfl rfl ?_
              refine B.iaload (pc := 56) 8 rfl (by omega) (by omega) dX7_wordFault_56 (fun r56 => ?_)
              obtain ⟨lr56, ur56⟩ := r56
              refine B.bipush (pc := 57) dX7_wordFault_57 ⟨by decide, by decide⟩ ?_
              refine B.icmp_eq (pc := 59) (tgt := 64) dX7_wordFault_59 (by decide) (fun c59 => ?_) (fun c59 => ?_)
              · refine B.iinc (pc := 64) dX7_wordFault_64 (by decide) rfl ⟨by omega, by omega⟩ ?_
                simp only [List.set_cons_zero, List.set_cons_succ]
                refine B.aload_n (pc := 67) (i := 0) dX7_wordFault_67 rfl rfl ?_
                refine B.bipush (pc := 68) dX7_wordFault_68 ⟨by decide, by decide⟩ ?_
                refine B.putfield (pc := 70) 0 rfl rfl inX7z tyX7 tyX7_ok nmX7 12 (by decide) fl_X7_89 rfl rfl rfl (Nat.le_of_ble_eq_true rfl) dX7_wordFault_70 ?_
                simp only [List.set_cons_zero, List.set_cons_succ]
                refine B.iconst (pc := 73) dX7_wordFault_73 ⟨by decide, by decide⟩ ?_
                refine B.istore_n (pc := 74) (i := 2) dX7_wordFault_74 rfl (by decide) ?_
                simp only [List.set_cons_zero, List.set_cons_succ]
                refine (ih _ ?_).2.1 _ _ ⟨_, _, _, _, _, rfl, rfl, rfl, ?_⟩
                · omega
                · refine ⟨by omega, by omega, rfl, by omega, by omega, by omega, hLD, ?_, ?_⟩
                  · rw [sA_in (by omega) (by omega)]; omega
                  · unfold KQ; omega
              · refine B.iload_n (pc := 62) (i := 1) dX7_wordFault_62 rfl rfl ?_
                refine B.ireturn (pc := 63) (by simp) dX7_wordFault_63 (Nat.le_refl _) (Nat.le_refl _) (fun rz rw => ⟨_, _, _, rfl, ?_⟩)
                refine ⟨⟨_, hLD, rfl, Or.inl ⟨?_, rfl⟩⟩, by omega, by omega⟩
                rintro ⟨g1, g2⟩
                first | omega | (rw [sA_in (by omega) (by omega)] at g2; omega) | (rw [sA_out (by omega)] at g2; omega)
        · refine B.iload_n (pc := 10) (i := 1) dX7_wordFault_10 rfl rfl ?_
          refine B.bipush (pc := 11) dX7_wordFault_11 ⟨by decide, by decide⟩ ?_
          refine B.icmp_ge (pc := 13) (tgt := 34) dX7_wordFault_13 (by decide) (fun c13 => ?_) (fun c13 => ?_)
          · have hLD : LD m_signs m_pad 6 t := ⟨by omega, by omega, by omega, i4, by unfold lt_; omega⟩
            refine B.aload_n (pc := 34) (i := 0) dX7_wordFault_34 rfl rfl ?_
            refine B.iload_n (pc := 35) (i := 1) dX7_wordFault_35 rfl rfl ?_
            refine B.putfield (pc := 36) 0 rfl rfl inX7z tyX7 tyX7_ok nmX7 11 (by decide) fl_X7_86 rfl rfl rfl (Nat.le_of_ble_eq_true rfl) dX7_wordFault_36 ?_
            simp only [List.set_cons_zero, List.set_cons_succ]
            refine B.iload_n (pc := 39) (i := 1) dX7_wordFault_39 rfl rfl ?_
            refine B.aload_n (pc := 40) (i := 0) dX7_wordFault_40 rfl rfl ?_
            refine B.getfield (pc := 41) 0 rfl rfl inX7z 9 (by decide) fl_X7_78 rfl dX7_wordFault_41 ?_
            refine B.icmp_eq (pc := 44) (tgt := 62) dX7_wordFault_44 (by decide) (fun c44 => ?_) (fun c44 => ?_)
            · refine B.iload_n (pc := 62) (i := 1) dX7_wordFault_62 rfl rfl ?_
              refine B.ireturn (pc := 63) (by simp) dX7_wordFault_63 (Nat.le_refl _) (Nat.le_refl _) (fun rz rw => ⟨_, _, _, rfl, ?_⟩)
              refine ⟨⟨_, hLD, rfl, Or.inl ⟨?_, rfl⟩⟩, by omega, by omega⟩
              rintro ⟨g1, g2⟩
              first | omega | (rw [sA_in (by omega) (by omega)] at g2; omega) | (rw [sA_out (by omega)] at g2; omega)
            · refine B.iload_n (pc := 47) (i := 1) dX7_wordFault_47 rfl rfl ?_
              refine B.if_eq (pc := 48) (tgt := 62) dX7_wordFault_48 (by decide) (fun c48 => ?_) (fun c48 => ?_)
              · refine B.iload_n (pc := 62) (i := 1) dX7_wordFault_62 rfl rfl ?_
                refine B.ireturn (pc := 63) (by simp) dX7_wordFault_63 (Nat.le_refl _) (Nat.le_refl _) (fun rz rw => ⟨_, _, _, rfl, ?_⟩)
                refine ⟨⟨_, hLD, rfl, Or.inl ⟨?_, rfl⟩⟩, by omega, by omega⟩
                rintro ⟨g1, g2⟩
                first | omega | (rw [sA_in (by omega) (by omega)] at g2; omega) | (rw [sA_out (by omega)] at g2; omega)
              · refine B.aload_n (pc := 51) (i := 0) dX7_wordFault_51 rfl rfl ?_
                refine B.getfield (pc := 52) 0 rfl rfl inX7z 10 (by decide) fl_X7_31 rfl dX7_wordFault_52 ?_
                refine B.iload_n (pc := 55) (i := 1) dX7_wordFault_55 rfl rfl ?_
                refine B.iaload (pc := 56) 8 rfl (by omega) (by omega) dX7_wordFault_56 (fun r56 => ?_)
                obtain ⟨lr56, ur56⟩ := r56
                refine B.bipush (pc := 57) dX7_wordFault_57 ⟨by decide, by decide⟩ ?_
                refine B.icmp_eq (pc := 59) (tgt := 64) dX7_wordFault_59 (by decide) (fun c59 => ?_) (fun c59 => ?_)
                · refine B.iinc (pc := 64) dX7_wordFault_64 (by decide) rfl ⟨by omega, by omega⟩ ?_
                  simp only [List.set_cons_zero, List.set_cons_succ]
                  refine B.aload_n (pc := 67) (i := 0) dX7_wordFault_67 rfl rfl ?_
                  refine B.bipush (pc := 68) dX7_wordFault_68 ⟨by decide, by decide⟩ ?_
                  refine B.putfield (pc := 70) 0 rfl rfl inX7z tyX7 tyX7_ok nmX7 12 (by decide) fl_X7_89 rfl rfl rfl (Nat.le_of_ble_eq_true rfl) dX7_wordFault_70 ?_
                  simp only [List.set_cons_zero, List.set_cons_succ]
                  refine B.iconst (pc := 73) dX7_wordFault_73 ⟨by decide, by decide⟩ ?_
                  refine B.istore_n (pc := 74) (i := 2) dX7_wordFault_74 rfl (by decide) ?_
                  simp only [List.set_cons_zero, List.set_cons_succ]
                  refine (ih _ ?_).2.1 _ _ ⟨_, _, _, _, _, rfl, rfl, rfl, ?_⟩
                  · omega
                  · refine ⟨by omega, by omega, rfl, by omega, by omega, by omega, hLD, ?_, ?_⟩
                    · rw [sA_in (by omega) (by omega)]; omega
                    · unfold KQ; omega
                · refine B.iload_n (pc := 62) (i := 1) dX7_wordFault_62 rfl rfl ?_
                  refine B.ireturn (pc := 63) (by simp) dX7_wordFault_63 (Nat.le_refl _) (Nat.le_refl _) (fun rz rw => ⟨_, _, _, rfl, ?_⟩)
                  refine ⟨⟨_, hLD, rfl, Or.inl ⟨?_, rfl⟩⟩, by omega, by omega⟩
                  rintro ⟨g1, g2⟩
                  first | omega | (rw [sA_in (by omega) (by omega)] at g2; omega) | (rw [sA_out (by omega)] at g2; omega)
          · refine B.aload_n (pc := 16) (i := 0) dX7_wordFault_16 rfl rfl ?_
            refine B.getfield (pc := 17) 0 rfl rfl inX7z 10 (by decide) fl_X7_31 rfl dX7_wordFault_17 ?_
            refine B.iload_n (pc := 20) (i := 1) dX7_wordFault_20 rfl rfl ?_
            refine B.iaload (pc := 21) 8 rfl (by omega) (by omega) dX7_wordFault_21 (fun r21 => ?_)
            obtain ⟨lr21, ur21⟩ := r21
            refine B.callSi (pc := 22) 1 (mX7_isLetter hE _) ml_X7_82 sm_X7_isLetter it_X7 co_X7_isLetter (by decide +kernel) rfl rfl rfl ⟨by decide, by decide⟩ ⟨by decide, by decide⟩ [] rfl rfl rfl (Nat.le_of_ble_eq_true rfl) dX7_wordFault_22 (fun _ => trivial) (fun zk22 uk22 rzk22 ruk22 rak22 hqk22 => ?_)
            obtain ⟨lzk22, uzk22⟩ := rzk22
            obtain ⟨rfl, hk22⟩ := hqk22
            simp only [zput, List.append_nil, Nat.add_zero]
            refine B.if_eq (pc := 25) (tgt := 34) dX7_wordFault_25 (by decide) (fun c25 => ?_) (fun c25 => ?_)
            · have hLD : LD m_signs m_pad 6 t := ⟨by omega, by omega, by omega, i4, by unfold lt_; omega⟩
              refine B.aload_n (pc := 34) (i := 0) dX7_wordFault_34 rfl rfl ?_
              refine B.iload_n (pc := 35) (i := 1) dX7_wordFault_35 rfl rfl ?_
              refine B.putfield (pc := 36) 0 rfl rfl inX7z tyX7 tyX7_ok nmX7 11 (by decide) fl_X7_86 rfl rfl rfl (Nat.le_of_ble_eq_true rfl) dX7_wordFault_36 ?_
              simp only [List.set_cons_zero, List.set_cons_succ]
              refine B.iload_n (pc := 39) (i := 1) dX7_wordFault_39 rfl rfl ?_
              refine B.aload_n (pc := 40) (i := 0) dX7_wordFault_40 rfl rfl ?_
              refine B.getfield (pc := 41) 0 rfl rfl inX7z 9 (by decide) fl_X7_78 rfl dX7_wordFault_41 ?_
              refine B.icmp_eq (pc := 44) (tgt := 62) dX7_wordFault_44 (by decide) (fun c44 => ?_) (fun c44 => ?_)
              · refine B.iload_n (pc := 62) (i := 1) dX7_wordFault_62 rfl rfl ?_
                refine B.ireturn (pc := 63) (by simp) dX7_wordFault_63 (Nat.le_refl _) (Nat.le_refl _) (fun rz rw => ⟨_, _, _, rfl, ?_⟩)
                refine ⟨⟨_, hLD, rfl, Or.inl ⟨?_, rfl⟩⟩, by omega, by omega⟩
                rintro ⟨g1, g2⟩
                first | omega | (rw [sA_in (by omega) (by omega)] at g2; omega) | (rw [sA_out (by omega)] at g2; omega)
              · refine B.iload_n (pc := 47) (i := 1) dX7_wordFault_47 rfl rfl ?_
                refine B.if_eq (pc := 48) (tgt := 62) dX7_wordFault_48 (by decide) (fun c48 => ?_) (fun c48 => ?_)
                · refine B.iload_n (pc := 62) (i := 1) dX7_wordFault_62 rfl rfl ?_
                  refine B.ireturn (pc := 63) (by simp) dX7_wordFault_63 (Nat.le_refl _) (Nat.le_refl _) (fun rz rw => ⟨_, _, _, rfl, ?_⟩)
                  refine ⟨⟨_, hLD, rfl, Or.inl ⟨?_, rfl⟩⟩, by omega, by omega⟩
                  rintro ⟨g1, g2⟩
                  first | omega | (rw [sA_in (by omega) (by omega)] at g2; omega) | (rw [sA_out (by omega)] at g2; omega)
                · refine B.aload_n (pc := 51) (i := 0) dX7_wordFault_51 rfl rfl ?_
                  refine B.getfield (pc := 52) 0 rfl rfl inX7z 10 (by decide) fl_X7_31 rfl dX7_wordFault_52 ?_
                  refine B.iload_n (pc := 55) (i := 1) dX7_wordFault_55 rfl rfl ?_
                  refine B.iaload (pc := 56) 8 rfl (by omega) (by omega) dX7_wordFault_56 (fun r56 => ?_)
                  obtain ⟨lr56, ur56⟩ := r56
                  refine B.bipush (pc := 57) dX7_wordFault_57 ⟨by decide, by decide⟩ ?_
                  refine B.icmp_eq (pc := 59) (tgt := 64) dX7_wordFault_59 (by decide) (fun c59 => ?_) (fun c59 => ?_)
                  · refine B.iinc (pc := 64) dX7_wordFault_64 (by decide) rfl ⟨by omega, by omega⟩ ?_
                    simp only [List.set_cons_zero, List.set_cons_succ]
                    refine B.aload_n (pc := 67) (i := 0) dX7_wordFault_67 rfl rfl ?_
                    refine B.bipush (pc := 68) dX7_wordFault_68 ⟨by decide, by decide⟩ ?_
                    refine B.putfield (pc := 70) 0 rfl rfl inX7z tyX7 tyX7_ok nmX7 12 (by decide) fl_X7_89 rfl rfl rfl (Nat.le_of_ble_eq_true rfl) dX7_wordFault_70 ?_
                    simp only [List.set_cons_zero, List.set_cons_succ]
                    refine B.iconst (pc := 73) dX7_wordFault_73 ⟨by decide, by decide⟩ ?_
                    refine B.istore_n (pc := 74) (i := 2) dX7_wordFault_74 rfl (by decide) ?_
                    simp only [List.set_cons_zero, List.set_cons_succ]
                    refine (ih _ ?_).2.1 _ _ ⟨_, _, _, _, _, rfl, rfl, rfl, ?_⟩
                    · omega
                    · refine ⟨by omega, by omega, rfl, by omega, by omega, by omega, hLD, ?_, ?_⟩
                      · rw [sA_in (by omega) (by omega)]; omega
                      · unfold KQ; omega
                  · refine B.iload_n (pc := 62) (i := 1) dX7_wordFault_62 rfl rfl ?_
                    refine B.ireturn (pc := 63) (by simp) dX7_wordFault_63 (Nat.le_refl _) (Nat.le_refl _) (fun rz rw => ⟨_, _, _, rfl, ?_⟩)
                    refine ⟨⟨_, hLD, rfl, Or.inl ⟨?_, rfl⟩⟩, by omega, by omega⟩
                    rintro ⟨g1, g2⟩
                    first | omega | (rw [sA_in (by omega) (by omega)] at g2; omega) | (rw [sA_out (by omega)] at g2; omega)
            · refine B.iinc (pc := 28) dX7_wordFault_28 (by decide) rfl ⟨by omega, by omega⟩ ?_
              simp only [List.set_cons_zero, List.set_cons_succ]
              refine B.goto (pc := 31) (tgt := 2) dX7_wordFault_31 (by decide) ?_
              refine (ih _ ?_).1 _ _ ⟨_, _, _, rfl, rfl, rfl, ?_⟩
              · omega
              · exact ⟨by omega, by omega, by omega, LD.step i4 i1 (by unfold lt_; omega)⟩
      · intro lv ws hJ
        obtain ⟨d3, t, q, m_readSize, m_readKind, rfl, rfl, rfl, hi⟩ := hJ
        obtain ⟨i1, i2, i3, i4, i5, i6, i7, i8, i9⟩ := hi
        subst i3
        refine B.iload_n (pc := 75) (i := 2) dX7_wordFault_75 rfl rfl ?_
        refine B.iconst (pc := 76) dX7_wordFault_76 ⟨by decide, by decide⟩ ?_
        refine B.icmp_ge (pc := 77) (tgt := 120) dX7_wordFault_77 (by decide) (fun c77 => ?_) (fun c77 => ?_)
        · have hK : KD (sA m_signs m_pad (m_readSize + 1)) m_readKind := by
            unfold KQ at i9
            unfold KD
            first
              | omega
              | (have h0 : sA m_signs m_pad (m_readSize + 1) = 0 := sA_out (by omega)
                 omega)
          refine B.aload_n (pc := 120) (i := 0) dX7_wordFault_120 rfl rfl ?_
          refine B.getfield (pc := 121) 0 rfl rfl inX7z 12 (by decide) fl_X7_89 rfl dX7_wordFault_121 ?_
          refine B.if_ge (pc := 124) (tgt := 129) dX7_wordFault_124 (by decide) (fun c124 => ?_) (fun c124 => ?_)
          · have hts : m_readSize + 1 < m_signs := by
              by_cases q : m_readSize + 1 < m_signs
              · exact q
              · have h0 : sA m_signs m_pad (m_readSize + 1) = 0 := sA_out (by omega)
                unfold KD at hK
                omega
            have hkb : 0 ≤ m_readKind ∧ m_readKind ≤ 2 := by
              unfold KD at hK
              omega
            refine B.iload_n (pc := 129) (i := 1) dX7_wordFault_129 rfl rfl ?_
            refine B.iconst (pc := 130) dX7_wordFault_130 ⟨by decide, by decide⟩ ?_
            refine B.iadd (pc := 131) dX7_wordFault_131 ⟨by omega, by omega⟩ ?_
            refine B.aload_n (pc := 132) (i := 0) dX7_wordFault_132 rfl rfl ?_
            refine B.getfield (pc := 133) 0 rfl rfl inX7z 9 (by decide) fl_X7_78 rfl dX7_wordFault_133 ?_
            refine B.icmp_ge (pc := 136) (tgt := 143) dX7_wordFault_136 (by decide) (fun c136 => ?_) (fun c136 => ?_)
            · refine B.iconst (pc := 143) dX7_wordFault_143 ⟨by decide, by decide⟩ ?_
              refine B.istore_n (pc := 144) (i := 2) dX7_wordFault_144 rfl (by decide) ?_
              simp only [List.set_cons_zero, List.set_cons_succ]
              refine B.iconst (pc := 145) dX7_wordFault_145 ⟨by decide, by decide⟩ ?_
              refine B.istore_n (pc := 146) (i := 3) dX7_wordFault_146 rfl (by decide) ?_
              simp only [List.set_cons_zero, List.set_cons_succ]
              refine (ih _ ?_).2.2 _ _ ⟨_, _, _, _, _, rfl, rfl, rfl, ?_⟩
              · omega
              · have hK2 := hK
                unfold KD at hK2
                first
                  | (refine ⟨i1, i2, rfl, by omega, by omega, by omega, i7, i8, hK, fun _ j h0 h1 => ?_, fun e => by omega⟩
                     have ej : j = 0 := by omega
                     subst ej
                     rw [show m_readSize + 1 + 0 = m_readSize + 1 by omega]
                     exact hK.z (by omega))
                  | (refine ⟨i1, i2, rfl, by omega, by omega, by omega, i7, i8, hK, fun e => by omega, fun _ hw => ?_⟩
                     have h3 := hw 3 (by omega) (by omega)
                     rw [sA_out (by omega)] at h3
                     have h4 := ztxt_p (4 * m_readKind + 3).toNat
                     omega)
            · refine B.iconst (pc := 139) dX7_wordFault_139 ⟨by decide, by decide⟩ ?_
              refine B.goto (pc := 140) (tgt := 144) dX7_wordFault_140 (by decide) ?_
              refine B.istore_n (pc := 144) (i := 2) dX7_wordFault_144 rfl (by decide) ?_
              simp only [List.set_cons_zero, List.set_cons_succ]
              refine B.iconst (pc := 145) dX7_wordFault_145 ⟨by decide, by decide⟩ ?_
              refine B.istore_n (pc := 146) (i := 3) dX7_wordFault_146 rfl (by decide) ?_
              simp only [List.set_cons_zero, List.set_cons_succ]
              refine (ih _ ?_).2.2 _ _ ⟨_, _, _, _, _, rfl, rfl, rfl, ?_⟩
              · omega
              · have hK2 := hK
                unfold KD at hK2
                first
                  | (refine ⟨i1, i2, rfl, by omega, by omega, by omega, i7, i8, hK, fun _ j h0 h1 => ?_, fun e => by omega⟩
                     have ej : j = 0 := by omega
                     subst ej
                     rw [show m_readSize + 1 + 0 = m_readSize + 1 by omega]
                     exact hK.z (by omega))
                  | (refine ⟨i1, i2, rfl, by omega, by omega, by omega, i7, i8, hK, fun e => by omega, fun _ hw => ?_⟩
                     have h3 := hw 3 (by omega) (by omega)
                     rw [sA_out (by omega)] at h3
                     have h4 := ztxt_p (4 * m_readKind + 3).toNat
                     omega)
          · refine B.iload_n (pc := 127) (i := 1) dX7_wordFault_127 rfl rfl ?_
            refine B.ireturn (pc := 128) (by simp) dX7_wordFault_128 (Nat.le_refl _) (Nat.le_refl _) (fun rz rw => ⟨_, _, _, rfl, ?_⟩)
            refine ⟨⟨_, i7, rfl, Or.inr ⟨by omega, i8, _, hK, rfl, Or.inl ⟨?_, rfl⟩⟩⟩, by omega, by omega⟩
            unfold KD at hK
            omega
        · refine B.iload_n (pc := 80) (i := 1) dX7_wordFault_80 rfl rfl ?_
          refine B.aload_n (pc := 81) (i := 0) dX7_wordFault_81 rfl rfl ?_
          refine B.getfield (pc := 82) 0 rfl rfl inX7z 9 (by decide) fl_X7_78 rfl dX7_wordFault_82 ?_
          refine B.icmp_ge (pc := 85) (tgt := 120) dX7_wordFault_85 (by decide) (fun c85 => ?_) (fun c85 => ?_)
          · have hK : KD (sA m_signs m_pad (m_readSize + 1)) m_readKind := by
              unfold KQ at i9
              unfold KD
              first
                | omega
                | (have h0 : sA m_signs m_pad (m_readSize + 1) = 0 := sA_out (by omega)
                   omega)
            refine B.aload_n (pc := 120) (i := 0) dX7_wordFault_120 rfl rfl ?_
            refine B.getfield (pc := 121) 0 rfl rfl inX7z 12 (by decide) fl_X7_89 rfl dX7_wordFault_121 ?_
            refine B.if_ge (pc := 124) (tgt := 129) dX7_wordFault_124 (by decide) (fun c124 => ?_) (fun c124 => ?_)
            · have hts : m_readSize + 1 < m_signs := by
                by_cases q : m_readSize + 1 < m_signs
                · exact q
                · have h0 : sA m_signs m_pad (m_readSize + 1) = 0 := sA_out (by omega)
                  unfold KD at hK
                  omega
              have hkb : 0 ≤ m_readKind ∧ m_readKind ≤ 2 := by
                unfold KD at hK
                omega
              refine B.iload_n (pc := 129) (i := 1) dX7_wordFault_129 rfl rfl ?_
              refine B.iconst (pc := 130) dX7_wordFault_130 ⟨by decide, by decide⟩ ?_
              refine B.iadd (pc := 131) dX7_wordFault_131 ⟨by omega, by omega⟩ ?_
              refine B.aload_n (pc := 132) (i := 0) dX7_wordFault_132 rfl rfl ?_
              refine B.getfield (pc := 133) 0 rfl rfl inX7z 9 (by decide) fl_X7_78 rfl dX7_wordFault_133 ?_
              refine B.icmp_ge (pc := 136) (tgt := 143) dX7_wordFault_136 (by decide) (fun c136 => ?_) (fun c136 => ?_)
              · refine B.iconst (pc := 143) dX7_wordFault_143 ⟨by decide, by decide⟩ ?_
                refine B.istore_n (pc := 144) (i := 2) dX7_wordFault_144 rfl (by decide) ?_
                simp only [List.set_cons_zero, List.set_cons_succ]
                refine B.iconst (pc := 145) dX7_wordFault_145 ⟨by decide, by decide⟩ ?_
                refine B.istore_n (pc := 146) (i := 3) dX7_wordFault_146 rfl (by decide) ?_
                simp only [List.set_cons_zero, List.set_cons_succ]
                refine (ih _ ?_).2.2 _ _ ⟨_, _, _, _, _, rfl, rfl, rfl, ?_⟩
                · omega
                · have hK2 := hK
                  unfold KD at hK2
                  first
                    | (refine ⟨i1, i2, rfl, by omega, by omega, by omega, i7, i8, hK, fun _ j h0 h1 => ?_, fun e => by omega⟩
                       have ej : j = 0 := by omega
                       subst ej
                       rw [show m_readSize + 1 + 0 = m_readSize + 1 by omega]
                       exact hK.z (by omega))
                    | (refine ⟨i1, i2, rfl, by omega, by omega, by omega, i7, i8, hK, fun e => by omega, fun _ hw => ?_⟩
                       have h3 := hw 3 (by omega) (by omega)
                       rw [sA_out (by omega)] at h3
                       have h4 := ztxt_p (4 * m_readKind + 3).toNat
                       omega)
              · refine B.iconst (pc := 139) dX7_wordFault_139 ⟨by decide, by decide⟩ ?_
                refine B.goto (pc := 140) (tgt := 144) dX7_wordFault_140 (by decide) ?_
                refine B.istore_n (pc := 144) (i := 2) dX7_wordFault_144 rfl (by decide) ?_
                simp only [List.set_cons_zero, List.set_cons_succ]
                refine B.iconst (pc := 145) dX7_wordFault_145 ⟨by decide, by decide⟩ ?_
                refine B.istore_n (pc := 146) (i := 3) dX7_wordFault_146 rfl (by decide) ?_
                simp only [List.set_cons_zero, List.set_cons_succ]
                refine (ih _ ?_).2.2 _ _ ⟨_, _, _, _, _, rfl, rfl, rfl, ?_⟩
                · omega
                · have hK2 := hK
                  unfold KD at hK2
                  first
                    | (refine ⟨i1, i2, rfl, by omega, by omega, by omega, i7, i8, hK, fun _ j h0 h1 => ?_, fun e => by omega⟩
                       have ej : j = 0 := by omega
                       subst ej
                       rw [show m_readSize + 1 + 0 = m_readSize + 1 by omega]
                       exact hK.z (by omega))
                    | (refine ⟨i1, i2, rfl, by omega, by omega, by omega, i7, i8, hK, fun e => by omega, fun _ hw => ?_⟩
                       have h3 := hw 3 (by omega) (by omega)
                       rw [sA_out (by omega)] at h3
                       have h4 := ztxt_p (4 * m_readKind + 3).toNat
                       omega)
            · refine B.iload_n (pc := 127) (i := 1) dX7_wordFault_127 rfl rfl ?_
              refine B.ireturn (pc := 128) (by simp) dX7_wordFault_128 (Nat.le_refl _) (Nat.le_refl _) (fun rz rw => ⟨_, _, _, rfl, ?_⟩)
              refine ⟨⟨_, i7, rfl, Or.inr ⟨by omega, i8, _, hK, rfl, Or.inl ⟨?_, rfl⟩⟩⟩, by omega, by omega⟩
              unfold KD at hK
              omega
          · have hsv : sA m_signs m_pad (m_readSize + 1) = m_pad (m_readSize + 1).toNat := sA_in (by omega) (by omega)
            have n0 : q = 0 → ztxt (4 * q + 0).toNat = 110 := fun e => by rw [e]; rfl
            have n1 : q = 1 → ztxt (4 * q + 0).toNat = 118 := fun e => by rw [e]; rfl
            have n2 : q = 2 → ztxt (4 * q + 0).toNat = 109 := fun e => by rw [e]; rfl
            refine B.aload_n (pc := 88) (i := 0) dX7_wordFault_88 rfl rfl ?_
            refine B.aload_n (pc := 89) (i := 0) dX7_wordFault_89 rfl rfl ?_
            refine B.getfield (pc := 90) 0 rfl rfl inX7z 10 (by decide) fl_X7_31 rfl dX7_wordFault_90 ?_
            refine B.iload_n (pc := 93) (i := 1) dX7_wordFault_93 rfl rfl ?_
            refine B.iaload (pc := 94) 8 rfl (by omega) (by omega) dX7_wordFault_94 (fun r94 => ?_)
            obtain ⟨lr94, ur94⟩ := r94
            refine B.iload_n (pc := 95) (i := 2) dX7_wordFault_95 rfl rfl ?_
            refine B.iconst (pc := 96) dX7_wordFault_96 ⟨by decide, by decide⟩ ?_
            refine B.callSi (pc := 97) 2 (mX7_name hE _ _) ml_X7_92 sm_X7_name it_X7 co_X7_name (by decide +kernel) rfl rfl rfl ⟨by decide, by decide⟩ ⟨by decide, by decide⟩ [] rfl rfl rfl (Nat.le_of_ble_eq_true rfl) dX7_wordFault_97 (fun _ => by omega) (fun zk97 uk97 rzk97 ruk97 rak97 hqk97 => ?_)
            obtain ⟨lzk97, uzk97⟩ := rzk97
            obtain ⟨rfl, hk97⟩ := hqk97
            simp only [zput, List.append_nil, Nat.add_zero]
            refine B.icmp_ne (pc := 100) (tgt := 107) dX7_wordFault_100 (by decide) (fun c100 => ?_) (fun c100 => ?_)
            · refine B.aload_n (pc := 107) (i := 0) dX7_wordFault_107 rfl rfl ?_
              refine B.getfield (pc := 108) 0 rfl rfl inX7z 12 (by decide) fl_X7_89 rfl dX7_wordFault_108 ?_
              refine B.putfield (pc := 111) 0 rfl rfl inX7z tyX7 tyX7_ok nmX7 12 (by decide) fl_X7_89 rfl rfl rfl (Nat.le_of_ble_eq_true rfl) dX7_wordFault_111 ?_
              simp only [List.set_cons_zero, List.set_cons_succ]
              refine B.iinc (pc := 114) dX7_wordFault_114 (by decide) rfl ⟨by omega, by omega⟩ ?_
              simp only [List.set_cons_zero, List.set_cons_succ]
              refine B.goto (pc := 117) (tgt := 75) dX7_wordFault_117 (by decide) ?_
              refine (ih _ ?_).2.1 _ _ ⟨_, _, _, _, _, rfl, rfl, rfl, ?_⟩
              · omega
              · refine ⟨i1, i2, rfl, i4, by omega, by omega, i7, i8, ?_⟩
                unfold KQ at i9 ⊢
                omega
            · refine B.iload_n (pc := 103) (i := 2) dX7_wordFault_103 rfl rfl ?_
              refine B.goto (pc := 104) (tgt := 111) dX7_wordFault_104 (by decide) ?_
              refine B.putfield (pc := 111) 0 rfl rfl inX7z tyX7 tyX7_ok nmX7 12 (by decide) fl_X7_89 rfl rfl rfl (Nat.le_of_ble_eq_true rfl) dX7_wordFault_111 ?_
              simp only [List.set_cons_zero, List.set_cons_succ]
              refine B.iinc (pc := 114) dX7_wordFault_114 (by decide) rfl ⟨by omega, by omega⟩ ?_
              simp only [List.set_cons_zero, List.set_cons_succ]
              refine B.goto (pc := 117) (tgt := 75) dX7_wordFault_117 (by decide) ?_
              refine (ih _ ?_).2.1 _ _ ⟨_, _, _, _, _, rfl, rfl, rfl, ?_⟩
              · omega
              · refine ⟨i1, i2, rfl, i4, by omega, by omega, i7, i8, ?_⟩
                unfold KQ at i9 ⊢
                omega
      · intro lv ws hJ
        obtain ⟨t, wh, q, m_readSize, m_readKind, rfl, rfl, rfl, hi⟩ := hJ
        obtain ⟨i1, i2, i3, i4, i5, i6, i7, i8, i9, i10, i11⟩ := hi
        subst i3
        refine B.iload_n (pc := 147) (i := 3) dX7_wordFault_147 rfl rfl ?_
        refine B.iconst (pc := 148) dX7_wordFault_148 ⟨by decide, by decide⟩ ?_
        refine B.icmp_ge (pc := 149) (tgt := 187) dX7_wordFault_149 (by decide) (fun c149 => ?_) (fun c149 => ?_)
        · refine B.iload_n (pc := 187) (i := 1) dX7_wordFault_187 rfl rfl ?_
          refine B.iload_n (pc := 188) (i := 2) dX7_wordFault_188 rfl rfl ?_
          refine B.if_eq (pc := 189) (tgt := 196) dX7_wordFault_189 (by decide) (fun c189 => ?_) (fun c189 => ?_)
          · have hA : AD m_signs m_pad (m_readSize + 1) m_readKind (m_readSize + 1 + 1) := Or.inr ⟨i11 (by omega), rfl⟩
            refine B.iconst (pc := 196) dX7_wordFault_196 ⟨by decide, by decide⟩ ?_
            refine B.iadd (pc := 197) dX7_wordFault_197 ⟨by omega, by omega⟩ ?_
            refine B.istore_n (pc := 198) (i := 1) dX7_wordFault_198 rfl (by decide) ?_
            simp only [List.set_cons_zero, List.set_cons_succ]
            refine B.iload_n (pc := 199) (i := 1) dX7_wordFault_199 rfl rfl ?_
            refine B.aload_n (pc := 200) (i := 0) dX7_wordFault_200 rfl rfl ?_
            refine B.getfield (pc := 201) 0 rfl rfl inX7z 9 (by decide) fl_X7_78 rfl dX7_wordFault_201 ?_
            refine B.icmp_eq (pc := 204) (tgt := 223) dX7_wordFault_204 (by decide) (fun c204 => ?_) (fun c204 => ?_)
            · refine B.iload_n (pc := 223) (i := 1) dX7_wordFault_223 rfl rfl ?_
              refine B.ireturn (pc := 224) (by simp) dX7_wordFault_224 (Nat.le_refl _) (Nat.le_refl _) (fun rz rw => ⟨_, _, _, rfl, ?_⟩)
              refine ⟨⟨_, i7, rfl, Or.inr ⟨by omega, i8, _, i9, rfl, Or.inr ⟨by omega, _, hA, Or.inl ⟨?_, rfl⟩⟩⟩⟩, by omega, by omega⟩
              unfold dg_
              first | (rw [sA_out (by omega)]; omega) | (rw [sA_in (by omega) (by omega)]; omega)
            · refine B.aload_n (pc := 207) (i := 0) dX7_wordFault_207 rfl rfl ?_
              refine B.getfield (pc := 208) 0 rfl rfl inX7z 10 (by decide) fl_X7_31 rfl dX7_wordFault_208 ?_
              refine B.iload_n (pc := 211) (i := 1) dX7_wordFault_211 rfl rfl ?_
              refine B.iaload (pc := 212) 8 rfl (by omega) (by omega) dX7_wordFault_212 (fun r212 => ?_)
              obtain ⟨lr212, ur212⟩ := r212
              refine B.bipush (pc := 213) dX7_wordFault_213 ⟨by decide, by decide⟩ ?_
              refine B.bipush (pc := 215) dX7_wordFault_215 ⟨by decide, by decide⟩ ?_
              refine B.callSi (pc := 217) 3 (mX7_in hE _ _ _) ml_X7_74 sm_X7_in it_X7 co_X7_in (by decide +kernel) rfl rfl rfl ⟨by decide, by decide⟩ ⟨by decide, by decide⟩ [] rfl rfl rfl (Nat.le_of_ble_eq_true rfl) dX7_wordFault_217 (fun _ => trivial) (fun zk217 uk217 rzk217 ruk217 rak217 hqk217 => ?_)
              obtain ⟨lzk217, uzk217⟩ := rzk217
              obtain ⟨rfl, hk217⟩ := hqk217
              simp only [zput, List.append_nil, Nat.add_zero]
              refine B.if_ne (pc := 220) (tgt := 225) dX7_wordFault_220 (by decide) (fun c220 => ?_) (fun c220 => ?_)
              · refine B.aload_n (pc := 225) (i := 0) dX7_wordFault_225 rfl rfl ?_
                refine B.aload_n (pc := 226) (i := 0) dX7_wordFault_226 rfl rfl ?_
                refine B.getfield (pc := 227) 0 rfl rfl inX7z 10 (by decide) fl_X7_31 rfl dX7_wordFault_227 ?_
                refine B.iload_n (pc := 230) (i := 1) dX7_wordFault_230 rfl rfl ?_
                refine B.iaload (pc := 231) 8 rfl (by omega) (by omega) dX7_wordFault_231 (fun r231 => ?_)
                obtain ⟨lr231, ur231⟩ := r231
                refine B.bipush (pc := 232) dX7_wordFault_232 ⟨by decide, by decide⟩ ?_
                refine B.isub (pc := 234) dX7_wordFault_234 ⟨by omega, by omega⟩ ?_
                refine B.putfield (pc := 235) 0 rfl rfl inX7z tyX7 tyX7_ok nmX7 13 (by decide) fl_X7_96 rfl rfl rfl (Nat.le_of_ble_eq_true rfl) dX7_wordFault_235 ?_
                simp only [List.set_cons_zero, List.set_cons_succ]
                refine B.iinc (pc := 238) dX7_wordFault_238 (by decide) rfl ⟨by omega, by omega⟩ ?_
                simp only [List.set_cons_zero, List.set_cons_succ]
                refine B.iload_n (pc := 241) (i := 1) dX7_wordFault_241 rfl rfl ?_
                refine B.aload_n (pc := 242) (i := 0) dX7_wordFault_242 rfl rfl ?_
                refine B.getfield (pc := 243) 0 rfl rfl inX7z 9 (by decide) fl_X7_78 rfl dX7_wordFault_243 ?_
                refine B.icmp_ge (pc := 246) (tgt := 289) dX7_wordFault_246 (by decide) (fun c246 => ?_) (fun c246 => ?_)
                · refine B.iload_n (pc := 289) (i := 1) dX7_wordFault_289 rfl rfl ?_
                  refine B.aload_n (pc := 290) (i := 0) dX7_wordFault_290 rfl rfl ?_
                  refine B.getfield (pc := 291) 0 rfl rfl inX7z 9 (by decide) fl_X7_78 rfl dX7_wordFault_291 ?_
                  refine B.icmp_ge (pc := 294) (tgt := 301) dX7_wordFault_294 (by decide) (fun c294 => ?_) (fun c294 => ?_)
                  · refine B.bipush (pc := 301) dX7_wordFault_301 ⟨by decide, by decide⟩ ?_
                    refine B.ireturn (pc := 303) (by simp) dX7_wordFault_303 (Nat.le_refl _) (Nat.le_refl _) (fun rz rw => ⟨_, _, _, rfl, ?_⟩)
                    first
                    | (refine ⟨⟨_, i7, rfl, Or.inr ⟨by omega, i8, _, i9, rfl, Or.inr ⟨by omega, m_readSize + 1 + 4, hA, Or.inr ?_⟩⟩⟩, by omega, by omega⟩
                       have s1 : sA m_signs m_pad (m_readSize + 1 + 4) = m_pad (m_readSize + 1 + 4).toNat := sA_in (by omega) (by omega)
                       unfold EN dg_
                       first
                         | (have s2 : sA m_signs m_pad (m_readSize + 1 + 4 + 1) = 0 := sA_out (by omega)
                            rw [s1, s2]; omega)
                         | (have s2 : sA m_signs m_pad (m_readSize + 1 + 4 + 1) = m_pad (m_readSize + 1 + 4 + 1).toNat := sA_in (by omega) (by omega)
                            rw [s1, s2]; omega))
                    | (refine ⟨⟨_, i7, rfl, Or.inr ⟨by omega, i8, _, i9, rfl, Or.inr ⟨by omega, m_readSize + 1 + 1, hA, Or.inr ?_⟩⟩⟩, by omega, by omega⟩
                       have s1 : sA m_signs m_pad (m_readSize + 1 + 1) = m_pad (m_readSize + 1 + 1).toNat := sA_in (by omega) (by omega)
                       unfold EN dg_
                       first
                         | (have s2 : sA m_signs m_pad (m_readSize + 1 + 1 + 1) = 0 := sA_out (by omega)
                            rw [s1, s2]; omega)
                         | (have s2 : sA m_signs m_pad (m_readSize + 1 + 1 + 1) = m_pad (m_readSize + 1 + 1 + 1).toNat := sA_in (by omega) (by omega)
                            rw [s1, s2]; omega))
                  · refine B.iload_n (pc := 297) (i := 1) dX7_wordFault_297 rfl rfl ?_
                    refine B.goto (pc := 298) (tgt := 303) dX7_wordFault_298 (by decide) ?_
                    refine B.ireturn (pc := 303) (by simp) dX7_wordFault_303 (Nat.le_refl _) (Nat.le_refl _) (fun rz rw => ⟨_, _, _, rfl, ?_⟩)
                    first
                    | (refine ⟨⟨_, i7, rfl, Or.inr ⟨by omega, i8, _, i9, rfl, Or.inr ⟨by omega, m_readSize + 1 + 4, hA, Or.inr ?_⟩⟩⟩, by omega, by omega⟩
                       have s1 : sA m_signs m_pad (m_readSize + 1 + 4) = m_pad (m_readSize + 1 + 4).toNat := sA_in (by omega) (by omega)
                       unfold EN dg_
                       first
                         | (have s2 : sA m_signs m_pad (m_readSize + 1 + 4 + 1) = 0 := sA_out (by omega)
                            rw [s1, s2]; omega)
                         | (have s2 : sA m_signs m_pad (m_readSize + 1 + 4 + 1) = m_pad (m_readSize + 1 + 4 + 1).toNat := sA_in (by omega) (by omega)
                            rw [s1, s2]; omega))
                    | (refine ⟨⟨_, i7, rfl, Or.inr ⟨by omega, i8, _, i9, rfl, Or.inr ⟨by omega, m_readSize + 1 + 1, hA, Or.inr ?_⟩⟩⟩, by omega, by omega⟩
                       have s1 : sA m_signs m_pad (m_readSize + 1 + 1) = m_pad (m_readSize + 1 + 1).toNat := sA_in (by omega) (by omega)
                       unfold EN dg_
                       first
                         | (have s2 : sA m_signs m_pad (m_readSize + 1 + 1 + 1) = 0 := sA_out (by omega)
                            rw [s1, s2]; omega)
                         | (have s2 : sA m_signs m_pad (m_readSize + 1 + 1 + 1) = m_pad (m_readSize + 1 + 1 + 1).toNat := sA_in (by omega) (by omega)
                            rw [s1, s2]; omega))
                · refine B.aload_n (pc := 249) (i := 0) dX7_wordFault_249 rfl rfl ?_
                  refine B.getfield (pc := 250) 0 rfl rfl inX7z 10 (by decide) fl_X7_31 rfl dX7_wordFault_250 ?_
                  refine B.iload_n (pc := 253) (i := 1) dX7_wordFault_253 rfl rfl ?_
                  refine B.iaload (pc := 254) 8 rfl (by omega) (by omega) dX7_wordFault_254 (fun r254 => ?_)
                  obtain ⟨lr254, ur254⟩ := r254
                  refine B.bipush (pc := 255) dX7_wordFault_255 ⟨by decide, by decide⟩ ?_
                  refine B.bipush (pc := 257) dX7_wordFault_257 ⟨by decide, by decide⟩ ?_
                  refine B.callSi (pc := 259) 3 (mX7_in hE _ _ _) ml_X7_74 sm_X7_in it_X7 co_X7_in (by decide +kernel) rfl rfl rfl ⟨by decide, by decide⟩ ⟨by decide, by decide⟩ [] rfl rfl rfl (Nat.le_of_ble_eq_true rfl) dX7_wordFault_259 (fun _ => trivial) (fun zk259 uk259 rzk259 ruk259 rak259 hqk259 => ?_)
                  obtain ⟨lzk259, uzk259⟩ := rzk259
                  obtain ⟨rfl, hk259⟩ := hqk259
                  simp only [zput, List.append_nil, Nat.add_zero]
                  refine B.if_eq (pc := 262) (tgt := 289) dX7_wordFault_262 (by decide) (fun c262 => ?_) (fun c262 => ?_)
                  · refine B.iload_n (pc := 289) (i := 1) dX7_wordFault_289 rfl rfl ?_
                    refine B.aload_n (pc := 290) (i := 0) dX7_wordFault_290 rfl rfl ?_
                    refine B.getfield (pc := 291) 0 rfl rfl inX7z 9 (by decide) fl_X7_78 rfl dX7_wordFault_291 ?_
                    refine B.icmp_ge (pc := 294) (tgt := 301) dX7_wordFault_294 (by decide) (fun c294 => ?_) (fun c294 => ?_)
                    · refine B.bipush (pc := 301) dX7_wordFault_301 ⟨by decide, by decide⟩ ?_
                      refine B.ireturn (pc := 303) (by simp) dX7_wordFault_303 (Nat.le_refl _) (Nat.le_refl _) (fun rz rw => ⟨_, _, _, rfl, ?_⟩)
                      first
                      | (refine ⟨⟨_, i7, rfl, Or.inr ⟨by omega, i8, _, i9, rfl, Or.inr ⟨by omega, m_readSize + 1 + 4, hA, Or.inr ?_⟩⟩⟩, by omega, by omega⟩
                         have s1 : sA m_signs m_pad (m_readSize + 1 + 4) = m_pad (m_readSize + 1 + 4).toNat := sA_in (by omega) (by omega)
                         unfold EN dg_
                         first
                           | (have s2 : sA m_signs m_pad (m_readSize + 1 + 4 + 1) = 0 := sA_out (by omega)
                              rw [s1, s2]; omega)
                           | (have s2 : sA m_signs m_pad (m_readSize + 1 + 4 + 1) = m_pad (m_readSize + 1 + 4 + 1).toNat := sA_in (by omega) (by omega)
                              rw [s1, s2]; omega))
                      | (refine ⟨⟨_, i7, rfl, Or.inr ⟨by omega, i8, _, i9, rfl, Or.inr ⟨by omega, m_readSize + 1 + 1, hA, Or.inr ?_⟩⟩⟩, by omega, by omega⟩
                         have s1 : sA m_signs m_pad (m_readSize + 1 + 1) = m_pad (m_readSize + 1 + 1).toNat := sA_in (by omega) (by omega)
                         unfold EN dg_
                         first
                           | (have s2 : sA m_signs m_pad (m_readSize + 1 + 1 + 1) = 0 := sA_out (by omega)
                              rw [s1, s2]; omega)
                           | (have s2 : sA m_signs m_pad (m_readSize + 1 + 1 + 1) = m_pad (m_readSize + 1 + 1 + 1).toNat := sA_in (by omega) (by omega)
                              rw [s1, s2]; omega))
                    · refine B.iload_n (pc := 297) (i := 1) dX7_wordFault_297 rfl rfl ?_
                      refine B.goto (pc := 298) (tgt := 303) dX7_wordFault_298 (by decide) ?_
                      refine B.ireturn (pc := 303) (by simp) dX7_wordFault_303 (Nat.le_refl _) (Nat.le_refl _) (fun rz rw => ⟨_, _, _, rfl, ?_⟩)
                      first
                      | (refine ⟨⟨_, i7, rfl, Or.inr ⟨by omega, i8, _, i9, rfl, Or.inr ⟨by omega, m_readSize + 1 + 4, hA, Or.inr ?_⟩⟩⟩, by omega, by omega⟩
                         have s1 : sA m_signs m_pad (m_readSize + 1 + 4) = m_pad (m_readSize + 1 + 4).toNat := sA_in (by omega) (by omega)
                         unfold EN dg_
                         first
                           | (have s2 : sA m_signs m_pad (m_readSize + 1 + 4 + 1) = 0 := sA_out (by omega)
                              rw [s1, s2]; omega)
                           | (have s2 : sA m_signs m_pad (m_readSize + 1 + 4 + 1) = m_pad (m_readSize + 1 + 4 + 1).toNat := sA_in (by omega) (by omega)
                              rw [s1, s2]; omega))
                      | (refine ⟨⟨_, i7, rfl, Or.inr ⟨by omega, i8, _, i9, rfl, Or.inr ⟨by omega, m_readSize + 1 + 1, hA, Or.inr ?_⟩⟩⟩, by omega, by omega⟩
                         have s1 : sA m_signs m_pad (m_readSize + 1 + 1) = m_pad (m_readSize + 1 + 1).toNat := sA_in (by omega) (by omega)
                         unfold EN dg_
                         first
                           | (have s2 : sA m_signs m_pad (m_readSize + 1 + 1 + 1) = 0 := sA_out (by omega)
                              rw [s1, s2]; omega)
                           | (have s2 : sA m_signs m_pad (m_readSize + 1 + 1 + 1) = m_pad (m_readSize + 1 + 1 + 1).toNat := sA_in (by omega) (by omega)
                              rw [s1, s2]; omega))
                  · refine B.aload_n (pc := 265) (i := 0) dX7_wordFault_265 rfl rfl ?_
                    refine B.bipush (pc := 266) dX7_wordFault_266 ⟨by decide, by decide⟩ ?_
                    refine B.aload_n (pc := 268) (i := 0) dX7_wordFault_268 rfl rfl ?_
                    refine B.getfield (pc := 269) 0 rfl rfl inX7z 13 (by decide) fl_X7_96 rfl dX7_wordFault_269 ?_
                    refine B.imul (pc := 272) dX7_wordFault_272 ⟨by omega, by omega⟩ ?_
                    refine B.aload_n (pc := 273) (i := 0) dX7_wordFault_273 rfl rfl ?_
                    refine B.getfield (pc := 274) 0 rfl rfl inX7z 10 (by decide) fl_X7_31 rfl dX7_wordFault_274 ?_
                    refine B.iload_n (pc := 277) (i := 1) dX7_wordFault_277 rfl rfl ?_
                    refine B.iaload (pc := 278) 8 rfl (by omega) (by omega) dX7_wordFault_278 (fun r278 => ?_)
                    obtain ⟨lr278, ur278⟩ := r278
                    refine B.iadd (pc := 279) dX7_wordFault_279 ⟨by omega, by omega⟩ ?_
                    refine B.bipush (pc := 280) dX7_wordFault_280 ⟨by decide, by decide⟩ ?_
                    refine B.isub (pc := 282) dX7_wordFault_282 ⟨by omega, by omega⟩ ?_
                    refine B.putfield (pc := 283) 0 rfl rfl inX7z tyX7 tyX7_ok nmX7 13 (by decide) fl_X7_96 rfl rfl rfl (Nat.le_of_ble_eq_true rfl) dX7_wordFault_283 ?_
                    simp only [List.set_cons_zero, List.set_cons_succ]
                    refine B.iinc (pc := 286) dX7_wordFault_286 (by decide) rfl ⟨by omega, by omega⟩ ?_
                    simp only [List.set_cons_zero, List.set_cons_succ]
                    refine B.iload_n (pc := 289) (i := 1) dX7_wordFault_289 rfl rfl ?_
                    refine B.aload_n (pc := 290) (i := 0) dX7_wordFault_290 rfl rfl ?_
                    refine B.getfield (pc := 291) 0 rfl rfl inX7z 9 (by decide) fl_X7_78 rfl dX7_wordFault_291 ?_
                    refine B.icmp_ge (pc := 294) (tgt := 301) dX7_wordFault_294 (by decide) (fun c294 => ?_) (fun c294 => ?_)
                    · refine B.bipush (pc := 301) dX7_wordFault_301 ⟨by decide, by decide⟩ ?_
                      refine B.ireturn (pc := 303) (by simp) dX7_wordFault_303 (Nat.le_refl _) (Nat.le_refl _) (fun rz rw => ⟨_, _, _, rfl, ?_⟩)
                      first
                      | (refine ⟨⟨_, i7, rfl, Or.inr ⟨by omega, i8, _, i9, rfl, Or.inr ⟨by omega, m_readSize + 1 + 4, hA, Or.inr ?_⟩⟩⟩, by omega, by omega⟩
                         have s1 : sA m_signs m_pad (m_readSize + 1 + 4) = m_pad (m_readSize + 1 + 4).toNat := sA_in (by omega) (by omega)
                         unfold EN dg_
                         first
                           | (have s2 : sA m_signs m_pad (m_readSize + 1 + 4 + 1) = 0 := sA_out (by omega)
                              rw [s1, s2]; omega)
                           | (have s2 : sA m_signs m_pad (m_readSize + 1 + 4 + 1) = m_pad (m_readSize + 1 + 4 + 1).toNat := sA_in (by omega) (by omega)
                              rw [s1, s2]; omega))
                      | (refine ⟨⟨_, i7, rfl, Or.inr ⟨by omega, i8, _, i9, rfl, Or.inr ⟨by omega, m_readSize + 1 + 1, hA, Or.inr ?_⟩⟩⟩, by omega, by omega⟩
                         have s1 : sA m_signs m_pad (m_readSize + 1 + 1) = m_pad (m_readSize + 1 + 1).toNat := sA_in (by omega) (by omega)
                         unfold EN dg_
                         first
                           | (have s2 : sA m_signs m_pad (m_readSize + 1 + 1 + 1) = 0 := sA_out (by omega)
                              rw [s1, s2]; omega)
                           | (have s2 : sA m_signs m_pad (m_readSize + 1 + 1 + 1) = m_pad (m_readSize + 1 + 1 + 1).toNat := sA_in (by omega) (by omega)
                              rw [s1, s2]; omega))
                    · refine B.iload_n (pc := 297) (i := 1) dX7_wordFault_297 rfl rfl ?_
                      refine B.goto (pc := 298) (tgt := 303) dX7_wordFault_298 (by decide) ?_
                      refine B.ireturn (pc := 303) (by simp) dX7_wordFault_303 (Nat.le_refl _) (Nat.le_refl _) (fun rz rw => ⟨_, _, _, rfl, ?_⟩)
                      first
                      | (refine ⟨⟨_, i7, rfl, Or.inr ⟨by omega, i8, _, i9, rfl, Or.inr ⟨by omega, m_readSize + 1 + 4, hA, Or.inr ?_⟩⟩⟩, by omega, by omega⟩
                         have s1 : sA m_signs m_pad (m_readSize + 1 + 4) = m_pad (m_readSize + 1 + 4).toNat := sA_in (by omega) (by omega)
                         unfold EN dg_
                         first
                           | (have s2 : sA m_signs m_pad (m_readSize + 1 + 4 + 1) = 0 := sA_out (by omega)
                              rw [s1, s2]; omega)
                           | (have s2 : sA m_signs m_pad (m_readSize + 1 + 4 + 1) = m_pad (m_readSize + 1 + 4 + 1).toNat := sA_in (by omega) (by omega)
                              rw [s1, s2]; omega))
                      | (refine ⟨⟨_, i7, rfl, Or.inr ⟨by omega, i8, _, i9, rfl, Or.inr ⟨by omega, m_readSize + 1 + 1, hA, Or.inr ?_⟩⟩⟩, by omega, by omega⟩
                         have s1 : sA m_signs m_pad (m_readSize + 1 + 1) = m_pad (m_readSize + 1 + 1).toNat := sA_in (by omega) (by omega)
                         unfold EN dg_
                         first
                           | (have s2 : sA m_signs m_pad (m_readSize + 1 + 1 + 1) = 0 := sA_out (by omega)
                              rw [s1, s2]; omega)
                           | (have s2 : sA m_signs m_pad (m_readSize + 1 + 1 + 1) = m_pad (m_readSize + 1 + 1 + 1).toNat := sA_in (by omega) (by omega)
                              rw [s1, s2]; omega))
              · refine B.iload_n (pc := 223) (i := 1) dX7_wordFault_223 rfl rfl ?_
                refine B.ireturn (pc := 224) (by simp) dX7_wordFault_224 (Nat.le_refl _) (Nat.le_refl _) (fun rz rw => ⟨_, _, _, rfl, ?_⟩)
                refine ⟨⟨_, i7, rfl, Or.inr ⟨by omega, i8, _, i9, rfl, Or.inr ⟨by omega, _, hA, Or.inl ⟨?_, rfl⟩⟩⟩⟩, by omega, by omega⟩
                unfold dg_
                first | (rw [sA_out (by omega)]; omega) | (rw [sA_in (by omega) (by omega)]; omega)
          · have hA : AD m_signs m_pad (m_readSize + 1) m_readKind (m_readSize + 1 + 4) := Or.inl ⟨fun j h0 h1 => i10 (by omega) j h0 (by omega), rfl⟩
            refine B.iconst (pc := 192) dX7_wordFault_192 ⟨by decide, by decide⟩ ?_
            refine B.goto (pc := 193) (tgt := 197) dX7_wordFault_193 (by decide) ?_
            refine B.iadd (pc := 197) dX7_wordFault_197 ⟨by omega, by omega⟩ ?_
            refine B.istore_n (pc := 198) (i := 1) dX7_wordFault_198 rfl (by decide) ?_
            simp only [List.set_cons_zero, List.set_cons_succ]
            refine B.iload_n (pc := 199) (i := 1) dX7_wordFault_199 rfl rfl ?_
            refine B.aload_n (pc := 200) (i := 0) dX7_wordFault_200 rfl rfl ?_
            refine B.getfield (pc := 201) 0 rfl rfl inX7z 9 (by decide) fl_X7_78 rfl dX7_wordFault_201 ?_
            refine B.icmp_eq (pc := 204) (tgt := 223) dX7_wordFault_204 (by decide) (fun c204 => ?_) (fun c204 => ?_)
            · refine B.iload_n (pc := 223) (i := 1) dX7_wordFault_223 rfl rfl ?_
              refine B.ireturn (pc := 224) (by simp) dX7_wordFault_224 (Nat.le_refl _) (Nat.le_refl _) (fun rz rw => ⟨_, _, _, rfl, ?_⟩)
              refine ⟨⟨_, i7, rfl, Or.inr ⟨by omega, i8, _, i9, rfl, Or.inr ⟨by omega, _, hA, Or.inl ⟨?_, rfl⟩⟩⟩⟩, by omega, by omega⟩
              unfold dg_
              first | (rw [sA_out (by omega)]; omega) | (rw [sA_in (by omega) (by omega)]; omega)
            · refine B.aload_n (pc := 207) (i := 0) dX7_wordFault_207 rfl rfl ?_
              refine B.getfield (pc := 208) 0 rfl rfl inX7z 10 (by decide) fl_X7_31 rfl dX7_wordFault_208 ?_
              refine B.iload_n (pc := 211) (i := 1) dX7_wordFault_211 rfl rfl ?_
              refine B.iaload (pc := 212) 8 rfl (by omega) (by omega) dX7_wordFault_212 (fun r212 => ?_)
              obtain ⟨lr212, ur212⟩ := r212
              refine B.bipush (pc := 213) dX7_wordFault_213 ⟨by decide, by decide⟩ ?_
              refine B.bipush (pc := 215) dX7_wordFault_215 ⟨by decide, by decide⟩ ?_
              refine B.callSi (pc := 217) 3 (mX7_in hE _ _ _) ml_X7_74 sm_X7_in it_X7 co_X7_in (by decide +kernel) rfl rfl rfl ⟨by decide, by decide⟩ ⟨by decide, by decide⟩ [] rfl rfl rfl (Nat.le_of_ble_eq_true rfl) dX7_wordFault_217 (fun _ => trivial) (fun zk217 uk217 rzk217 ruk217 rak217 hqk217 => ?_)
              obtain ⟨lzk217, uzk217⟩ := rzk217
              obtain ⟨rfl, hk217⟩ := hqk217
              simp only [zput, List.append_nil, Nat.add_zero]
              refine B.if_ne (pc := 220) (tgt := 225) dX7_wordFault_220 (by decide) (fun c220 => ?_) (fun c220 => ?_)
              · refine B.aload_n (pc := 225) (i := 0) dX7_wordFault_225 rfl rfl ?_
                refine B.aload_n (pc := 226) (i := 0) dX7_wordFault_226 rfl rfl ?_
                refine B.getfield (pc := 227) 0 rfl rfl inX7z 10 (by decide) fl_X7_31 rfl dX7_wordFault_227 ?_
                refine B.iload_n (pc := 230) (i := 1) dX7_wordFault_230 rfl rfl ?_
                refine B.iaload (pc := 231) 8 rfl (by omega) (by omega) dX7_wordFault_231 (fun r231 => ?_)
                obtain ⟨lr231, ur231⟩ := r231
                refine B.bipush (pc := 232) dX7_wordFault_232 ⟨by decide, by decide⟩ ?_
                refine B.isub (pc := 234) dX7_wordFault_234 ⟨by omega, by omega⟩ ?_
                refine B.putfield (pc := 235) 0 rfl rfl inX7z tyX7 tyX7_ok nmX7 13 (by decide) fl_X7_96 rfl rfl rfl (Nat.le_of_ble_eq_true rfl) dX7_wordFault_235 ?_
                simp only [List.set_cons_zero, List.set_cons_succ]
                refine B.iinc (pc := 238) dX7_wordFault_238 (by decide) rfl ⟨by omega, by omega⟩ ?_
                simp only [List.set_cons_zero, List.set_cons_succ]
                refine B.iload_n (pc := 241) (i := 1) dX7_wordFault_241 rfl rfl ?_
                refine B.aload_n (pc := 242) (i := 0) dX7_wordFault_242 rfl rfl ?_
                refine B.getfield (pc := 243) 0 rfl rfl inX7z 9 (by decide) fl_X7_78 rfl dX7_wordFault_243 ?_
                refine B.icmp_ge (pc := 246) (tgt := 289) dX7_wordFault_246 (by decide) (fun c246 => ?_) (fun c246 => ?_)
                · refine B.iload_n (pc := 289) (i := 1) dX7_wordFault_289 rfl rfl ?_
                  refine B.aload_n (pc := 290) (i := 0) dX7_wordFault_290 rfl rfl ?_
                  refine B.getfield (pc := 291) 0 rfl rfl inX7z 9 (by decide) fl_X7_78 rfl dX7_wordFault_291 ?_
                  refine B.icmp_ge (pc := 294) (tgt := 301) dX7_wordFault_294 (by decide) (fun c294 => ?_) (fun c294 => ?_)
                  · refine B.bipush (pc := 301) dX7_wordFault_301 ⟨by decide, by decide⟩ ?_
                    refine B.ireturn (pc := 303) (by simp) dX7_wordFault_303 (Nat.le_refl _) (Nat.le_refl _) (fun rz rw => ⟨_, _, _, rfl, ?_⟩)
                    first
                    | (refine ⟨⟨_, i7, rfl, Or.inr ⟨by omega, i8, _, i9, rfl, Or.inr ⟨by omega, m_readSize + 1 + 4, hA, Or.inr ?_⟩⟩⟩, by omega, by omega⟩
                       have s1 : sA m_signs m_pad (m_readSize + 1 + 4) = m_pad (m_readSize + 1 + 4).toNat := sA_in (by omega) (by omega)
                       unfold EN dg_
                       first
                         | (have s2 : sA m_signs m_pad (m_readSize + 1 + 4 + 1) = 0 := sA_out (by omega)
                            rw [s1, s2]; omega)
                         | (have s2 : sA m_signs m_pad (m_readSize + 1 + 4 + 1) = m_pad (m_readSize + 1 + 4 + 1).toNat := sA_in (by omega) (by omega)
                            rw [s1, s2]; omega))
                    | (refine ⟨⟨_, i7, rfl, Or.inr ⟨by omega, i8, _, i9, rfl, Or.inr ⟨by omega, m_readSize + 1 + 1, hA, Or.inr ?_⟩⟩⟩, by omega, by omega⟩
                       have s1 : sA m_signs m_pad (m_readSize + 1 + 1) = m_pad (m_readSize + 1 + 1).toNat := sA_in (by omega) (by omega)
                       unfold EN dg_
                       first
                         | (have s2 : sA m_signs m_pad (m_readSize + 1 + 1 + 1) = 0 := sA_out (by omega)
                            rw [s1, s2]; omega)
                         | (have s2 : sA m_signs m_pad (m_readSize + 1 + 1 + 1) = m_pad (m_readSize + 1 + 1 + 1).toNat := sA_in (by omega) (by omega)
                            rw [s1, s2]; omega))
                  · refine B.iload_n (pc := 297) (i := 1) dX7_wordFault_297 rfl rfl ?_
                    refine B.goto (pc := 298) (tgt := 303) dX7_wordFault_298 (by decide) ?_
                    refine B.ireturn (pc := 303) (by simp) dX7_wordFault_303 (Nat.le_refl _) (Nat.le_refl _) (fun rz rw => ⟨_, _, _, rfl, ?_⟩)
                    first
                    | (refine ⟨⟨_, i7, rfl, Or.inr ⟨by omega, i8, _, i9, rfl, Or.inr ⟨by omega, m_readSize + 1 + 4, hA, Or.inr ?_⟩⟩⟩, by omega, by omega⟩
                       have s1 : sA m_signs m_pad (m_readSize + 1 + 4) = m_pad (m_readSize + 1 + 4).toNat := sA_in (by omega) (by omega)
                       unfold EN dg_
                       first
                         | (have s2 : sA m_signs m_pad (m_readSize + 1 + 4 + 1) = 0 := sA_out (by omega)
                            rw [s1, s2]; omega)
                         | (have s2 : sA m_signs m_pad (m_readSize + 1 + 4 + 1) = m_pad (m_readSize + 1 + 4 + 1).toNat := sA_in (by omega) (by omega)
                            rw [s1, s2]; omega))
                    | (refine ⟨⟨_, i7, rfl, Or.inr ⟨by omega, i8, _, i9, rfl, Or.inr ⟨by omega, m_readSize + 1 + 1, hA, Or.inr ?_⟩⟩⟩, by omega, by omega⟩
                       have s1 : sA m_signs m_pad (m_readSize + 1 + 1) = m_pad (m_readSize + 1 + 1).toNat := sA_in (by omega) (by omega)
                       unfold EN dg_
                       first
                         | (have s2 : sA m_signs m_pad (m_readSize + 1 + 1 + 1) = 0 := sA_out (by omega)
                            rw [s1, s2]; omega)
                         | (have s2 : sA m_signs m_pad (m_readSize + 1 + 1 + 1) = m_pad (m_readSize + 1 + 1 + 1).toNat := sA_in (by omega) (by omega)
                            rw [s1, s2]; omega))
                · refine B.aload_n (pc := 249) (i := 0) dX7_wordFault_249 rfl rfl ?_
                  refine B.getfield (pc := 250) 0 rfl rfl inX7z 10 (by decide) fl_X7_31 rfl dX7_wordFault_250 ?_
                  refine B.iload_n (pc := 253) (i := 1) dX7_wordFault_253 rfl rfl ?_
                  refine B.iaload (pc := 254) 8 rfl (by omega) (by omega) dX7_wordFault_254 (fun r254 => ?_)
                  obtain ⟨lr254, ur254⟩ := r254
                  refine B.bipush (pc := 255) dX7_wordFault_255 ⟨by decide, by decide⟩ ?_
                  refine B.bipush (pc := 257) dX7_wordFault_257 ⟨by decide, by decide⟩ ?_
                  refine B.callSi (pc := 259) 3 (mX7_in hE _ _ _) ml_X7_74 sm_X7_in it_X7 co_X7_in (by decide +kernel) rfl rfl rfl ⟨by decide, by decide⟩ ⟨by decide, by decide⟩ [] rfl rfl rfl (Nat.le_of_ble_eq_true rfl) dX7_wordFault_259 (fun _ => trivial) (fun zk259 uk259 rzk259 ruk259 rak259 hqk259 => ?_)
                  obtain ⟨lzk259, uzk259⟩ := rzk259
                  obtain ⟨rfl, hk259⟩ := hqk259
                  simp only [zput, List.append_nil, Nat.add_zero]
                  refine B.if_eq (pc := 262) (tgt := 289) dX7_wordFault_262 (by decide) (fun c262 => ?_) (fun c262 => ?_)
                  · refine B.iload_n (pc := 289) (i := 1) dX7_wordFault_289 rfl rfl ?_
                    refine B.aload_n (pc := 290) (i := 0) dX7_wordFault_290 rfl rfl ?_
                    refine B.getfield (pc := 291) 0 rfl rfl inX7z 9 (by decide) fl_X7_78 rfl dX7_wordFault_291 ?_
                    refine B.icmp_ge (pc := 294) (tgt := 301) dX7_wordFault_294 (by decide) (fun c294 => ?_) (fun c294 => ?_)
                    · refine B.bipush (pc := 301) dX7_wordFault_301 ⟨by decide, by decide⟩ ?_
                      refine B.ireturn (pc := 303) (by simp) dX7_wordFault_303 (Nat.le_refl _) (Nat.le_refl _) (fun rz rw => ⟨_, _, _, rfl, ?_⟩)
                      first
                      | (refine ⟨⟨_, i7, rfl, Or.inr ⟨by omega, i8, _, i9, rfl, Or.inr ⟨by omega, m_readSize + 1 + 4, hA, Or.inr ?_⟩⟩⟩, by omega, by omega⟩
                         have s1 : sA m_signs m_pad (m_readSize + 1 + 4) = m_pad (m_readSize + 1 + 4).toNat := sA_in (by omega) (by omega)
                         unfold EN dg_
                         first
                           | (have s2 : sA m_signs m_pad (m_readSize + 1 + 4 + 1) = 0 := sA_out (by omega)
                              rw [s1, s2]; omega)
                           | (have s2 : sA m_signs m_pad (m_readSize + 1 + 4 + 1) = m_pad (m_readSize + 1 + 4 + 1).toNat := sA_in (by omega) (by omega)
                              rw [s1, s2]; omega))
                      | (refine ⟨⟨_, i7, rfl, Or.inr ⟨by omega, i8, _, i9, rfl, Or.inr ⟨by omega, m_readSize + 1 + 1, hA, Or.inr ?_⟩⟩⟩, by omega, by omega⟩
                         have s1 : sA m_signs m_pad (m_readSize + 1 + 1) = m_pad (m_readSize + 1 + 1).toNat := sA_in (by omega) (by omega)
                         unfold EN dg_
                         first
                           | (have s2 : sA m_signs m_pad (m_readSize + 1 + 1 + 1) = 0 := sA_out (by omega)
                              rw [s1, s2]; omega)
                           | (have s2 : sA m_signs m_pad (m_readSize + 1 + 1 + 1) = m_pad (m_readSize + 1 + 1 + 1).toNat := sA_in (by omega) (by omega)
                              rw [s1, s2]; omega))
                    · refine B.iload_n (pc := 297) (i := 1) dX7_wordFault_297 rfl rfl ?_
                      refine B.goto (pc := 298) (tgt := 303) dX7_wordFault_298 (by decide) ?_
                      refine B.ireturn (pc := 303) (by simp) dX7_wordFault_303 (Nat.le_refl _) (Nat.le_refl _) (fun rz rw => ⟨_, _, _, rfl, ?_⟩)
                      first
                      | (refine ⟨⟨_, i7, rfl, Or.inr ⟨by omega, i8, _, i9, rfl, Or.inr ⟨by omega, m_readSize + 1 + 4, hA, Or.inr ?_⟩⟩⟩, by omega, by omega⟩
                         have s1 : sA m_signs m_pad (m_readSize + 1 + 4) = m_pad (m_readSize + 1 + 4).toNat := sA_in (by omega) (by omega)
                         unfold EN dg_
                         first
                           | (have s2 : sA m_signs m_pad (m_readSize + 1 + 4 + 1) = 0 := sA_out (by omega)
                              rw [s1, s2]; omega)
                           | (have s2 : sA m_signs m_pad (m_readSize + 1 + 4 + 1) = m_pad (m_readSize + 1 + 4 + 1).toNat := sA_in (by omega) (by omega)
                              rw [s1, s2]; omega))
                      | (refine ⟨⟨_, i7, rfl, Or.inr ⟨by omega, i8, _, i9, rfl, Or.inr ⟨by omega, m_readSize + 1 + 1, hA, Or.inr ?_⟩⟩⟩, by omega, by omega⟩
                         have s1 : sA m_signs m_pad (m_readSize + 1 + 1) = m_pad (m_readSize + 1 + 1).toNat := sA_in (by omega) (by omega)
                         unfold EN dg_
                         first
                           | (have s2 : sA m_signs m_pad (m_readSize + 1 + 1 + 1) = 0 := sA_out (by omega)
                              rw [s1, s2]; omega)
                           | (have s2 : sA m_signs m_pad (m_readSize + 1 + 1 + 1) = m_pad (m_readSize + 1 + 1 + 1).toNat := sA_in (by omega) (by omega)
                              rw [s1, s2]; omega))
                  · refine B.aload_n (pc := 265) (i := 0) dX7_wordFault_265 rfl rfl ?_
                    refine B.bipush (pc := 266) dX7_wordFault_266 ⟨by decide, by decide⟩ ?_
                    refine B.aload_n (pc := 268) (i := 0) dX7_wordFault_268 rfl rfl ?_
                    refine B.getfield (pc := 269) 0 rfl rfl inX7z 13 (by decide) fl_X7_96 rfl dX7_wordFault_269 ?_
                    refine B.imul (pc := 272) dX7_wordFault_272 ⟨by omega, by omega⟩ ?_
                    refine B.aload_n (pc := 273) (i := 0) dX7_wordFault_273 rfl rfl ?_
                    refine B.getfield (pc := 274) 0 rfl rfl inX7z 10 (by decide) fl_X7_31 rfl dX7_wordFault_274 ?_
                    refine B.iload_n (pc := 277) (i := 1) dX7_wordFault_277 rfl rfl ?_
                    refine B.iaload (pc := 278) 8 rfl (by omega) (by omega) dX7_wordFault_278 (fun r278 => ?_)
                    obtain ⟨lr278, ur278⟩ := r278
                    refine B.iadd (pc := 279) dX7_wordFault_279 ⟨by omega, by omega⟩ ?_
                    refine B.bipush (pc := 280) dX7_wordFault_280 ⟨by decide, by decide⟩ ?_
                    refine B.isub (pc := 282) dX7_wordFault_282 ⟨by omega, by omega⟩ ?_
                    refine B.putfield (pc := 283) 0 rfl rfl inX7z tyX7 tyX7_ok nmX7 13 (by decide) fl_X7_96 rfl rfl rfl (Nat.le_of_ble_eq_true rfl) dX7_wordFault_283 ?_
                    simp only [List.set_cons_zero, List.set_cons_succ]
                    refine B.iinc (pc := 286) dX7_wordFault_286 (by decide) rfl ⟨by omega, by omega⟩ ?_
                    simp only [List.set_cons_zero, List.set_cons_succ]
                    refine B.iload_n (pc := 289) (i := 1) dX7_wordFault_289 rfl rfl ?_
                    refine B.aload_n (pc := 290) (i := 0) dX7_wordFault_290 rfl rfl ?_
                    refine B.getfield (pc := 291) 0 rfl rfl inX7z 9 (by decide) fl_X7_78 rfl dX7_wordFault_291 ?_
                    refine B.icmp_ge (pc := 294) (tgt := 301) dX7_wordFault_294 (by decide) (fun c294 => ?_) (fun c294 => ?_)
                    · refine B.bipush (pc := 301) dX7_wordFault_301 ⟨by decide, by decide⟩ ?_
                      refine B.ireturn (pc := 303) (by simp) dX7_wordFault_303 (Nat.le_refl _) (Nat.le_refl _) (fun rz rw => ⟨_, _, _, rfl, ?_⟩)
                      first
                      | (refine ⟨⟨_, i7, rfl, Or.inr ⟨by omega, i8, _, i9, rfl, Or.inr ⟨by omega, m_readSize + 1 + 4, hA, Or.inr ?_⟩⟩⟩, by omega, by omega⟩
                         have s1 : sA m_signs m_pad (m_readSize + 1 + 4) = m_pad (m_readSize + 1 + 4).toNat := sA_in (by omega) (by omega)
                         unfold EN dg_
                         first
                           | (have s2 : sA m_signs m_pad (m_readSize + 1 + 4 + 1) = 0 := sA_out (by omega)
                              rw [s1, s2]; omega)
                           | (have s2 : sA m_signs m_pad (m_readSize + 1 + 4 + 1) = m_pad (m_readSize + 1 + 4 + 1).toNat := sA_in (by omega) (by omega)
                              rw [s1, s2]; omega))
                      | (refine ⟨⟨_, i7, rfl, Or.inr ⟨by omega, i8, _, i9, rfl, Or.inr ⟨by omega, m_readSize + 1 + 1, hA, Or.inr ?_⟩⟩⟩, by omega, by omega⟩
                         have s1 : sA m_signs m_pad (m_readSize + 1 + 1) = m_pad (m_readSize + 1 + 1).toNat := sA_in (by omega) (by omega)
                         unfold EN dg_
                         first
                           | (have s2 : sA m_signs m_pad (m_readSize + 1 + 1 + 1) = 0 := sA_out (by omega)
                              rw [s1, s2]; omega)
                           | (have s2 : sA m_signs m_pad (m_readSize + 1 + 1 + 1) = m_pad (m_readSize + 1 + 1 + 1).toNat := sA_in (by omega) (by omega)
                              rw [s1, s2]; omega))
                    · refine B.iload_n (pc := 297) (i := 1) dX7_wordFault_297 rfl rfl ?_
                      refine B.goto (pc := 298) (tgt := 303) dX7_wordFault_298 (by decide) ?_
                      refine B.ireturn (pc := 303) (by simp) dX7_wordFault_303 (Nat.le_refl _) (Nat.le_refl _) (fun rz rw => ⟨_, _, _, rfl, ?_⟩)
                      first
                      | (refine ⟨⟨_, i7, rfl, Or.inr ⟨by omega, i8, _, i9, rfl, Or.inr ⟨by omega, m_readSize + 1 + 4, hA, Or.inr ?_⟩⟩⟩, by omega, by omega⟩
                         have s1 : sA m_signs m_pad (m_readSize + 1 + 4) = m_pad (m_readSize + 1 + 4).toNat := sA_in (by omega) (by omega)
                         unfold EN dg_
                         first
                           | (have s2 : sA m_signs m_pad (m_readSize + 1 + 4 + 1) = 0 := sA_out (by omega)
                              rw [s1, s2]; omega)
                           | (have s2 : sA m_signs m_pad (m_readSize + 1 + 4 + 1) = m_pad (m_readSize + 1 + 4 + 1).toNat := sA_in (by omega) (by omega)
                              rw [s1, s2]; omega))
                      | (refine ⟨⟨_, i7, rfl, Or.inr ⟨by omega, i8, _, i9, rfl, Or.inr ⟨by omega, m_readSize + 1 + 1, hA, Or.inr ?_⟩⟩⟩, by omega, by omega⟩
                         have s1 : sA m_signs m_pad (m_readSize + 1 + 1) = m_pad (m_readSize + 1 + 1).toNat := sA_in (by omega) (by omega)
                         unfold EN dg_
                         first
                           | (have s2 : sA m_signs m_pad (m_readSize + 1 + 1 + 1) = 0 := sA_out (by omega)
                              rw [s1, s2]; omega)
                           | (have s2 : sA m_signs m_pad (m_readSize + 1 + 1 + 1) = m_pad (m_readSize + 1 + 1 + 1).toNat := sA_in (by omega) (by omega)
                              rw [s1, s2]; omega))
              · refine B.iload_n (pc := 223) (i := 1) dX7_wordFault_223 rfl rfl ?_
                refine B.ireturn (pc := 224) (by simp) dX7_wordFault_224 (Nat.le_refl _) (Nat.le_refl _) (fun rz rw => ⟨_, _, _, rfl, ?_⟩)
                refine ⟨⟨_, i7, rfl, Or.inr ⟨by omega, i8, _, i9, rfl, Or.inr ⟨by omega, _, hA, Or.inl ⟨?_, rfl⟩⟩⟩⟩, by omega, by omega⟩
                unfold dg_
                first | (rw [sA_out (by omega)]; omega) | (rw [sA_in (by omega) (by omega)]; omega)
        · refine B.iload_n (pc := 152) (i := 2) dX7_wordFault_152 rfl rfl ?_
          refine B.if_eq (pc := 153) (tgt := 187) dX7_wordFault_153 (by decide) (fun c153 => ?_) (fun c153 => ?_)
          · refine B.iload_n (pc := 187) (i := 1) dX7_wordFault_187 rfl rfl ?_
            refine B.iload_n (pc := 188) (i := 2) dX7_wordFault_188 rfl rfl ?_
            refine B.if_eq (pc := 189) (tgt := 196) dX7_wordFault_189 (by decide) (fun c189 => ?_) (fun c189 => ?_)
            · have hA : AD m_signs m_pad (m_readSize + 1) m_readKind (m_readSize + 1 + 1) := Or.inr ⟨i11 (by omega), rfl⟩
              refine B.iconst (pc := 196) dX7_wordFault_196 ⟨by decide, by decide⟩ ?_
              refine B.iadd (pc := 197) dX7_wordFault_197 ⟨by omega, by omega⟩ ?_
              refine B.istore_n (pc := 198) (i := 1) dX7_wordFault_198 rfl (by decide) ?_
              simp only [List.set_cons_zero, List.set_cons_succ]
              refine B.iload_n (pc := 199) (i := 1) dX7_wordFault_199 rfl rfl ?_
              refine B.aload_n (pc := 200) (i := 0) dX7_wordFault_200 rfl rfl ?_
              refine B.getfield (pc := 201) 0 rfl rfl inX7z 9 (by decide) fl_X7_78 rfl dX7_wordFault_201 ?_
              refine B.icmp_eq (pc := 204) (tgt := 223) dX7_wordFault_204 (by decide) (fun c204 => ?_) (fun c204 => ?_)
              · refine B.iload_n (pc := 223) (i := 1) dX7_wordFault_223 rfl rfl ?_
                refine B.ireturn (pc := 224) (by simp) dX7_wordFault_224 (Nat.le_refl _) (Nat.le_refl _) (fun rz rw => ⟨_, _, _, rfl, ?_⟩)
                refine ⟨⟨_, i7, rfl, Or.inr ⟨by omega, i8, _, i9, rfl, Or.inr ⟨by omega, _, hA, Or.inl ⟨?_, rfl⟩⟩⟩⟩, by omega, by omega⟩
                unfold dg_
                first | (rw [sA_out (by omega)]; omega) | (rw [sA_in (by omega) (by omega)]; omega)
              · refine B.aload_n (pc := 207) (i := 0) dX7_wordFault_207 rfl rfl ?_
                refine B.getfield (pc := 208) 0 rfl rfl inX7z 10 (by decide) fl_X7_31 rfl dX7_wordFault_208 ?_
                refine B.iload_n (pc := 211) (i := 1) dX7_wordFault_211 rfl rfl ?_
                refine B.iaload (pc := 212) 8 rfl (by omega) (by omega) dX7_wordFault_212 (fun r212 => ?_)
                obtain ⟨lr212, ur212⟩ := r212
                refine B.bipush (pc := 213) dX7_wordFault_213 ⟨by decide, by decide⟩ ?_
                refine B.bipush (pc := 215) dX7_wordFault_215 ⟨by decide, by decide⟩ ?_
                refine B.callSi (pc := 217) 3 (mX7_in hE _ _ _) ml_X7_74 sm_X7_in it_X7 co_X7_in (by decide +kernel) rfl rfl rfl ⟨by decide, by decide⟩ ⟨by decide, by decide⟩ [] rfl rfl rfl (Nat.le_of_ble_eq_true rfl) dX7_wordFault_217 (fun _ => trivial) (fun zk217 uk217 rzk217 ruk217 rak217 hqk217 => ?_)
                obtain ⟨lzk217, uzk217⟩ := rzk217
                obtain ⟨rfl, hk217⟩ := hqk217
                simp only [zput, List.append_nil, Nat.add_zero]
                refine B.if_ne (pc := 220) (tgt := 225) dX7_wordFault_220 (by decide) (fun c220 => ?_) (fun c220 => ?_)
                · refine B.aload_n (pc := 225) (i := 0) dX7_wordFault_225 rfl rfl ?_
                  refine B.aload_n (pc := 226) (i := 0) dX7_wordFault_226 rfl rfl ?_
                  refine B.getfield (pc := 227) 0 rfl rfl inX7z 10 (by decide) fl_X7_31 rfl dX7_wordFault_227 ?_
                  refine B.iload_n (pc := 230) (i := 1) dX7_wordFault_230 rfl rfl ?_
                  refine B.iaload (pc := 231) 8 rfl (by omega) (by omega) dX7_wordFault_231 (fun r231 => ?_)
                  obtain ⟨lr231, ur231⟩ := r231
                  refine B.bipush (pc := 232) dX7_wordFault_232 ⟨by decide, by decide⟩ ?_
                  refine B.isub (pc := 234) dX7_wordFault_234 ⟨by omega, by omega⟩ ?_
                  refine B.putfield (pc := 235) 0 rfl rfl inX7z tyX7 tyX7_ok nmX7 13 (by decide) fl_X7_96 rfl rfl rfl (Nat.le_of_ble_eq_true rfl) dX7_wordFault_235 ?_
                  simp only [List.set_cons_zero, List.set_cons_succ]
                  refine B.iinc (pc := 238) dX7_wordFault_238 (by decide) rfl ⟨by omega, by omega⟩ ?_
                  simp only [List.set_cons_zero, List.set_cons_succ]
                  refine B.iload_n (pc := 241) (i := 1) dX7_wordFault_241 rfl rfl ?_
                  refine B.aload_n (pc := 242) (i := 0) dX7_wordFault_242 rfl rfl ?_
                  refine B.getfield (pc := 243) 0 rfl rfl inX7z 9 (by decide) fl_X7_78 rfl dX7_wordFault_243 ?_
                  refine B.icmp_ge (pc := 246) (tgt := 289) dX7_wordFault_246 (by decide) (fun c246 => ?_) (fun c246 => ?_)
                  · refine B.iload_n (pc := 289) (i := 1) dX7_wordFault_289 rfl rfl ?_
                    refine B.aload_n (pc := 290) (i := 0) dX7_wordFault_290 rfl rfl ?_
                    refine B.getfield (pc := 291) 0 rfl rfl inX7z 9 (by decide) fl_X7_78 rfl dX7_wordFault_291 ?_
                    refine B.icmp_ge (pc := 294) (tgt := 301) dX7_wordFault_294 (by decide) (fun c294 => ?_) (fun c294 => ?_)
                    · refine B.bipush (pc := 301) dX7_wordFault_301 ⟨by decide, by decide⟩ ?_
                      refine B.ireturn (pc := 303) (by simp) dX7_wordFault_303 (Nat.le_refl _) (Nat.le_refl _) (fun rz rw => ⟨_, _, _, rfl, ?_⟩)
                      first
                      | (refine ⟨⟨_, i7, rfl, Or.inr ⟨by omega, i8, _, i9, rfl, Or.inr ⟨by omega, m_readSize + 1 + 4, hA, Or.inr ?_⟩⟩⟩, by omega, by omega⟩
                         have s1 : sA m_signs m_pad (m_readSize + 1 + 4) = m_pad (m_readSize + 1 + 4).toNat := sA_in (by omega) (by omega)
                         unfold EN dg_
                         first
                           | (have s2 : sA m_signs m_pad (m_readSize + 1 + 4 + 1) = 0 := sA_out (by omega)
                              rw [s1, s2]; omega)
                           | (have s2 : sA m_signs m_pad (m_readSize + 1 + 4 + 1) = m_pad (m_readSize + 1 + 4 + 1).toNat := sA_in (by omega) (by omega)
                              rw [s1, s2]; omega))
                      | (refine ⟨⟨_, i7, rfl, Or.inr ⟨by omega, i8, _, i9, rfl, Or.inr ⟨by omega, m_readSize + 1 + 1, hA, Or.inr ?_⟩⟩⟩, by omega, by omega⟩
                         have s1 : sA m_signs m_pad (m_readSize + 1 + 1) = m_pad (m_readSize + 1 + 1).toNat := sA_in (by omega) (by omega)
                         unfold EN dg_
                         first
                           | (have s2 : sA m_signs m_pad (m_readSize + 1 + 1 + 1) = 0 := sA_out (by omega)
                              rw [s1, s2]; omega)
                           | (have s2 : sA m_signs m_pad (m_readSize + 1 + 1 + 1) = m_pad (m_readSize + 1 + 1 + 1).toNat := sA_in (by omega) (by omega)
                              rw [s1, s2]; omega))
                    · refine B.iload_n (pc := 297) (i := 1) dX7_wordFault_297 rfl rfl ?_
                      refine B.goto (pc := 298) (tgt := 303) dX7_wordFault_298 (by decide) ?_
                      refine B.ireturn (pc := 303) (by simp) dX7_wordFault_303 (Nat.le_refl _) (Nat.le_refl _) (fun rz rw => ⟨_, _, _, rfl, ?_⟩)
                      first
                      | (refine ⟨⟨_, i7, rfl, Or.inr ⟨by omega, i8, _, i9, rfl, Or.inr ⟨by omega, m_readSize + 1 + 4, hA, Or.inr ?_⟩⟩⟩, by omega, by omega⟩
                         have s1 : sA m_signs m_pad (m_readSize + 1 + 4) = m_pad (m_readSize + 1 + 4).toNat := sA_in (by omega) (by omega)
                         unfold EN dg_
                         first
                           | (have s2 : sA m_signs m_pad (m_readSize + 1 + 4 + 1) = 0 := sA_out (by omega)
                              rw [s1, s2]; omega)
                           | (have s2 : sA m_signs m_pad (m_readSize + 1 + 4 + 1) = m_pad (m_readSize + 1 + 4 + 1).toNat := sA_in (by omega) (by omega)
                              rw [s1, s2]; omega))
                      | (refine ⟨⟨_, i7, rfl, Or.inr ⟨by omega, i8, _, i9, rfl, Or.inr ⟨by omega, m_readSize + 1 + 1, hA, Or.inr ?_⟩⟩⟩, by omega, by omega⟩
                         have s1 : sA m_signs m_pad (m_readSize + 1 + 1) = m_pad (m_readSize + 1 + 1).toNat := sA_in (by omega) (by omega)
                         unfold EN dg_
                         first
                           | (have s2 : sA m_signs m_pad (m_readSize + 1 + 1 + 1) = 0 := sA_out (by omega)
                              rw [s1, s2]; omega)
                           | (have s2 : sA m_signs m_pad (m_readSize + 1 + 1 + 1) = m_pad (m_readSize + 1 + 1 + 1).toNat := sA_in (by omega) (by omega)
                              rw [s1, s2]; omega))
                  · refine B.aload_n (pc := 249) (i := 0) dX7_wordFault_249 rfl rfl ?_
                    refine B.getfield (pc := 250) 0 rfl rfl inX7z 10 (by decide) fl_X7_31 rfl dX7_wordFault_250 ?_
                    refine B.iload_n (pc := 253) (i := 1) dX7_wordFault_253 rfl rfl ?_
                    refine B.iaload (pc := 254) 8 rfl (by omega) (by omega) dX7_wordFault_254 (fun r254 => ?_)
                    obtain ⟨lr254, ur254⟩ := r254
                    refine B.bipush (pc := 255) dX7_wordFault_255 ⟨by decide, by decide⟩ ?_
                    refine B.bipush (pc := 257) dX7_wordFault_257 ⟨by decide, by decide⟩ ?_
                    refine B.callSi (pc := 259) 3 (mX7_in hE _ _ _) ml_X7_74 sm_X7_in it_X7 co_X7_in (by decide +kernel) rfl rfl rfl ⟨by decide, by decide⟩ ⟨by decide, by decide⟩ [] rfl rfl rfl (Nat.le_of_ble_eq_true rfl) dX7_wordFault_259 (fun _ => trivial) (fun zk259 uk259 rzk259 ruk259 rak259 hqk259 => ?_)
                    obtain ⟨lzk259, uzk259⟩ := rzk259
                    obtain ⟨rfl, hk259⟩ := hqk259
                    simp only [zput, List.append_nil, Nat.add_zero]
                    refine B.if_eq (pc := 262) (tgt := 289) dX7_wordFault_262 (by decide) (fun c262 => ?_) (fun c262 => ?_)
                    · refine B.iload_n (pc := 289) (i := 1) dX7_wordFault_289 rfl rfl ?_
                      refine B.aload_n (pc := 290) (i := 0) dX7_wordFault_290 rfl rfl ?_
                      refine B.getfield (pc := 291) 0 rfl rfl inX7z 9 (by decide) fl_X7_78 rfl dX7_wordFault_291 ?_
                      refine B.icmp_ge (pc := 294) (tgt := 301) dX7_wordFault_294 (by decide) (fun c294 => ?_) (fun c294 => ?_)
                      · refine B.bipush (pc := 301) dX7_wordFault_301 ⟨by decide, by decide⟩ ?_
                        refine B.ireturn (pc := 303) (by simp) dX7_wordFault_303 (Nat.le_refl _) (Nat.le_refl _) (fun rz rw => ⟨_, _, _, rfl, ?_⟩)
                        first
                        | (refine ⟨⟨_, i7, rfl, Or.inr ⟨by omega, i8, _, i9, rfl, Or.inr ⟨by omega, m_readSize + 1 + 4, hA, Or.inr ?_⟩⟩⟩, by omega, by omega⟩
                           have s1 : sA m_signs m_pad (m_readSize + 1 + 4) = m_pad (m_readSize + 1 + 4).toNat := sA_in (by omega) (by omega)
                           unfold EN dg_
                           first
                             | (have s2 : sA m_signs m_pad (m_readSize + 1 + 4 + 1) = 0 := sA_out (by omega)
                                rw [s1, s2]; omega)
                             | (have s2 : sA m_signs m_pad (m_readSize + 1 + 4 + 1) = m_pad (m_readSize + 1 + 4 + 1).toNat := sA_in (by omega) (by omega)
                                rw [s1, s2]; omega))
                        | (refine ⟨⟨_, i7, rfl, Or.inr ⟨by omega, i8, _, i9, rfl, Or.inr ⟨by omega, m_readSize + 1 + 1, hA, Or.inr ?_⟩⟩⟩, by omega, by omega⟩
                           have s1 : sA m_signs m_pad (m_readSize + 1 + 1) = m_pad (m_readSize + 1 + 1).toNat := sA_in (by omega) (by omega)
                           unfold EN dg_
                           first
                             | (have s2 : sA m_signs m_pad (m_readSize + 1 + 1 + 1) = 0 := sA_out (by omega)
                                rw [s1, s2]; omega)
                             | (have s2 : sA m_signs m_pad (m_readSize + 1 + 1 + 1) = m_pad (m_readSize + 1 + 1 + 1).toNat := sA_in (by omega) (by omega)
                                rw [s1, s2]; omega))
                      · refine B.iload_n (pc := 297) (i := 1) dX7_wordFault_297 rfl rfl ?_
                        refine B.goto (pc := 298) (tgt := 303) dX7_wordFault_298 (by decide) ?_
                        refine B.ireturn (pc := 303) (by simp) dX7_wordFault_303 (Nat.le_refl _) (Nat.le_refl _) (fun rz rw => ⟨_, _, _, rfl, ?_⟩)
                        first
                        | (refine ⟨⟨_, i7, rfl, Or.inr ⟨by omega, i8, _, i9, rfl, Or.inr ⟨by omega, m_readSize + 1 + 4, hA, Or.inr ?_⟩⟩⟩, by omega, by omega⟩
                           have s1 : sA m_signs m_pad (m_readSize + 1 + 4) = m_pad (m_readSize + 1 + 4).toNat := sA_in (by omega) (by omega)
                           unfold EN dg_
                           first
                             | (have s2 : sA m_signs m_pad (m_readSize + 1 + 4 + 1) = 0 := sA_out (by omega)
                                rw [s1, s2]; omega)
                             | (have s2 : sA m_signs m_pad (m_readSize + 1 + 4 + 1) = m_pad (m_readSize + 1 + 4 + 1).toNat := sA_in (by omega) (by omega)
                                rw [s1, s2]; omega))
                        | (refine ⟨⟨_, i7, rfl, Or.inr ⟨by omega, i8, _, i9, rfl, Or.inr ⟨by omega, m_readSize + 1 + 1, hA, Or.inr ?_⟩⟩⟩, by omega, by omega⟩
                           have s1 : sA m_signs m_pad (m_readSize + 1 + 1) = m_pad (m_readSize + 1 + 1).toNat := sA_in (by omega) (by omega)
                           unfold EN dg_
                           first
                             | (have s2 : sA m_signs m_pad (m_readSize + 1 + 1 + 1) = 0 := sA_out (by omega)
                                rw [s1, s2]; omega)
                             | (have s2 : sA m_signs m_pad (m_readSize + 1 + 1 + 1) = m_pad (m_readSize + 1 + 1 + 1).toNat := sA_in (by omega) (by omega)
                                rw [s1, s2]; omega))
                    · refine B.aload_n (pc := 265) (i := 0) dX7_wordFault_265 rfl rfl ?_
                      refine B.bipush (pc := 266) dX7_wordFault_266 ⟨by decide, by decide⟩ ?_
                      refine B.aload_n (pc := 268) (i := 0) dX7_wordFault_268 rfl rfl ?_
                      refine B.getfield (pc := 269) 0 rfl rfl inX7z 13 (by decide) fl_X7_96 rfl dX7_wordFault_269 ?_
                      refine B.imul (pc := 272) dX7_wordFault_272 ⟨by omega, by omega⟩ ?_
                      refine B.aload_n (pc := 273) (i := 0) dX7_wordFault_273 rfl rfl ?_
                      refine B.getfield (pc := 274) 0 rfl rfl inX7z 10 (by decide) fl_X7_31 rfl dX7_wordFault_274 ?_
                      refine B.iload_n (pc := 277) (i := 1) dX7_wordFault_277 rfl rfl ?_
                      refine B.iaload (pc := 278) 8 rfl (by omega) (by omega) dX7_wordFault_278 (fun r278 => ?_)
                      obtain ⟨lr278, ur278⟩ := r278
                      refine B.iadd (pc := 279) dX7_wordFault_279 ⟨by omega, by omega⟩ ?_
                      refine B.bipush (pc := 280) dX7_wordFault_280 ⟨by decide, by decide⟩ ?_
                      refine B.isub (pc := 282) dX7_wordFault_282 ⟨by omega, by omega⟩ ?_
                      refine B.putfield (pc := 283) 0 rfl rfl inX7z tyX7 tyX7_ok nmX7 13 (by decide) fl_X7_96 rfl rfl rfl (Nat.le_of_ble_eq_true rfl) dX7_wordFault_283 ?_
                      simp only [List.set_cons_zero, List.set_cons_succ]
                      refine B.iinc (pc := 286) dX7_wordFault_286 (by decide) rfl ⟨by omega, by omega⟩ ?_
                      simp only [List.set_cons_zero, List.set_cons_succ]
                      refine B.iload_n (pc := 289) (i := 1) dX7_wordFault_289 rfl rfl ?_
                      refine B.aload_n (pc := 290) (i := 0) dX7_wordFault_290 rfl rfl ?_
                      refine B.getfield (pc := 291) 0 rfl rfl inX7z 9 (by decide) fl_X7_78 rfl dX7_wordFault_291 ?_
                      refine B.icmp_ge (pc := 294) (tgt := 301) dX7_wordFault_294 (by decide) (fun c294 => ?_) (fun c294 => ?_)
                      · refine B.bipush (pc := 301) dX7_wordFault_301 ⟨by decide, by decide⟩ ?_
                        refine B.ireturn (pc := 303) (by simp) dX7_wordFault_303 (Nat.le_refl _) (Nat.le_refl _) (fun rz rw => ⟨_, _, _, rfl, ?_⟩)
                        first
                        | (refine ⟨⟨_, i7, rfl, Or.inr ⟨by omega, i8, _, i9, rfl, Or.inr ⟨by omega, m_readSize + 1 + 4, hA, Or.inr ?_⟩⟩⟩, by omega, by omega⟩
                           have s1 : sA m_signs m_pad (m_readSize + 1 + 4) = m_pad (m_readSize + 1 + 4).toNat := sA_in (by omega) (by omega)
                           unfold EN dg_
                           first
                             | (have s2 : sA m_signs m_pad (m_readSize + 1 + 4 + 1) = 0 := sA_out (by omega)
                                rw [s1, s2]; omega)
                             | (have s2 : sA m_signs m_pad (m_readSize + 1 + 4 + 1) = m_pad (m_readSize + 1 + 4 + 1).toNat := sA_in (by omega) (by omega)
                                rw [s1, s2]; omega))
                        | (refine ⟨⟨_, i7, rfl, Or.inr ⟨by omega, i8, _, i9, rfl, Or.inr ⟨by omega, m_readSize + 1 + 1, hA, Or.inr ?_⟩⟩⟩, by omega, by omega⟩
                           have s1 : sA m_signs m_pad (m_readSize + 1 + 1) = m_pad (m_readSize + 1 + 1).toNat := sA_in (by omega) (by omega)
                           unfold EN dg_
                           first
                             | (have s2 : sA m_signs m_pad (m_readSize + 1 + 1 + 1) = 0 := sA_out (by omega)
                                rw [s1, s2]; omega)
                             | (have s2 : sA m_signs m_pad (m_readSize + 1 + 1 + 1) = m_pad (m_readSize + 1 + 1 + 1).toNat := sA_in (by omega) (by omega)
                                rw [s1, s2]; omega))
                      · refine B.iload_n (pc := 297) (i := 1) dX7_wordFault_297 rfl rfl ?_
                        refine B.goto (pc := 298) (tgt := 303) dX7_wordFault_298 (by decide) ?_
                        refine B.ireturn (pc := 303) (by simp) dX7_wordFault_303 (Nat.le_refl _) (Nat.le_refl _) (fun rz rw => ⟨_, _, _, rfl, ?_⟩)
                        first
                        | (refine ⟨⟨_, i7, rfl, Or.inr ⟨by omega, i8, _, i9, rfl, Or.inr ⟨by omega, m_readSize + 1 + 4, hA, Or.inr ?_⟩⟩⟩, by omega, by omega⟩
                           have s1 : sA m_signs m_pad (m_readSize + 1 + 4) = m_pad (m_readSize + 1 + 4).toNat := sA_in (by omega) (by omega)
                           unfold EN dg_
                           first
                             | (have s2 : sA m_signs m_pad (m_readSize + 1 + 4 + 1) = 0 := sA_out (by omega)
                                rw [s1, s2]; omega)
                             | (have s2 : sA m_signs m_pad (m_readSize + 1 + 4 + 1) = m_pad (m_readSize + 1 + 4 + 1).toNat := sA_in (by omega) (by omega)
                                rw [s1, s2]; omega))
                        | (refine ⟨⟨_, i7, rfl, Or.inr ⟨by omega, i8, _, i9, rfl, Or.inr ⟨by omega, m_readSize + 1 + 1, hA, Or.inr ?_⟩⟩⟩, by omega, by omega⟩
                           have s1 : sA m_signs m_pad (m_readSize + 1 + 1) = m_pad (m_readSize + 1 + 1).toNat := sA_in (by omega) (by omega)
                           unfold EN dg_
                           first
                             | (have s2 : sA m_signs m_pad (m_readSize + 1 + 1 + 1) = 0 := sA_out (by omega)
                                rw [s1, s2]; omega)
                             | (have s2 : sA m_signs m_pad (m_readSize + 1 + 1 + 1) = m_pad (m_readSize + 1 + 1 + 1).toNat := sA_in (by omega) (by omega)
                                rw [s1, s2]; omega))
                · refine B.iload_n (pc := 223) (i := 1) dX7_wordFault_223 rfl rfl ?_
                  refine B.ireturn (pc := 224) (by simp) dX7_wordFault_224 (Nat.le_refl _) (Nat.le_refl _) (fun rz rw => ⟨_, _, _, rfl, ?_⟩)
                  refine ⟨⟨_, i7, rfl, Or.inr ⟨by omega, i8, _, i9, rfl, Or.inr ⟨by omega, _, hA, Or.inl ⟨?_, rfl⟩⟩⟩⟩, by omega, by omega⟩
                  unfold dg_
                  first | (rw [sA_out (by omega)]; omega) | (rw [sA_in (by omega) (by omega)]; omega)
            · have hA : AD m_signs m_pad (m_readSize + 1) m_readKind (m_readSize + 1 + 4) := Or.inl ⟨fun j h0 h1 => i10 (by omega) j h0 (by omega), rfl⟩
              refine B.iconst (pc := 192) dX7_wordFault_192 ⟨by decide, by decide⟩ ?_
              refine B.goto (pc := 193) (tgt := 197) dX7_wordFault_193 (by decide) ?_
              refine B.iadd (pc := 197) dX7_wordFault_197 ⟨by omega, by omega⟩ ?_
              refine B.istore_n (pc := 198) (i := 1) dX7_wordFault_198 rfl (by decide) ?_
              simp only [List.set_cons_zero, List.set_cons_succ]
              refine B.iload_n (pc := 199) (i := 1) dX7_wordFault_199 rfl rfl ?_
              refine B.aload_n (pc := 200) (i := 0) dX7_wordFault_200 rfl rfl ?_
              refine B.getfield (pc := 201) 0 rfl rfl inX7z 9 (by decide) fl_X7_78 rfl dX7_wordFault_201 ?_
              refine B.icmp_eq (pc := 204) (tgt := 223) dX7_wordFault_204 (by decide) (fun c204 => ?_) (fun c204 => ?_)
              · refine B.iload_n (pc := 223) (i := 1) dX7_wordFault_223 rfl rfl ?_
                refine B.ireturn (pc := 224) (by simp) dX7_wordFault_224 (Nat.le_refl _) (Nat.le_refl _) (fun rz rw => ⟨_, _, _, rfl, ?_⟩)
                refine ⟨⟨_, i7, rfl, Or.inr ⟨by omega, i8, _, i9, rfl, Or.inr ⟨by omega, _, hA, Or.inl ⟨?_, rfl⟩⟩⟩⟩, by omega, by omega⟩
                unfold dg_
                first | (rw [sA_out (by omega)]; omega) | (rw [sA_in (by omega) (by omega)]; omega)
              · refine B.aload_n (pc := 207) (i := 0) dX7_wordFault_207 rfl rfl ?_
                refine B.getfield (pc := 208) 0 rfl rfl inX7z 10 (by decide) fl_X7_31 rfl dX7_wordFault_208 ?_
                refine B.iload_n (pc := 211) (i := 1) dX7_wordFault_211 rfl rfl ?_
                refine B.iaload (pc := 212) 8 rfl (by omega) (by omega) dX7_wordFault_212 (fun r212 => ?_)
                obtain ⟨lr212, ur212⟩ := r212
                refine B.bipush (pc := 213) dX7_wordFault_213 ⟨by decide, by decide⟩ ?_
                refine B.bipush (pc := 215) dX7_wordFault_215 ⟨by decide, by decide⟩ ?_
                refine B.callSi (pc := 217) 3 (mX7_in hE _ _ _) ml_X7_74 sm_X7_in it_X7 co_X7_in (by decide +kernel) rfl rfl rfl ⟨by decide, by decide⟩ ⟨by decide, by decide⟩ [] rfl rfl rfl (Nat.le_of_ble_eq_true rfl) dX7_wordFault_217 (fun _ => trivial) (fun zk217 uk217 rzk217 ruk217 rak217 hqk217 => ?_)
                obtain ⟨lzk217, uzk217⟩ := rzk217
                obtain ⟨rfl, hk217⟩ := hqk217
                simp only [zput, List.append_nil, Nat.add_zero]
                refine B.if_ne (pc := 220) (tgt := 225) dX7_wordFault_220 (by decide) (fun c220 => ?_) (fun c220 => ?_)
                · refine B.aload_n (pc := 225) (i := 0) dX7_wordFault_225 rfl rfl ?_
                  refine B.aload_n (pc := 226) (i := 0) dX7_wordFault_226 rfl rfl ?_
                  refine B.getfield (pc := 227) 0 rfl rfl inX7z 10 (by decide) fl_X7_31 rfl dX7_wordFault_227 ?_
                  refine B.iload_n (pc := 230) (i := 1) dX7_wordFault_230 rfl rfl ?_
                  refine B.iaload (pc := 231) 8 rfl (by omega) (by omega) dX7_wordFault_231 (fun r231 => ?_)
                  obtain ⟨lr231, ur231⟩ := r231
                  refine B.bipush (pc := 232) dX7_wordFault_232 ⟨by decide, by decide⟩ ?_
                  refine B.isub (pc := 234) dX7_wordFault_234 ⟨by omega, by omega⟩ ?_
                  refine B.putfield (pc := 235) 0 rfl rfl inX7z tyX7 tyX7_ok nmX7 13 (by decide) fl_X7_96 rfl rfl rfl (Nat.le_of_ble_eq_true rfl) dX7_wordFault_235 ?_
                  simp only [List.set_cons_zero, List.set_cons_succ]
                  refine B.iinc (pc := 238) dX7_wordFault_238 (by decide) rfl ⟨by omega, by omega⟩ ?_
                  simp only [List.set_cons_zero, List.set_cons_succ]
                  refine B.iload_n (pc := 241) (i := 1) dX7_wordFault_241 rfl rfl ?_
                  refine B.aload_n (pc := 242) (i := 0) dX7_wordFault_242 rfl rfl ?_
                  refine B.getfield (pc := 243) 0 rfl rfl inX7z 9 (by decide) fl_X7_78 rfl dX7_wordFault_243 ?_
                  refine B.icmp_ge (pc := 246) (tgt := 289) dX7_wordFault_246 (by decide) (fun c246 => ?_) (fun c246 => ?_)
                  · refine B.iload_n (pc := 289) (i := 1) dX7_wordFault_289 rfl rfl ?_
                    refine B.aload_n (pc := 290) (i := 0) dX7_wordFault_290 rfl rfl ?_
                    refine B.getfield (pc := 291) 0 rfl rfl inX7z 9 (by decide) fl_X7_78 rfl dX7_wordFault_291 ?_
                    refine B.icmp_ge (pc := 294) (tgt := 301) dX7_wordFault_294 (by decide) (fun c294 => ?_) (fun c294 => ?_)
                    · refine B.bipush (pc := 301) dX7_wordFault_301 ⟨by decide, by decide⟩ ?_
                      refine B.ireturn (pc := 303) (by simp) dX7_wordFault_303 (Nat.le_refl _) (Nat.le_refl _) (fun rz rw => ⟨_, _, _, rfl, ?_⟩)
                      first
                      | (refine ⟨⟨_, i7, rfl, Or.inr ⟨by omega, i8, _, i9, rfl, Or.inr ⟨by omega, m_readSize + 1 + 4, hA, Or.inr ?_⟩⟩⟩, by omega, by omega⟩
                         have s1 : sA m_signs m_pad (m_readSize + 1 + 4) = m_pad (m_readSize + 1 + 4).toNat := sA_in (by omega) (by omega)
                         unfold EN dg_
                         first
                           | (have s2 : sA m_signs m_pad (m_readSize + 1 + 4 + 1) = 0 := sA_out (by omega)
                              rw [s1, s2]; omega)
                           | (have s2 : sA m_signs m_pad (m_readSize + 1 + 4 + 1) = m_pad (m_readSize + 1 + 4 + 1).toNat := sA_in (by omega) (by omega)
                              rw [s1, s2]; omega))
                      | (refine ⟨⟨_, i7, rfl, Or.inr ⟨by omega, i8, _, i9, rfl, Or.inr ⟨by omega, m_readSize + 1 + 1, hA, Or.inr ?_⟩⟩⟩, by omega, by omega⟩
                         have s1 : sA m_signs m_pad (m_readSize + 1 + 1) = m_pad (m_readSize + 1 + 1).toNat := sA_in (by omega) (by omega)
                         unfold EN dg_
                         first
                           | (have s2 : sA m_signs m_pad (m_readSize + 1 + 1 + 1) = 0 := sA_out (by omega)
                              rw [s1, s2]; omega)
                           | (have s2 : sA m_signs m_pad (m_readSize + 1 + 1 + 1) = m_pad (m_readSize + 1 + 1 + 1).toNat := sA_in (by omega) (by omega)
                              rw [s1, s2]; omega))
                    · refine B.iload_n (pc := 297) (i := 1) dX7_wordFault_297 rfl rfl ?_
                      refine B.goto (pc := 298) (tgt := 303) dX7_wordFault_298 (by decide) ?_
                      refine B.ireturn (pc := 303) (by simp) dX7_wordFault_303 (Nat.le_refl _) (Nat.le_refl _) (fun rz rw => ⟨_, _, _, rfl, ?_⟩)
                      first
                      | (refine ⟨⟨_, i7, rfl, Or.inr ⟨by omega, i8, _, i9, rfl, Or.inr ⟨by omega, m_readSize + 1 + 4, hA, Or.inr ?_⟩⟩⟩, by omega, by omega⟩
                         have s1 : sA m_signs m_pad (m_readSize + 1 + 4) = m_pad (m_readSize + 1 + 4).toNat := sA_in (by omega) (by omega)
                         unfold EN dg_
                         first
                           | (have s2 : sA m_signs m_pad (m_readSize + 1 + 4 + 1) = 0 := sA_out (by omega)
                              rw [s1, s2]; omega)
                           | (have s2 : sA m_signs m_pad (m_readSize + 1 + 4 + 1) = m_pad (m_readSize + 1 + 4 + 1).toNat := sA_in (by omega) (by omega)
                              rw [s1, s2]; omega))
                      | (refine ⟨⟨_, i7, rfl, Or.inr ⟨by omega, i8, _, i9, rfl, Or.inr ⟨by omega, m_readSize + 1 + 1, hA, Or.inr ?_⟩⟩⟩, by omega, by omega⟩
                         have s1 : sA m_signs m_pad (m_readSize + 1 + 1) = m_pad (m_readSize + 1 + 1).toNat := sA_in (by omega) (by omega)
                         unfold EN dg_
                         first
                           | (have s2 : sA m_signs m_pad (m_readSize + 1 + 1 + 1) = 0 := sA_out (by omega)
                              rw [s1, s2]; omega)
                           | (have s2 : sA m_signs m_pad (m_readSize + 1 + 1 + 1) = m_pad (m_readSize + 1 + 1 + 1).toNat := sA_in (by omega) (by omega)
                              rw [s1, s2]; omega))
                  · refine B.aload_n (pc := 249) (i := 0) dX7_wordFault_249 rfl rfl ?_
                    refine B.getfield (pc := 250) 0 rfl rfl inX7z 10 (by decide) fl_X7_31 rfl dX7_wordFault_250 ?_
                    refine B.iload_n (pc := 253) (i := 1) dX7_wordFault_253 rfl rfl ?_
                    refine B.iaload (pc := 254) 8 rfl (by omega) (by omega) dX7_wordFault_254 (fun r254 => ?_)
                    obtain ⟨lr254, ur254⟩ := r254
                    refine B.bipush (pc := 255) dX7_wordFault_255 ⟨by decide, by decide⟩ ?_
                    refine B.bipush (pc := 257) dX7_wordFault_257 ⟨by decide, by decide⟩ ?_
                    refine B.callSi (pc := 259) 3 (mX7_in hE _ _ _) ml_X7_74 sm_X7_in it_X7 co_X7_in (by decide +kernel) rfl rfl rfl ⟨by decide, by decide⟩ ⟨by decide, by decide⟩ [] rfl rfl rfl (Nat.le_of_ble_eq_true rfl) dX7_wordFault_259 (fun _ => trivial) (fun zk259 uk259 rzk259 ruk259 rak259 hqk259 => ?_)
                    obtain ⟨lzk259, uzk259⟩ := rzk259
                    obtain ⟨rfl, hk259⟩ := hqk259
                    simp only [zput, List.append_nil, Nat.add_zero]
                    refine B.if_eq (pc := 262) (tgt := 289) dX7_wordFault_262 (by decide) (fun c262 => ?_) (fun c262 => ?_)
                    · refine B.iload_n (pc := 289) (i := 1) dX7_wordFault_289 rfl rfl ?_
                      refine B.aload_n (pc := 290) (i := 0) dX7_wordFault_290 rfl rfl ?_
                      refine B.getfield (pc := 291) 0 rfl rfl inX7z 9 (by decide) fl_X7_78 rfl dX7_wordFault_291 ?_
                      refine B.icmp_ge (pc := 294) (tgt := 301) dX7_wordFault_294 (by decide) (fun c294 => ?_) (fun c294 => ?_)
                      · refine B.bipush (pc := 301) dX7_wordFault_301 ⟨by decide, by decide⟩ ?_
                        refine B.ireturn (pc := 303) (by simp) dX7_wordFault_303 (Nat.le_refl _) (Nat.le_refl _) (fun rz rw => ⟨_, _, _, rfl, ?_⟩)
                        first
                        | (refine ⟨⟨_, i7, rfl, Or.inr ⟨by omega, i8, _, i9, rfl, Or.inr ⟨by omega, m_readSize + 1 + 4, hA, Or.inr ?_⟩⟩⟩, by omega, by omega⟩
                           have s1 : sA m_signs m_pad (m_readSize + 1 + 4) = m_pad (m_readSize + 1 + 4).toNat := sA_in (by omega) (by omega)
                           unfold EN dg_
                           first
                             | (have s2 : sA m_signs m_pad (m_readSize + 1 + 4 + 1) = 0 := sA_out (by omega)
                                rw [s1, s2]; omega)
                             | (have s2 : sA m_signs m_pad (m_readSize + 1 + 4 + 1) = m_pad (m_readSize + 1 + 4 + 1).toNat := sA_in (by omega) (by omega)
                                rw [s1, s2]; omega))
                        | (refine ⟨⟨_, i7, rfl, Or.inr ⟨by omega, i8, _, i9, rfl, Or.inr ⟨by omega, m_readSize + 1 + 1, hA, Or.inr ?_⟩⟩⟩, by omega, by omega⟩
                           have s1 : sA m_signs m_pad (m_readSize + 1 + 1) = m_pad (m_readSize + 1 + 1).toNat := sA_in (by omega) (by omega)
                           unfold EN dg_
                           first
                             | (have s2 : sA m_signs m_pad (m_readSize + 1 + 1 + 1) = 0 := sA_out (by omega)
                                rw [s1, s2]; omega)
                             | (have s2 : sA m_signs m_pad (m_readSize + 1 + 1 + 1) = m_pad (m_readSize + 1 + 1 + 1).toNat := sA_in (by omega) (by omega)
                                rw [s1, s2]; omega))
                      · refine B.iload_n (pc := 297) (i := 1) dX7_wordFault_297 rfl rfl ?_
                        refine B.goto (pc := 298) (tgt := 303) dX7_wordFault_298 (by decide) ?_
                        refine B.ireturn (pc := 303) (by simp) dX7_wordFault_303 (Nat.le_refl _) (Nat.le_refl _) (fun rz rw => ⟨_, _, _, rfl, ?_⟩)
                        first
                        | (refine ⟨⟨_, i7, rfl, Or.inr ⟨by omega, i8, _, i9, rfl, Or.inr ⟨by omega, m_readSize + 1 + 4, hA, Or.inr ?_⟩⟩⟩, by omega, by omega⟩
                           have s1 : sA m_signs m_pad (m_readSize + 1 + 4) = m_pad (m_readSize + 1 + 4).toNat := sA_in (by omega) (by omega)
                           unfold EN dg_
                           first
                             | (have s2 : sA m_signs m_pad (m_readSize + 1 + 4 + 1) = 0 := sA_out (by omega)
                                rw [s1, s2]; omega)
                             | (have s2 : sA m_signs m_pad (m_readSize + 1 + 4 + 1) = m_pad (m_readSize + 1 + 4 + 1).toNat := sA_in (by omega) (by omega)
                                rw [s1, s2]; omega))
                        | (refine ⟨⟨_, i7, rfl, Or.inr ⟨by omega, i8, _, i9, rfl, Or.inr ⟨by omega, m_readSize + 1 + 1, hA, Or.inr ?_⟩⟩⟩, by omega, by omega⟩
                           have s1 : sA m_signs m_pad (m_readSize + 1 + 1) = m_pad (m_readSize + 1 + 1).toNat := sA_in (by omega) (by omega)
                           unfold EN dg_
                           first
                             | (have s2 : sA m_signs m_pad (m_readSize + 1 + 1 + 1) = 0 := sA_out (by omega)
                                rw [s1, s2]; omega)
                             | (have s2 : sA m_signs m_pad (m_readSize + 1 + 1 + 1) = m_pad (m_readSize + 1 + 1 + 1).toNat := sA_in (by omega) (by omega)
                                rw [s1, s2]; omega))
                    · refine B.aload_n (pc := 265) (i := 0) dX7_wordFault_265 rfl rfl ?_
                      refine B.bipush (pc := 266) dX7_wordFault_266 ⟨by decide, by decide⟩ ?_
                      refine B.aload_n (pc := 268) (i := 0) dX7_wordFault_268 rfl rfl ?_
                      refine B.getfield (pc := 269) 0 rfl rfl inX7z 13 (by decide) fl_X7_96 rfl dX7_wordFault_269 ?_
                      refine B.imul (pc := 272) dX7_wordFault_272 ⟨by omega, by omega⟩ ?_
                      refine B.aload_n (pc := 273) (i := 0) dX7_wordFault_273 rfl rfl ?_
                      refine B.getfield (pc := 274) 0 rfl rfl inX7z 10 (by decide) fl_X7_31 rfl dX7_wordFault_274 ?_
                      refine B.iload_n (pc := 277) (i := 1) dX7_wordFault_277 rfl rfl ?_
                      refine B.iaload (pc := 278) 8 rfl (by omega) (by omega) dX7_wordFault_278 (fun r278 => ?_)
                      obtain ⟨lr278, ur278⟩ := r278
                      refine B.iadd (pc := 279) dX7_wordFault_279 ⟨by omega, by omega⟩ ?_
                      refine B.bipush (pc := 280) dX7_wordFault_280 ⟨by decide, by decide⟩ ?_
                      refine B.isub (pc := 282) dX7_wordFault_282 ⟨by omega, by omega⟩ ?_
                      refine B.putfield (pc := 283) 0 rfl rfl inX7z tyX7 tyX7_ok nmX7 13 (by decide) fl_X7_96 rfl rfl rfl (Nat.le_of_ble_eq_true rfl) dX7_wordFault_283 ?_
                      simp only [List.set_cons_zero, List.set_cons_succ]
                      refine B.iinc (pc := 286) dX7_wordFault_286 (by decide) rfl ⟨by omega, by omega⟩ ?_
                      simp only [List.set_cons_zero, List.set_cons_succ]
                      refine B.iload_n (pc := 289) (i := 1) dX7_wordFault_289 rfl rfl ?_
                      refine B.aload_n (pc := 290) (i := 0) dX7_wordFault_290 rfl rfl ?_
                      refine B.getfield (pc := 291) 0 rfl rfl inX7z 9 (by decide) fl_X7_78 rfl dX7_wordFault_291 ?_
                      refine B.icmp_ge (pc := 294) (tgt := 301) dX7_wordFault_294 (by decide) (fun c294 => ?_) (fun c294 => ?_)
                      · refine B.bipush (pc := 301) dX7_wordFault_301 ⟨by decide, by decide⟩ ?_
                        refine B.ireturn (pc := 303) (by simp) dX7_wordFault_303 (Nat.le_refl _) (Nat.le_refl _) (fun rz rw => ⟨_, _, _, rfl, ?_⟩)
                        first
                        | (refine ⟨⟨_, i7, rfl, Or.inr ⟨by omega, i8, _, i9, rfl, Or.inr ⟨by omega, m_readSize + 1 + 4, hA, Or.inr ?_⟩⟩⟩, by omega, by omega⟩
                           have s1 : sA m_signs m_pad (m_readSize + 1 + 4) = m_pad (m_readSize + 1 + 4).toNat := sA_in (by omega) (by omega)
                           unfold EN dg_
                           first
                             | (have s2 : sA m_signs m_pad (m_readSize + 1 + 4 + 1) = 0 := sA_out (by omega)
                                rw [s1, s2]; omega)
                             | (have s2 : sA m_signs m_pad (m_readSize + 1 + 4 + 1) = m_pad (m_readSize + 1 + 4 + 1).toNat := sA_in (by omega) (by omega)
                                rw [s1, s2]; omega))
                        | (refine ⟨⟨_, i7, rfl, Or.inr ⟨by omega, i8, _, i9, rfl, Or.inr ⟨by omega, m_readSize + 1 + 1, hA, Or.inr ?_⟩⟩⟩, by omega, by omega⟩
                           have s1 : sA m_signs m_pad (m_readSize + 1 + 1) = m_pad (m_readSize + 1 + 1).toNat := sA_in (by omega) (by omega)
                           unfold EN dg_
                           first
                             | (have s2 : sA m_signs m_pad (m_readSize + 1 + 1 + 1) = 0 := sA_out (by omega)
                                rw [s1, s2]; omega)
                             | (have s2 : sA m_signs m_pad (m_readSize + 1 + 1 + 1) = m_pad (m_readSize + 1 + 1 + 1).toNat := sA_in (by omega) (by omega)
                                rw [s1, s2]; omega))
                      · refine B.iload_n (pc := 297) (i := 1) dX7_wordFault_297 rfl rfl ?_
                        refine B.goto (pc := 298) (tgt := 303) dX7_wordFault_298 (by decide) ?_
                        refine B.ireturn (pc := 303) (by simp) dX7_wordFault_303 (Nat.le_refl _) (Nat.le_refl _) (fun rz rw => ⟨_, _, _, rfl, ?_⟩)
                        first
                        | (refine ⟨⟨_, i7, rfl, Or.inr ⟨by omega, i8, _, i9, rfl, Or.inr ⟨by omega, m_readSize + 1 + 4, hA, Or.inr ?_⟩⟩⟩, by omega, by omega⟩
                           have s1 : sA m_signs m_pad (m_readSize + 1 + 4) = m_pad (m_readSize + 1 + 4).toNat := sA_in (by omega) (by omega)
                           unfold EN dg_
                           first
                             | (have s2 : sA m_signs m_pad (m_readSize + 1 + 4 + 1) = 0 := sA_out (by omega)
                                rw [s1, s2]; omega)
                             | (have s2 : sA m_signs m_pad (m_readSize + 1 + 4 + 1) = m_pad (m_readSize + 1 + 4 + 1).toNat := sA_in (by omega) (by omega)
                                rw [s1, s2]; omega))
                        | (refine ⟨⟨_, i7, rfl, Or.inr ⟨by omega, i8, _, i9, rfl, Or.inr ⟨by omega, m_readSize + 1 + 1, hA, Or.inr ?_⟩⟩⟩, by omega, by omega⟩
                           have s1 : sA m_signs m_pad (m_readSize + 1 + 1) = m_pad (m_readSize + 1 + 1).toNat := sA_in (by omega) (by omega)
                           unfold EN dg_
                           first
                             | (have s2 : sA m_signs m_pad (m_readSize + 1 + 1 + 1) = 0 := sA_out (by omega)
                                rw [s1, s2]; omega)
                             | (have s2 : sA m_signs m_pad (m_readSize + 1 + 1 + 1) = m_pad (m_readSize + 1 + 1 + 1).toNat := sA_in (by omega) (by omega)
                                rw [s1, s2]; omega))
                · refine B.iload_n (pc := 223) (i := 1) dX7_wordFault_223 rfl rfl ?_
                  refine B.ireturn (pc := 224) (by simp) dX7_wordFault_224 (Nat.le_refl _) (Nat.le_refl _) (fun rz rw => ⟨_, _, _, rfl, ?_⟩)
                  refine ⟨⟨_, i7, rfl, Or.inr ⟨by omega, i8, _, i9, rfl, Or.inr ⟨by omega, _, hA, Or.inl ⟨?_, rfl⟩⟩⟩⟩, by omega, by omega⟩
                  unfold dg_
                  first | (rw [sA_out (by omega)]; omega) | (rw [sA_in (by omega) (by omega)]; omega)
          · refine B.aload_n (pc := 156) (i := 0) dX7_wordFault_156 rfl rfl ?_
            refine B.getfield (pc := 157) 0 rfl rfl inX7z 10 (by decide) fl_X7_31 rfl dX7_wordFault_157 ?_
            refine B.iload_n (pc := 160) (i := 1) dX7_wordFault_160 rfl rfl ?_
            refine B.iload_n (pc := 161) (i := 3) dX7_wordFault_161 rfl rfl ?_
            refine B.iadd (pc := 162) dX7_wordFault_162 ⟨by omega, by omega⟩ ?_
            refine B.iaload (pc := 163) 8 rfl (by omega) (by omega) dX7_wordFault_163 (fun r163 => ?_)
            obtain ⟨lr163, ur163⟩ := r163
            refine B.aload_n (pc := 164) (i := 0) dX7_wordFault_164 rfl rfl ?_
            refine B.getfield (pc := 165) 0 rfl rfl inX7z 12 (by decide) fl_X7_89 rfl dX7_wordFault_165 ?_
            refine B.iload_n (pc := 168) (i := 3) dX7_wordFault_168 rfl rfl ?_
            refine B.callSi (pc := 169) 2 (mX7_name hE _ _) ml_X7_92 sm_X7_name it_X7 co_X7_name (by decide +kernel) rfl rfl rfl ⟨by decide, by decide⟩ ⟨by decide, by decide⟩ [] rfl rfl rfl (Nat.le_of_ble_eq_true rfl) dX7_wordFault_169 (fun _ => by omega) (fun zk169 uk169 rzk169 ruk169 rak169 hqk169 => ?_)
            obtain ⟨lzk169, uzk169⟩ := rzk169
            obtain ⟨rfl, hk169⟩ := hqk169
            simp only [zput, List.append_nil, Nat.add_zero]
            refine B.icmp_ne (pc := 172) (tgt := 179) dX7_wordFault_172 (by decide) (fun c172 => ?_) (fun c172 => ?_)
            · refine B.iconst (pc := 179) dX7_wordFault_179 ⟨by decide, by decide⟩ ?_
              refine B.istore_n (pc := 180) (i := 2) dX7_wordFault_180 rfl (by decide) ?_
              simp only [List.set_cons_zero, List.set_cons_succ]
              refine B.iinc (pc := 181) dX7_wordFault_181 (by decide) rfl ⟨by omega, by omega⟩ ?_
              simp only [List.set_cons_zero, List.set_cons_succ]
              refine B.goto (pc := 184) (tgt := 147) dX7_wordFault_184 (by decide) ?_
              refine (ih _ ?_).2.2 _ _ ⟨_, _, _, _, _, rfl, rfl, rfl, ?_⟩
              · omega
              · first
                  | (refine ⟨i1, i2, rfl, i4, by omega, by omega, i7, i8, i9, fun _ j h0 h1 => ?_, fun e => by omega⟩
                     by_cases e : j = q
                     · rw [e, sA_in (by omega) (by omega)]; omega
                     · exact i10 (by omega) j h0 (by omega))
                  | (refine ⟨i1, i2, rfl, i4, by omega, by omega, i7, i8, i9, fun e => by omega, fun _ hw => ?_⟩
                     have h3 := hw q (by omega) (by omega)
                     rw [sA_in (by omega) (by omega)] at h3
                     omega)
            · refine B.iconst (pc := 175) dX7_wordFault_175 ⟨by decide, by decide⟩ ?_
              refine B.goto (pc := 176) (tgt := 180) dX7_wordFault_176 (by decide) ?_
              refine B.istore_n (pc := 180) (i := 2) dX7_wordFault_180 rfl (by decide) ?_
              simp only [List.set_cons_zero, List.set_cons_succ]
              refine B.iinc (pc := 181) dX7_wordFault_181 (by decide) rfl ⟨by omega, by omega⟩ ?_
              simp only [List.set_cons_zero, List.set_cons_succ]
              refine B.goto (pc := 184) (tgt := 147) dX7_wordFault_184 (by decide) ?_
              refine (ih _ ?_).2.2 _ _ ⟨_, _, _, _, _, rfl, rfl, rfl, ?_⟩
              · omega
              · first
                  | (refine ⟨i1, i2, rfl, i4, by omega, by omega, i7, i8, i9, fun _ j h0 h1 => ?_, fun e => by omega⟩
                     by_cases e : j = q
                     · rw [e, sA_in (by omega) (by omega)]; omega
                     · exact i10 (by omega) j h0 (by omega))
                  | (refine ⟨i1, i2, rfl, i4, by omega, by omega, i7, i8, i9, fun e => by omega, fun _ hw => ?_⟩
                     have h3 := hw q (by omega) (by omega)
                     rw [sA_in (by omega) (by omega)] at h3
                     omega)
  show Z 0 0 0 [some (.inr (some m_a)), none, none, none] [] _
  refine B.iconst (pc := 0) dX7_wordFault_0 ⟨by decide, by decide⟩ ?_
  refine B.istore_n (pc := 1) (i := 1) dX7_wordFault_1 rfl (by decide) ?_
  simp only [List.set_cons_zero, List.set_cons_succ]
  refine (key _).1 _ _ ⟨_, _, _, rfl, rfl, rfl, ?_⟩
  exact ⟨by omega, by omega, by omega, fun j hj => by omega⟩
set_option maxHeartbeats 4000000 in
set_option maxRecDepth 100000 in
theorem mX7_lineFault {l : Launch} {D : va_G} {k : zK} {E : zE} (hE : zEok E) (m_a m_letters_a m_size_a m_kind_a m_cost_a m_joins_a m_rules_a m_line_a m_pad_a m_place_a m_length_a m_sort_a m_price_a m_of_a m_begins_a m_rowCost_a m_rowNext_a m_rows_a m_ahead_a m_waysTo_a m_image_a m_isKept_a : Nat) (m_words m_long1 m_signs m_readSize m_readKind m_readCost m_many : Int) (m_letters m_size m_kind m_cost m_joins m_rules m_line m_pad m_place m_length m_sort m_price m_of m_begins m_rowCost m_rowNext m_rows m_ahead m_waysTo m_image m_isKept : Nat → Int) : zMi l D k E yX7_lineFault cX7_lineFault 2 .int { frames := 2, cells := 0, slots := 0, locals := 42 } 0 0 [.inr (some m_a)] [(m_a, .inr (.inr (7, [.inr (some m_letters_a), .inr (some m_size_a), .inr (some m_kind_a), .inr (some m_cost_a), .inl m_words, .inr (some m_joins_a), .inr (some m_rules_a), .inr (some m_line_a), .inl m_long1, .inl m_signs, .inr (some m_pad_a), .inl m_readSize, .inl m_readKind, .inl m_readCost, .inr (some m_place_a), .inr (some m_length_a), .inr (some m_sort_a), .inr (some m_price_a), .inr (some m_of_a), .inr (some m_begins_a), .inl m_many, .inr (some m_rowCost_a), .inr (some m_rowNext_a), .inr (some m_rows_a), .inr (some m_ahead_a), .inr (some m_waysTo_a), .inr (some m_image_a), .inr (some m_isKept_a)]))), (m_letters_a, .inl (false, 96, m_letters)), (m_size_a, .inl (false, 16, m_size)), (m_kind_a, .inl (false, 16, m_kind)), (m_cost_a, .inl (false, 16, m_cost)), (m_joins_a, .inl (false, 25, m_joins)), (m_rules_a, .inl (false, 4, m_rules)), (m_line_a, .inl (false, 24, m_line)), (m_pad_a, .inl (false, 40, m_pad)), (m_place_a, .inl (false, 480, m_place)), (m_length_a, .inl (false, 480, m_length)), (m_sort_a, .inl (false, 480, m_sort)), (m_price_a, .inl (false, 480, m_price)), (m_of_a, .inl (false, 480, m_of)), (m_begins_a, .inl (false, 26, m_begins)), (m_rowCost_a, .inl (false, 5760, m_rowCost)), (m_rowNext_a, .inl (false, 5760, m_rowNext)), (m_rows_a, .inl (false, 480, m_rows)), (m_ahead_a, .inl (false, 480, m_ahead)), (m_waysTo_a, .inl (false, 26, m_waysTo)), (m_image_a, .inl (false, 460, m_image)), (m_isKept_a, .inl (true, 2, m_isKept))] (0 ≤ m_signs ∧ m_signs ≤ 40) (fun z u => u = [(m_a, .inr (.inr (7, [.inr (some m_letters_a), .inr (some m_size_a), .inr (some m_kind_a), .inr (some m_cost_a), .inl m_words, .inr (some m_joins_a), .inr (some m_rules_a), .inr (some m_line_a), .inl m_long1, .inl m_signs, .inr (some m_pad_a), .inl m_readSize, .inl m_readKind, .inl m_readCost, .inr (some m_place_a), .inr (some m_length_a), .inr (some m_sort_a), .inr (some m_price_a), .inr (some m_of_a), .inr (some m_begins_a), .inl m_many, .inr (some m_rowCost_a), .inr (some m_rowNext_a), .inr (some m_rows_a), .inr (some m_ahead_a), .inr (some m_waysTo_a), .inr (some m_image_a), .inr (some m_isKept_a)]))), (m_letters_a, .inl (false, 96, m_letters)), (m_size_a, .inl (false, 16, m_size)), (m_kind_a, .inl (false, 16, m_kind)), (m_cost_a, .inl (false, 16, m_cost)), (m_joins_a, .inl (false, 25, m_joins)), (m_rules_a, .inl (false, 4, m_rules)), (m_line_a, .inl (false, 24, m_line)), (m_pad_a, .inl (false, 40, m_pad)), (m_place_a, .inl (false, 480, m_place)), (m_length_a, .inl (false, 480, m_length)), (m_sort_a, .inl (false, 480, m_sort)), (m_price_a, .inl (false, 480, m_price)), (m_of_a, .inl (false, 480, m_of)), (m_begins_a, .inl (false, 26, m_begins)), (m_rowCost_a, .inl (false, 5760, m_rowCost)), (m_rowNext_a, .inl (false, 5760, m_rowNext)), (m_rows_a, .inl (false, 480, m_rows)), (m_ahead_a, .inl (false, 480, m_ahead)), (m_waysTo_a, .inl (false, 26, m_waysTo)), (m_image_a, .inl (false, 460, m_image)), (m_isKept_a, .inl (true, 2, m_isKept))] ∧ (LF m_signs m_pad z ∧ (z < 0 → z = -6 ∧ 1 ≤ m_signs ∧ m_signs ≤ 24))) := by
  refine zMi.of RX7 hE (by decide) rfl (by simp) (fun _ _ _ _ => rfl) ?_
  intro Z hP hav hwr B
  obtain ⟨l_m_words, u_m_words⟩ : zR m_words := zWr_at hwr (i := 0) rfl (.inl m_words) (by simp)
  obtain ⟨l_m_long1, u_m_long1⟩ : zR m_long1 := zWr_at hwr (i := 0) rfl (.inl m_long1) (by simp)
  obtain ⟨l_m_signs, u_m_signs⟩ : zR m_signs := zWr_at hwr (i := 0) rfl (.inl m_signs) (by simp)
  obtain ⟨l_m_readSize, u_m_readSize⟩ : zR m_readSize := zWr_at hwr (i := 0) rfl (.inl m_readSize) (by simp)
  obtain ⟨l_m_readKind, u_m_readKind⟩ : zR m_readKind := zWr_at hwr (i := 0) rfl (.inl m_readKind) (by simp)
  obtain ⟨l_m_readCost, u_m_readCost⟩ : zR m_readCost := zWr_at hwr (i := 0) rfl (.inl m_readCost) (by simp)
  obtain ⟨l_m_many, u_m_many⟩ : zR m_many := zWr_at hwr (i := 0) rfl (.inl m_many) (by simp)
  have key : ∀ mu_ : Nat, (∀ (lv : List (Option zV)) (ws : zW), (∃ (t : Int), lv = [some (.inr (some m_a)), some (.inl t)] ∧ ws = [(m_a, .inr (.inr (7, [.inr (some m_letters_a), .inr (some m_size_a), .inr (some m_kind_a), .inr (some m_cost_a), .inl m_words, .inr (some m_joins_a), .inr (some m_rules_a), .inr (some m_line_a), .inl m_long1, .inl m_signs, .inr (some m_pad_a), .inl m_readSize, .inl m_readKind, .inl m_readCost, .inr (some m_place_a), .inr (some m_length_a), .inr (some m_sort_a), .inr (some m_price_a), .inr (some m_of_a), .inr (some m_begins_a), .inl m_many, .inr (some m_rowCost_a), .inr (some m_rowNext_a), .inr (some m_rows_a), .inr (some m_ahead_a), .inr (some m_waysTo_a), .inr (some m_image_a), .inr (some m_isKept_a)]))), (m_letters_a, .inl (false, 96, m_letters)), (m_size_a, .inl (false, 16, m_size)), (m_kind_a, .inl (false, 16, m_kind)), (m_cost_a, .inl (false, 16, m_cost)), (m_joins_a, .inl (false, 25, m_joins)), (m_rules_a, .inl (false, 4, m_rules)), (m_line_a, .inl (false, 24, m_line)), (m_pad_a, .inl (false, 40, m_pad)), (m_place_a, .inl (false, 480, m_place)), (m_length_a, .inl (false, 480, m_length)), (m_sort_a, .inl (false, 480, m_sort)), (m_price_a, .inl (false, 480, m_price)), (m_of_a, .inl (false, 480, m_of)), (m_begins_a, .inl (false, 26, m_begins)), (m_rowCost_a, .inl (false, 5760, m_rowCost)), (m_rowNext_a, .inl (false, 5760, m_rowNext)), (m_rows_a, .inl (false, 480, m_rows)), (m_ahead_a, .inl (false, 480, m_ahead)), (m_waysTo_a, .inl (false, 26, m_waysTo)), (m_image_a, .inl (false, 460, m_image)), (m_isKept_a, .inl (true, 2, m_isKept))] ∧ mu_ = (m_signs - t).toNat ∧ (0 ≤ t ∧ t ≤ m_signs ∧ t ≤ 24 ∧ ∀ j : Nat, (j : Int) < t → lt_ (m_pad j))) → Z 0 0 2 lv [] ws) := by
    intro mu_
    induction mu_ using Nat.strongRecOn with
    | _ mu_ ih =>
      · intro lv ws hJ
        obtain ⟨t, rfl, rfl, rfl, hi⟩ := hJ
        obtain ⟨i1, i2, i3, i4⟩ := hi
        refine B.iload_n (pc := 2) (i := 1) dX7_lineFault_2 rfl rfl ?_
        refine B.aload_n (pc := 3) (i := 0) dX7_lineFault_3 rfl rfl ?_
        refine B.getfield (pc := 4) 0 rfl rfl inX7z 9 (by decide) fl_X7_78 rfl dX7_lineFault_4 ?_
        refine B.icmp_ge (pc := 7) (tgt := 36) dX7_lineFault_7 (by decide) (fun c7 => ?_) (fun c7 => ?_)
        · refine B.aload_n (pc := 36) (i := 0) dX7_lineFault_36 rfl rfl ?_
          refine B.getfield (pc := 37) 0 rfl rfl inX7z 9 (by decide) fl_X7_78 rfl dX7_lineFault_37 ?_
          refine B.if_ne (pc := 40) (tgt := 47) dX7_lineFault_40 (by decide) (fun c40 => ?_) (fun c40 => ?_)
          · refine B.bipush (pc := 47) dX7_lineFault_47 ⟨by decide, by decide⟩ ?_
            refine B.ireturn (pc := 49) (by simp) dX7_lineFault_49 (Nat.le_refl _) (Nat.le_refl _) (fun rz rw => ⟨rfl, ?_⟩)
            first | exact ⟨⟨t, ⟨by omega, by omega, by omega, i4, by unfold lt_; omega⟩, Or.inr ⟨by omega, by omega⟩⟩, by omega⟩ | exact ⟨⟨t, ⟨by omega, by omega, by omega, i4, by unfold lt_; omega⟩, Or.inl ⟨by omega, by omega, rfl⟩⟩, by omega⟩
          · refine B.iconst (pc := 43) dX7_lineFault_43 ⟨by decide, by decide⟩ ?_
            refine B.goto (pc := 44) (tgt := 49) dX7_lineFault_44 (by decide) ?_
            refine B.ireturn (pc := 49) (by simp) dX7_lineFault_49 (Nat.le_refl _) (Nat.le_refl _) (fun rz rw => ⟨rfl, ?_⟩)
            first | exact ⟨⟨t, ⟨by omega, by omega, by omega, i4, by unfold lt_; omega⟩, Or.inr ⟨by omega, by omega⟩⟩, by omega⟩ | exact ⟨⟨t, ⟨by omega, by omega, by omega, i4, by unfold lt_; omega⟩, Or.inl ⟨by omega, by omega, rfl⟩⟩, by omega⟩
        · refine B.aload_n (pc := 10) (i := 0) dX7_lineFault_10 rfl rfl ?_
          refine B.getfield (pc := 11) 0 rfl rfl inX7z 10 (by decide) fl_X7_31 rfl dX7_lineFault_11 ?_
          refine B.iload_n (pc := 14) (i := 1) dX7_lineFault_14 rfl rfl ?_
          refine B.iaload (pc := 15) 8 rfl (by omega) (by omega) dX7_lineFault_15 (fun r15 => ?_)
          obtain ⟨lr15, ur15⟩ := r15
          refine B.callSi (pc := 16) 1 (mX7_isLetter hE _) ml_X7_82 sm_X7_isLetter it_X7 co_X7_isLetter (by decide +kernel) rfl rfl rfl ⟨by decide, by decide⟩ ⟨by decide, by decide⟩ [] rfl rfl rfl (Nat.le_of_ble_eq_true rfl) dX7_lineFault_16 (fun _ => trivial) (fun zk16 uk16 rzk16 ruk16 rak16 hqk16 => ?_)
          obtain ⟨lzk16, uzk16⟩ := rzk16
          obtain ⟨rfl, hk16⟩ := hqk16
          simp only [zput, List.append_nil, Nat.add_zero]
          refine B.if_eq (pc := 19) (tgt := 28) dX7_lineFault_19 (by decide) (fun c19 => ?_) (fun c19 => ?_)
          · refine B.iload_n (pc := 28) (i := 1) dX7_lineFault_28 rfl rfl ?_
            refine B.ireturn (pc := 29) (by simp) dX7_lineFault_29 (Nat.le_refl _) (Nat.le_refl _) (fun rz rw => ⟨rfl, ?_⟩)
            first | exact ⟨⟨t, ⟨by omega, by omega, by omega, i4, by unfold lt_; omega⟩, Or.inr ⟨by omega, by omega⟩⟩, by omega⟩ | exact ⟨⟨t, ⟨by omega, by omega, by omega, i4, by unfold lt_; omega⟩, Or.inl ⟨by omega, by omega, rfl⟩⟩, by omega⟩
          · refine B.iload_n (pc := 22) (i := 1) dX7_lineFault_22 rfl rfl ?_
            refine B.bipush (pc := 23) dX7_lineFault_23 ⟨by decide, by decide⟩ ?_
            refine B.icmp_ne (pc := 25) (tgt := 30) dX7_lineFault_25 (by decide) (fun c25 => ?_) (fun c25 => ?_)
            · refine B.iinc (pc := 30) dX7_lineFault_30 (by decide) rfl ⟨by omega, by omega⟩ ?_
              simp only [List.set_cons_zero, List.set_cons_succ]
              refine B.goto (pc := 33) (tgt := 2) dX7_lineFault_33 (by decide) ?_
              refine (ih _ ?_) _ _ ⟨_, rfl, rfl, rfl, ?_⟩
              · omega
              · exact ⟨by omega, by omega, by omega, LD.step i4 i1 (by unfold lt_; omega)⟩
            · refine B.iload_n (pc := 28) (i := 1) dX7_lineFault_28 rfl rfl ?_
              refine B.ireturn (pc := 29) (by simp) dX7_lineFault_29 (Nat.le_refl _) (Nat.le_refl _) (fun rz rw => ⟨rfl, ?_⟩)
              first | exact ⟨⟨t, ⟨by omega, by omega, by omega, i4, by unfold lt_; omega⟩, Or.inr ⟨by omega, by omega⟩⟩, by omega⟩ | exact ⟨⟨t, ⟨by omega, by omega, by omega, i4, by unfold lt_; omega⟩, Or.inl ⟨by omega, by omega, rfl⟩⟩, by omega⟩
  show Z 0 0 0 [some (.inr (some m_a)), none] [] _
  refine B.iconst (pc := 0) dX7_lineFault_0 ⟨by decide, by decide⟩ ?_
  refine B.istore_n (pc := 1) (i := 1) dX7_lineFault_1 rfl (by decide) ?_
  simp only [List.set_cons_zero, List.set_cons_succ]
  refine (key _) _ _ ⟨_, rfl, rfl, rfl, ?_⟩
  exact ⟨by omega, by omega, by omega, fun j hj => by omega⟩
set_option maxHeartbeats 4000000 in
set_option maxRecDepth 100000 in
theorem mX7_fault {l : Launch} {D : va_G} {k : zK} {E : zE} (hE : zEok E) (m_a m_letters_a m_size_a m_kind_a m_cost_a m_joins_a m_rules_a m_line_a m_pad_a m_place_a m_length_a m_sort_a m_price_a m_of_a m_begins_a m_rowCost_a m_rowNext_a m_rows_a m_ahead_a m_waysTo_a m_image_a m_isKept_a : Nat) (m_words m_long1 m_signs m_readSize m_readKind m_readCost m_many as_ : Int) (m_letters m_size m_kind m_cost m_joins m_rules m_line m_pad m_place m_length m_sort m_price m_of m_begins m_rowCost m_rowNext m_rows m_ahead m_waysTo m_image m_isKept : Nat → Int) : zMi l D k E yX7_fault cX7_fault 2 .int { frames := 3, cells := 0, slots := 0, locals := 65 } 0 0 [.inr (some m_a), .inl as_] [(m_a, .inr (.inr (7, [.inr (some m_letters_a), .inr (some m_size_a), .inr (some m_kind_a), .inr (some m_cost_a), .inl m_words, .inr (some m_joins_a), .inr (some m_rules_a), .inr (some m_line_a), .inl m_long1, .inl m_signs, .inr (some m_pad_a), .inl m_readSize, .inl m_readKind, .inl m_readCost, .inr (some m_place_a), .inr (some m_length_a), .inr (some m_sort_a), .inr (some m_price_a), .inr (some m_of_a), .inr (some m_begins_a), .inl m_many, .inr (some m_rowCost_a), .inr (some m_rowNext_a), .inr (some m_rows_a), .inr (some m_ahead_a), .inr (some m_waysTo_a), .inr (some m_image_a), .inr (some m_isKept_a)]))), (m_letters_a, .inl (false, 96, m_letters)), (m_size_a, .inl (false, 16, m_size)), (m_kind_a, .inl (false, 16, m_kind)), (m_cost_a, .inl (false, 16, m_cost)), (m_joins_a, .inl (false, 25, m_joins)), (m_rules_a, .inl (false, 4, m_rules)), (m_line_a, .inl (false, 24, m_line)), (m_pad_a, .inl (false, 40, m_pad)), (m_place_a, .inl (false, 480, m_place)), (m_length_a, .inl (false, 480, m_length)), (m_sort_a, .inl (false, 480, m_sort)), (m_price_a, .inl (false, 480, m_price)), (m_of_a, .inl (false, 480, m_of)), (m_begins_a, .inl (false, 26, m_begins)), (m_rowCost_a, .inl (false, 5760, m_rowCost)), (m_rowNext_a, .inl (false, 5760, m_rowNext)), (m_rows_a, .inl (false, 480, m_rows)), (m_ahead_a, .inl (false, 480, m_ahead)), (m_waysTo_a, .inl (false, 26, m_waysTo)), (m_image_a, .inl (false, 460, m_image)), (m_isKept_a, .inl (true, 2, m_isKept))] (MI m_words m_size m_kind m_cost m_joins m_rules m_long1 m_signs m_image m_isKept) (fun z u => ∃ (m_readSize' : Int) (m_readKind' : Int) (m_readCost' : Int), u = [(m_a, .inr (.inr (7, [.inr (some m_letters_a), .inr (some m_size_a), .inr (some m_kind_a), .inr (some m_cost_a), .inl m_words, .inr (some m_joins_a), .inr (some m_rules_a), .inr (some m_line_a), .inl m_long1, .inl m_signs, .inr (some m_pad_a), .inl m_readSize', .inl m_readKind', .inl m_readCost', .inr (some m_place_a), .inr (some m_length_a), .inr (some m_sort_a), .inr (some m_price_a), .inr (some m_of_a), .inr (some m_begins_a), .inl m_many, .inr (some m_rowCost_a), .inr (some m_rowNext_a), .inr (some m_rows_a), .inr (some m_ahead_a), .inr (some m_waysTo_a), .inr (some m_image_a), .inr (some m_isKept_a)]))), (m_letters_a, .inl (false, 96, m_letters)), (m_size_a, .inl (false, 16, m_size)), (m_kind_a, .inl (false, 16, m_kind)), (m_cost_a, .inl (false, 16, m_cost)), (m_joins_a, .inl (false, 25, m_joins)), (m_rules_a, .inl (false, 4, m_rules)), (m_line_a, .inl (false, 24, m_line)), (m_pad_a, .inl (false, 40, m_pad)), (m_place_a, .inl (false, 480, m_place)), (m_length_a, .inl (false, 480, m_length)), (m_sort_a, .inl (false, 480, m_sort)), (m_price_a, .inl (false, 480, m_price)), (m_of_a, .inl (false, 480, m_of)), (m_begins_a, .inl (false, 26, m_begins)), (m_rowCost_a, .inl (false, 5760, m_rowCost)), (m_rowNext_a, .inl (false, 5760, m_rowNext)), (m_rows_a, .inl (false, 480, m_rows)), (m_ahead_a, .inl (false, 480, m_ahead)), (m_waysTo_a, .inl (false, 26, m_waysTo)), (m_image_a, .inl (false, 460, m_image)), (m_isKept_a, .inl (true, 2, m_isKept))] ∧ (zFT as_ m_signs m_pad z)) := by
  refine zMi.of RX7 hE (by decide) rfl (by simp) (fun _ _ _ _ => rfl) ?_
  intro Z hP hav hwr B
  obtain ⟨l_as_, u_as_⟩ : zR as_ := hav (.inl as_) (by simp)
  obtain ⟨l_m_words, u_m_words⟩ : zR m_words := zWr_at hwr (i := 0) rfl (.inl m_words) (by simp)
  obtain ⟨l_m_long1, u_m_long1⟩ : zR m_long1 := zWr_at hwr (i := 0) rfl (.inl m_long1) (by simp)
  obtain ⟨l_m_signs, u_m_signs⟩ : zR m_signs := zWr_at hwr (i := 0) rfl (.inl m_signs) (by simp)
  obtain ⟨l_m_readSize, u_m_readSize⟩ : zR m_readSize := zWr_at hwr (i := 0) rfl (.inl m_readSize) (by simp)
  obtain ⟨l_m_readKind, u_m_readKind⟩ : zR m_readKind := zWr_at hwr (i := 0) rfl (.inl m_readKind) (by simp)
  obtain ⟨l_m_readCost, u_m_readCost⟩ : zR m_readCost := zWr_at hwr (i := 0) rfl (.inl m_readCost) (by simp)
  obtain ⟨l_m_many, u_m_many⟩ : zR m_many := zWr_at hwr (i := 0) rfl (.inl m_many) (by simp)
  obtain ⟨h1, h2, h3, h4, h5⟩ := id hP
  obtain ⟨h1a, h1b, h1c⟩ := id h1
  obtain ⟨h2a, h2b⟩ := id h2
  show Z 0 0 0 [some (.inr (some m_a)), some (.inl as_)] [] _
  refine B.iload_n (pc := 0) (i := 1) dX7_fault_0 rfl rfl ?_
  refine B.if_ne (pc := 1) (tgt := 11) dX7_fault_1 (by decide) (fun c1 => ?_) (fun c1 => ?_)
  · refine B.iload_n (pc := 11) (i := 1) dX7_fault_11 rfl rfl ?_
    refine B.iconst (pc := 12) dX7_fault_12 ⟨by decide, by decide⟩ ?_
    refine B.icmp_ne (pc := 13) (tgt := 23) dX7_fault_13 (by decide) (fun c13 => ?_) (fun c13 => ?_)
    · refine B.bipush (pc := 23) dX7_fault_23 ⟨by decide, by decide⟩ ?_
      refine B.ireturn (pc := 25) (by simp) dX7_fault_25 (Nat.le_refl _) (Nat.le_refl _) (fun rz rw => ⟨_, _, _, rfl, ?_⟩)
      first | exact ⟨fun _ => ⟨_, _, _, hk5.1⟩, fun q => by omega, fun q => by omega⟩ | exact ⟨fun q => by omega, fun _ => hk17.1, fun q => by omega⟩ | exact ⟨fun q => by omega, fun q => by omega, fun _ _ => rfl⟩
    · refine B.aload_n (pc := 16) (i := 0) dX7_fault_16 rfl rfl ?_
      refine B.callVi (pc := 17) 0 (mX7_lineFault hE _ _ _ _ _ _ _ _ _ _ _ _ _ _ _ _ _ _ _ _ _ _ _ _ _ _ _ _ _ _ _ _ _ _ _ _ _ _ _ _ _ _ _ _ _ _ _ _ _ _) 0 rfl rfl ml_X7_103 im_X7_lineFault se_X7_lineFault it_X7 co_X7_lineFault (by decide +kernel) rfl rfl rfl ⟨by decide, by decide⟩ ⟨by decide, by decide⟩ [0, 1, 2, 3, 4, 5, 6, 7, 8, 9, 10, 11, 12, 13, 14, 15, 16, 17, 18, 19, 20, 21] rfl rfl rfl (Nat.le_of_ble_eq_true rfl) dX7_fault_17 (fun _ => by omega) (fun zk17 uk17 rzk17 ruk17 rak17 hqk17 => ?_)
      obtain ⟨lzk17, uzk17⟩ := rzk17
      obtain ⟨rfl, hk17⟩ := hqk17
      simp only [zput, List.set_cons_zero, List.set_cons_succ, List.append_nil, Nat.add_zero]
      refine B.goto (pc := 20) (tgt := 25) dX7_fault_20 (by decide) ?_
      refine B.ireturn (pc := 25) (by simp) dX7_fault_25 (Nat.le_refl _) (Nat.le_refl _) (fun rz rw => ⟨_, _, _, rfl, ?_⟩)
      first | exact ⟨fun _ => ⟨_, _, _, hk5.1⟩, fun q => by omega, fun q => by omega⟩ | exact ⟨fun q => by omega, fun _ => hk17.1, fun q => by omega⟩ | exact ⟨fun q => by omega, fun q => by omega, fun _ _ => rfl⟩
  · refine B.aload_n (pc := 4) (i := 0) dX7_fault_4 rfl rfl ?_
    refine B.callVi (pc := 5) 0 (mX7_wordFault hE _ _ _ _ _ _ _ _ _ _ _ _ _ _ _ _ _ _ _ _ _ _ _ _ _ _ _ _ _ _ _ _ _ _ _ _ _ _ _ _ _ _ _ _ _ _ _ _ _ _) 0 rfl rfl ml_X7_99 im_X7_wordFault se_X7_wordFault it_X7 co_X7_wordFault (by decide +kernel) rfl rfl rfl ⟨by decide, by decide⟩ ⟨by decide, by decide⟩ [0, 1, 2, 3, 4, 5, 6, 7, 8, 9, 10, 11, 12, 13, 14, 15, 16, 17, 18, 19, 20, 21] rfl rfl rfl (Nat.le_of_ble_eq_true rfl) dX7_fault_5 (fun _ => by omega) (fun zk5 uk5 rzk5 ruk5 rak5 hqk5 => ?_)
    obtain ⟨lzk5, uzk5⟩ := rzk5
    obtain ⟨m_readSize_k5, m_readKind_k5, m_readCost_k5, rfl, hk5⟩ := hqk5
    simp only [zput, List.set_cons_zero, List.set_cons_succ, List.append_nil, Nat.add_zero]
    refine B.goto (pc := 8) (tgt := 25) dX7_fault_8 (by decide) ?_
    refine B.ireturn (pc := 25) (by simp) dX7_fault_25 (Nat.le_refl _) (Nat.le_refl _) (fun rz rw => ⟨_, _, _, rfl, ?_⟩)
    first | exact ⟨fun _ => ⟨_, _, _, hk5.1⟩, fun q => by omega, fun q => by omega⟩ | exact ⟨fun q => by omega, fun _ => hk17.1, fun q => by omega⟩ | exact ⟨fun q => by omega, fun q => by omega, fun _ _ => rfl⟩
set_option maxHeartbeats 4000000 in
set_option maxRecDepth 100000 in
theorem mX7_learn {l : Launch} {D : va_G} {k : zK} {E : zE} (hE : zEok E) (m_a m_letters_a m_size_a m_kind_a m_cost_a m_joins_a m_rules_a m_line_a m_pad_a m_place_a m_length_a m_sort_a m_price_a m_of_a m_begins_a m_rowCost_a m_rowNext_a m_rows_a m_ahead_a m_waysTo_a m_image_a m_isKept_a : Nat) (m_words m_long1 m_signs m_readSize m_readKind m_readCost m_many : Int) (m_letters m_size m_kind m_cost m_joins m_rules m_line m_pad m_place m_length m_sort m_price m_of m_begins m_rowCost m_rowNext m_rows m_ahead m_waysTo m_image m_isKept : Nat → Int) : zMi l D k E yX7_learn cX7_learn 5 .int { frames := 3, cells := 0, slots := 0, locals := 65 } 0 0 [.inr (some m_a)] [(m_a, .inr (.inr (7, [.inr (some m_letters_a), .inr (some m_size_a), .inr (some m_kind_a), .inr (some m_cost_a), .inl m_words, .inr (some m_joins_a), .inr (some m_rules_a), .inr (some m_line_a), .inl m_long1, .inl m_signs, .inr (some m_pad_a), .inl m_readSize, .inl m_readKind, .inl m_readCost, .inr (some m_place_a), .inr (some m_length_a), .inr (some m_sort_a), .inr (some m_price_a), .inr (some m_of_a), .inr (some m_begins_a), .inl m_many, .inr (some m_rowCost_a), .inr (some m_rowNext_a), .inr (some m_rows_a), .inr (some m_ahead_a), .inr (some m_waysTo_a), .inr (some m_image_a), .inr (some m_isKept_a)]))), (m_letters_a, .inl (false, 96, m_letters)), (m_size_a, .inl (false, 16, m_size)), (m_kind_a, .inl (false, 16, m_kind)), (m_cost_a, .inl (false, 16, m_cost)), (m_joins_a, .inl (false, 25, m_joins)), (m_rules_a, .inl (false, 4, m_rules)), (m_line_a, .inl (false, 24, m_line)), (m_pad_a, .inl (false, 40, m_pad)), (m_place_a, .inl (false, 480, m_place)), (m_length_a, .inl (false, 480, m_length)), (m_sort_a, .inl (false, 480, m_sort)), (m_price_a, .inl (false, 480, m_price)), (m_of_a, .inl (false, 480, m_of)), (m_begins_a, .inl (false, 26, m_begins)), (m_rowCost_a, .inl (false, 5760, m_rowCost)), (m_rowNext_a, .inl (false, 5760, m_rowNext)), (m_rows_a, .inl (false, 480, m_rows)), (m_ahead_a, .inl (false, 480, m_ahead)), (m_waysTo_a, .inl (false, 26, m_waysTo)), (m_image_a, .inl (false, 460, m_image)), (m_isKept_a, .inl (true, 2, m_isKept))] (MI m_words m_size m_kind m_cost m_joins m_rules m_long1 m_signs m_image m_isKept) (fun z u => ∃ (m_words' : Int) (m_letters' : Nat → Int) (m_size' : Nat → Int) (m_kind' : Nat → Int) (m_cost' : Nat → Int) (m_signs' : Int) (m_readSize' : Int) (m_readKind' : Int) (m_readCost' : Int), u = [(m_a, .inr (.inr (7, [.inr (some m_letters_a), .inr (some m_size_a), .inr (some m_kind_a), .inr (some m_cost_a), .inl m_words', .inr (some m_joins_a), .inr (some m_rules_a), .inr (some m_line_a), .inl m_long1, .inl m_signs', .inr (some m_pad_a), .inl m_readSize', .inl m_readKind', .inl m_readCost', .inr (some m_place_a), .inr (some m_length_a), .inr (some m_sort_a), .inr (some m_price_a), .inr (some m_of_a), .inr (some m_begins_a), .inl m_many, .inr (some m_rowCost_a), .inr (some m_rowNext_a), .inr (some m_rows_a), .inr (some m_ahead_a), .inr (some m_waysTo_a), .inr (some m_image_a), .inr (some m_isKept_a)]))), (m_letters_a, .inl (false, 96, m_letters')), (m_size_a, .inl (false, 16, m_size')), (m_kind_a, .inl (false, 16, m_kind')), (m_cost_a, .inl (false, 16, m_cost')), (m_joins_a, .inl (false, 25, m_joins)), (m_rules_a, .inl (false, 4, m_rules)), (m_line_a, .inl (false, 24, m_line)), (m_pad_a, .inl (false, 40, m_pad)), (m_place_a, .inl (false, 480, m_place)), (m_length_a, .inl (false, 480, m_length)), (m_sort_a, .inl (false, 480, m_sort)), (m_price_a, .inl (false, 480, m_price)), (m_of_a, .inl (false, 480, m_of)), (m_begins_a, .inl (false, 26, m_begins)), (m_rowCost_a, .inl (false, 5760, m_rowCost)), (m_rowNext_a, .inl (false, 5760, m_rowNext)), (m_rows_a, .inl (false, 480, m_rows)), (m_ahead_a, .inl (false, 480, m_ahead)), (m_waysTo_a, .inl (false, 26, m_waysTo)), (m_image_a, .inl (false, 460, m_image)), (m_isKept_a, .inl (true, 2, m_isKept))] ∧ (MI m_words' m_size' m_kind' m_cost' m_joins m_rules m_long1 m_signs' m_image m_isKept ∧ zLE m_signs m_pad z m_signs' m_words m_letters m_size m_kind m_cost m_words' m_letters' m_size' m_kind' m_cost')) := by
  refine zMi.of RX7 hE (by decide) rfl (by simp) (fun _ _ _ _ => rfl) ?_
  intro Z hP hav hwr B
  obtain ⟨l_m_words, u_m_words⟩ : zR m_words := zWr_at hwr (i := 0) rfl (.inl m_words) (by simp)
  obtain ⟨l_m_long1, u_m_long1⟩ : zR m_long1 := zWr_at hwr (i := 0) rfl (.inl m_long1) (by simp)
  obtain ⟨l_m_signs, u_m_signs⟩ : zR m_signs := zWr_at hwr (i := 0) rfl (.inl m_signs) (by simp)
  obtain ⟨l_m_readSize, u_m_readSize⟩ : zR m_readSize := zWr_at hwr (i := 0) rfl (.inl m_readSize) (by simp)
  obtain ⟨l_m_readKind, u_m_readKind⟩ : zR m_readKind := zWr_at hwr (i := 0) rfl (.inl m_readKind) (by simp)
  obtain ⟨l_m_readCost, u_m_readCost⟩ : zR m_readCost := zWr_at hwr (i := 0) rfl (.inl m_readCost) (by simp)
  obtain ⟨l_m_many, u_m_many⟩ : zR m_many := zWr_at hwr (i := 0) rfl (.inl m_many) (by simp)
  obtain ⟨h1, h2, h3, h4, h5⟩ := id hP
  obtain ⟨h1a, h1b, h1c⟩ := id h1
  obtain ⟨h2a, h2b⟩ := id h2
  obtain ⟨wd0, ewd0⟩ : ∃ x, x = m_words := ⟨_, rfl⟩
  obtain ⟨le0, ele0⟩ : ∃ x, x = m_letters := ⟨_, rfl⟩
  have key : ∀ mu_ : Nat, (∀ (lv : List (Option zV)) (ws : zW), (∃ (d3 : Option zV) (d4 : Option zV) (fo : Int) (w : Int) (m_readSize : Int) (m_readKind : Int) (m_readCost : Int), lv = [some (.inr (some m_a)), some (.inl fo), some (.inl w), d3, d4] ∧ ws = [(m_a, .inr (.inr (7, [.inr (some m_letters_a), .inr (some m_size_a), .inr (some m_kind_a), .inr (some m_cost_a), .inl m_words, .inr (some m_joins_a), .inr (some m_rules_a), .inr (some m_line_a), .inl m_long1, .inl m_signs, .inr (some m_pad_a), .inl m_readSize, .inl m_readKind, .inl m_readCost, .inr (some m_place_a), .inr (some m_length_a), .inr (some m_sort_a), .inr (some m_price_a), .inr (some m_of_a), .inr (some m_begins_a), .inl m_many, .inr (some m_rowCost_a), .inr (some m_rowNext_a), .inr (some m_rows_a), .inr (some m_ahead_a), .inr (some m_waysTo_a), .inr (some m_image_a), .inr (some m_isKept_a)]))), (m_letters_a, .inl (false, 96, m_letters)), (m_size_a, .inl (false, 16, m_size)), (m_kind_a, .inl (false, 16, m_kind)), (m_cost_a, .inl (false, 16, m_cost)), (m_joins_a, .inl (false, 25, m_joins)), (m_rules_a, .inl (false, 4, m_rules)), (m_line_a, .inl (false, 24, m_line)), (m_pad_a, .inl (false, 40, m_pad)), (m_place_a, .inl (false, 480, m_place)), (m_length_a, .inl (false, 480, m_length)), (m_sort_a, .inl (false, 480, m_sort)), (m_price_a, .inl (false, 480, m_price)), (m_of_a, .inl (false, 480, m_of)), (m_begins_a, .inl (false, 26, m_begins)), (m_rowCost_a, .inl (false, 5760, m_rowCost)), (m_rowNext_a, .inl (false, 5760, m_rowNext)), (m_rows_a, .inl (false, 480, m_rows)), (m_ahead_a, .inl (false, 480, m_ahead)), (m_waysTo_a, .inl (false, 26, m_waysTo)), (m_image_a, .inl (false, 460, m_image)), (m_isKept_a, .inl (true, 2, m_isKept))] ∧ mu_ = (m_words - w).toNat * 100 + 10050 ∧ ((1 ≤ m_readSize ∧ m_readSize ≤ 6 ∧ 0 ≤ m_readKind ∧ m_readKind ≤ 2 ∧ 0 ≤ m_readCost ∧ m_readCost ≤ 99) ∧ WF m_signs m_pad (-6) m_readSize m_readKind m_readCost ∧ (0 ≤ w ∧ w ≤ m_words) ∧ ((fo = -6 ∧ ∀ v : Nat, (v : Int) < w → ¬ MT m_letters m_size m_kind m_pad m_readSize m_readKind v) ∨ (0 ≤ fo ∧ fo < m_words ∧ MT m_letters m_size m_kind m_pad m_readSize m_readKind fo.toNat)))) → Z 0 0 15 lv [] ws) ∧ (∀ (lv : List (Option zV)) (ws : zW), (∃ (fo : Int) (w : Int) (al : Int) (q : Int) (m_readSize : Int) (m_readKind : Int) (m_readCost : Int), lv = [some (.inr (some m_a)), some (.inl fo), some (.inl w), some (.inl al), some (.inl q)] ∧ ws = [(m_a, .inr (.inr (7, [.inr (some m_letters_a), .inr (some m_size_a), .inr (some m_kind_a), .inr (some m_cost_a), .inl m_words, .inr (some m_joins_a), .inr (some m_rules_a), .inr (some m_line_a), .inl m_long1, .inl m_signs, .inr (some m_pad_a), .inl m_readSize, .inl m_readKind, .inl m_readCost, .inr (some m_place_a), .inr (some m_length_a), .inr (some m_sort_a), .inr (some m_price_a), .inr (some m_of_a), .inr (some m_begins_a), .inl m_many, .inr (some m_rowCost_a), .inr (some m_rowNext_a), .inr (some m_rows_a), .inr (some m_ahead_a), .inr (some m_waysTo_a), .inr (some m_image_a), .inr (some m_isKept_a)]))), (m_letters_a, .inl (false, 96, m_letters)), (m_size_a, .inl (false, 16, m_size)), (m_kind_a, .inl (false, 16, m_kind)), (m_cost_a, .inl (false, 16, m_cost)), (m_joins_a, .inl (false, 25, m_joins)), (m_rules_a, .inl (false, 4, m_rules)), (m_line_a, .inl (false, 24, m_line)), (m_pad_a, .inl (false, 40, m_pad)), (m_place_a, .inl (false, 480, m_place)), (m_length_a, .inl (false, 480, m_length)), (m_sort_a, .inl (false, 480, m_sort)), (m_price_a, .inl (false, 480, m_price)), (m_of_a, .inl (false, 480, m_of)), (m_begins_a, .inl (false, 26, m_begins)), (m_rowCost_a, .inl (false, 5760, m_rowCost)), (m_rowNext_a, .inl (false, 5760, m_rowNext)), (m_rows_a, .inl (false, 480, m_rows)), (m_ahead_a, .inl (false, 480, m_ahead)), (m_waysTo_a, .inl (false, 26, m_waysTo)), (m_image_a, .inl (false, 460, m_image)), (m_isKept_a, .inl (true, 2, m_isKept))] ∧ mu_ = (m_words - w).toNat * 100 + 10000 + (6 - q).toNat ∧ ((1 ≤ m_readSize ∧ m_readSize ≤ 6 ∧ 0 ≤ m_readKind ∧ m_readKind ≤ 2 ∧ 0 ≤ m_readCost ∧ m_readCost ≤ 99) ∧ WF m_signs m_pad (-6) m_readSize m_readKind m_readCost ∧ (0 ≤ w ∧ w < m_words ∧ 0 ≤ q ∧ q ≤ m_readSize) ∧ ((fo = -6 ∧ ∀ v : Nat, (v : Int) < w → ¬ MT m_letters m_size m_kind m_pad m_readSize m_readKind v) ∨ (0 ≤ fo ∧ fo < m_words ∧ MT m_letters m_size m_kind m_pad m_readSize m_readKind fo.toNat)) ∧ (al = 0 ∨ al = 1) ∧ (al = 1 → m_size w.toNat = m_readSize ∧ m_kind w.toNat = m_readKind ∧ ∀ i : Nat, (i : Int) < q → m_letters (6 * w.toNat + i) = m_pad i) ∧ (al = 0 → ¬ MT m_letters m_size m_kind m_pad m_readSize m_readKind w.toNat))) → Z 0 0 58 lv [] ws) ∧ (∀ (lv : List (Option zV)) (ws : zW), (∃ (d3 : Option zV) (d4 : Option zV) (fo : Int) (q : Int) (m_words : Int) (m_letters : Nat → Int) (m_readSize : Int) (m_readKind : Int) (m_readCost : Int), lv = [some (.inr (some m_a)), some (.inl fo), some (.inl q), d3, d4] ∧ ws = [(m_a, .inr (.inr (7, [.inr (some m_letters_a), .inr (some m_size_a), .inr (some m_kind_a), .inr (some m_cost_a), .inl m_words, .inr (some m_joins_a), .inr (some m_rules_a), .inr (some m_line_a), .inl m_long1, .inl m_signs, .inr (some m_pad_a), .inl m_readSize, .inl m_readKind, .inl m_readCost, .inr (some m_place_a), .inr (some m_length_a), .inr (some m_sort_a), .inr (some m_price_a), .inr (some m_of_a), .inr (some m_begins_a), .inl m_many, .inr (some m_rowCost_a), .inr (some m_rowNext_a), .inr (some m_rows_a), .inr (some m_ahead_a), .inr (some m_waysTo_a), .inr (some m_image_a), .inr (some m_isKept_a)]))), (m_letters_a, .inl (false, 96, m_letters)), (m_size_a, .inl (false, 16, m_size)), (m_kind_a, .inl (false, 16, m_kind)), (m_cost_a, .inl (false, 16, m_cost)), (m_joins_a, .inl (false, 25, m_joins)), (m_rules_a, .inl (false, 4, m_rules)), (m_line_a, .inl (false, 24, m_line)), (m_pad_a, .inl (false, 40, m_pad)), (m_place_a, .inl (false, 480, m_place)), (m_length_a, .inl (false, 480, m_length)), (m_sort_a, .inl (false, 480, m_sort)), (m_price_a, .inl (false, 480, m_price)), (m_of_a, .inl (false, 480, m_of)), (m_begins_a, .inl (false, 26, m_begins)), (m_rowCost_a, .inl (false, 5760, m_rowCost)), (m_rowNext_a, .inl (false, 5760, m_rowNext)), (m_rows_a, .inl (false, 480, m_rows)), (m_ahead_a, .inl (false, 480, m_ahead)), (m_waysTo_a, .inl (false, 26, m_waysTo)), (m_image_a, .inl (false, 460, m_image)), (m_isKept_a, .inl (true, 2, m_isKept))] ∧ mu_ = (6 - q).toNat ∧ ((1 ≤ m_readSize ∧ m_readSize ≤ 6 ∧ 0 ≤ m_readKind ∧ m_readKind ≤ 2 ∧ 0 ≤ m_readCost ∧ m_readCost ≤ 99) ∧ WF m_signs m_pad (-6) m_readSize m_readKind m_readCost ∧ (0 ≤ q ∧ q ≤ m_readSize ∧ 0 ≤ fo) ∧ ((m_words = wd0 ∧ fo < wd0 ∧ MT le0 m_size m_kind m_pad m_readSize m_readKind fo.toNat) ∨ (m_words = wd0 + 1 ∧ fo = wd0 ∧ wd0 < 16 ∧ ∀ v : Nat, (v : Int) < wd0 → ¬ MT le0 m_size m_kind m_pad m_readSize m_readKind v)) ∧ (∀ j : Nat, (j : Int) < 6 * fo ∨ 6 * fo + q ≤ j → m_letters j = le0 j) ∧ (∀ i : Nat, (i : Int) < q → m_letters (6 * fo.toNat + i) = m_pad i))) → Z 0 0 158 lv [] ws) := by
    intro mu_
    induction mu_ using Nat.strongRecOn with
    | _ mu_ ih =>
      refine ⟨?_, ?_, ?_⟩
      · intro lv ws hJ
        obtain ⟨d3, d4, fo, w, m_readSize, m_readKind, m_readCost, rfl, rfl, rfl, hi⟩ := hJ
        obtain ⟨i1, i2, i3, i4⟩ := hi
        refine B.iload_n (pc := 15) (i := 2) dX7_learn_15 rfl rfl ?_
        refine B.aload_n (pc := 16) (i := 0) dX7_learn_16 rfl rfl ?_
        refine B.getfield (pc := 17) 0 rfl rfl inX7z 4 (by decide) fl_X7_106 rfl dX7_learn_17 ?_
        refine B.icmp_ge (pc := 20) (tgt := 121) dX7_learn_20 (by decide) (fun c20 => ?_) (fun c20 => ?_)
        · refine B.iload_n (pc := 121) (i := 1) dX7_learn_121 rfl rfl ?_
          refine B.if_ge (pc := 122) (tgt := 137) dX7_learn_122 (by decide) (fun c122 => ?_) (fun c122 => ?_)
          · refine B.iload_n (pc := 137) (i := 1) dX7_learn_137 rfl rfl ?_
            refine B.if_ge (pc := 138) (tgt := 156) dX7_learn_138 (by decide) (fun c138 => ?_) (fun c138 => ?_)
            · refine B.iconst (pc := 156) dX7_learn_156 ⟨by decide, by decide⟩ ?_
              refine B.istore_n (pc := 157) (i := 2) dX7_learn_157 rfl (by decide) ?_
              simp only [List.set_cons_zero, List.set_cons_succ]
              refine (ih _ ?_).2.2 _ _ ⟨_, _, _, _, _, _, _, _, _, rfl, rfl, rfl, ?_⟩
              · omega
              · rw [ewd0, ele0]
                first
                  | (have hf : 0 ≤ fo ∧ fo < m_words ∧ MT m_letters m_size m_kind m_pad m_readSize m_readKind fo.toNat := by
                       rcases i4 with h | h
                       · omega
                       · exact h
                     exact ⟨i1, i2, by omega, Or.inl ⟨rfl, hf.2.1, hf.2.2⟩, fun j _ => rfl, fun i hi => by omega⟩)
                  | (have hf : fo = -6 ∧ ∀ v : Nat, (v : Int) < w → ¬ MT m_letters m_size m_kind m_pad m_readSize m_readKind v := by
                       rcases i4 with h | h
                       · exact h
                       · omega
                     exact ⟨i1, i2, by omega, Or.inr ⟨rfl, rfl, by omega, fun v hv => hf.2 v (by omega)⟩, fun j _ => rfl, fun i hi => by omega⟩)
            · refine B.aload_n (pc := 141) (i := 0) dX7_learn_141 rfl rfl ?_
              refine B.getfield (pc := 142) 0 rfl rfl inX7z 4 (by decide) fl_X7_106 rfl dX7_learn_142 ?_
              refine B.istore_n (pc := 145) (i := 1) dX7_learn_145 rfl (by decide) ?_
              simp only [List.set_cons_zero, List.set_cons_succ]
              refine B.aload_n (pc := 146) (i := 0) dX7_learn_146 rfl rfl ?_
              refine B.dup (pc := 147) dX7_learn_147 ?_
              refine B.getfield (pc := 148) 0 rfl rfl inX7z 4 (by decide) fl_X7_106 rfl dX7_learn_148 ?_
              refine B.iconst (pc := 151) dX7_learn_151 ⟨by decide, by decide⟩ ?_
              refine B.iadd (pc := 152) dX7_learn_152 ⟨by omega, by omega⟩ ?_
              refine B.putfield (pc := 153) 0 rfl rfl inX7z tyX7 tyX7_ok nmX7 4 (by decide) fl_X7_106 rfl rfl rfl (Nat.le_of_ble_eq_true rfl) dX7_learn_153 ?_
              simp only [List.set_cons_zero, List.set_cons_succ]
              refine B.iconst (pc := 156) dX7_learn_156 ⟨by decide, by decide⟩ ?_
              refine B.istore_n (pc := 157) (i := 2) dX7_learn_157 rfl (by decide) ?_
              simp only [List.set_cons_zero, List.set_cons_succ]
              refine (ih _ ?_).2.2 _ _ ⟨_, _, _, _, _, _, _, _, _, rfl, rfl, rfl, ?_⟩
              · omega
              · rw [ewd0, ele0]
                first
                  | (have hf : 0 ≤ fo ∧ fo < m_words ∧ MT m_letters m_size m_kind m_pad m_readSize m_readKind fo.toNat := by
                       rcases i4 with h | h
                       · omega
                       · exact h
                     exact ⟨i1, i2, by omega, Or.inl ⟨rfl, hf.2.1, hf.2.2⟩, fun j _ => rfl, fun i hi => by omega⟩)
                  | (have hf : fo = -6 ∧ ∀ v : Nat, (v : Int) < w → ¬ MT m_letters m_size m_kind m_pad m_readSize m_readKind v := by
                       rcases i4 with h | h
                       · exact h
                       · omega
                     exact ⟨i1, i2, by omega, Or.inr ⟨rfl, rfl, by omega, fun v hv => hf.2 v (by omega)⟩, fun j _ => rfl, fun i hi => by omega⟩)
          · refine B.aload_n (pc := 125) (i := 0) dX7_learn_125 rfl rfl ?_
            refine B.getfield (pc := 126) 0 rfl rfl inX7z 4 (by decide) fl_X7_106 rfl dX7_learn_126 ?_
            refine B.bipush (pc := 129) dX7_learn_129 ⟨by decide, by decide⟩ ?_
            refine B.icmp_ne (pc := 131) (tgt := 137) dX7_learn_131 (by decide) (fun c131 => ?_) (fun c131 => ?_)
            · refine B.iload_n (pc := 137) (i := 1) dX7_learn_137 rfl rfl ?_
              refine B.if_ge (pc := 138) (tgt := 156) dX7_learn_138 (by decide) (fun c138 => ?_) (fun c138 => ?_)
              · refine B.iconst (pc := 156) dX7_learn_156 ⟨by decide, by decide⟩ ?_
                refine B.istore_n (pc := 157) (i := 2) dX7_learn_157 rfl (by decide) ?_
                simp only [List.set_cons_zero, List.set_cons_succ]
                refine (ih _ ?_).2.2 _ _ ⟨_, _, _, _, _, _, _, _, _, rfl, rfl, rfl, ?_⟩
                · omega
                · rw [ewd0, ele0]
                  first
                    | (have hf : 0 ≤ fo ∧ fo < m_words ∧ MT m_letters m_size m_kind m_pad m_readSize m_readKind fo.toNat := by
                         rcases i4 with h | h
                         · omega
                         · exact h
                       exact ⟨i1, i2, by omega, Or.inl ⟨rfl, hf.2.1, hf.2.2⟩, fun j _ => rfl, fun i hi => by omega⟩)
                    | (have hf : fo = -6 ∧ ∀ v : Nat, (v : Int) < w → ¬ MT m_letters m_size m_kind m_pad m_readSize m_readKind v := by
                         rcases i4 with h | h
                         · exact h
                         · omega
                       exact ⟨i1, i2, by omega, Or.inr ⟨rfl, rfl, by omega, fun v hv => hf.2 v (by omega)⟩, fun j _ => rfl, fun i hi => by omega⟩)
              · refine B.aload_n (pc := 141) (i := 0) dX7_learn_141 rfl rfl ?_
                refine B.getfield (pc := 142) 0 rfl rfl inX7z 4 (by decide) fl_X7_106 rfl dX7_learn_142 ?_
                refine B.istore_n (pc := 145) (i := 1) dX7_learn_145 rfl (by decide) ?_
                simp only [List.set_cons_zero, List.set_cons_succ]
                refine B.aload_n (pc := 146) (i := 0) dX7_learn_146 rfl rfl ?_
                refine B.dup (pc := 147) dX7_learn_147 ?_
                refine B.getfield (pc := 148) 0 rfl rfl inX7z 4 (by decide) fl_X7_106 rfl dX7_learn_148 ?_
                refine B.iconst (pc := 151) dX7_learn_151 ⟨by decide, by decide⟩ ?_
                refine B.iadd (pc := 152) dX7_learn_152 ⟨by omega, by omega⟩ ?_
                refine B.putfield (pc := 153) 0 rfl rfl inX7z tyX7 tyX7_ok nmX7 4 (by decide) fl_X7_106 rfl rfl rfl (Nat.le_of_ble_eq_true rfl) dX7_learn_153 ?_
                simp only [List.set_cons_zero, List.set_cons_succ]
                refine B.iconst (pc := 156) dX7_learn_156 ⟨by decide, by decide⟩ ?_
                refine B.istore_n (pc := 157) (i := 2) dX7_learn_157 rfl (by decide) ?_
                simp only [List.set_cons_zero, List.set_cons_succ]
                refine (ih _ ?_).2.2 _ _ ⟨_, _, _, _, _, _, _, _, _, rfl, rfl, rfl, ?_⟩
                · omega
                · rw [ewd0, ele0]
                  first
                    | (have hf : 0 ≤ fo ∧ fo < m_words ∧ MT m_letters m_size m_kind m_pad m_readSize m_readKind fo.toNat := by
                         rcases i4 with h | h
                         · omega
                         · exact h
                       exact ⟨i1, i2, by omega, Or.inl ⟨rfl, hf.2.1, hf.2.2⟩, fun j _ => rfl, fun i hi => by omega⟩)
                    | (have hf : fo = -6 ∧ ∀ v : Nat, (v : Int) < w → ¬ MT m_letters m_size m_kind m_pad m_readSize m_readKind v := by
                         rcases i4 with h | h
                         · exact h
                         · omega
                       exact ⟨i1, i2, by omega, Or.inr ⟨rfl, rfl, by omega, fun v hv => hf.2 v (by omega)⟩, fun j _ => rfl, fun i hi => by omega⟩)
            · refine B.bipush (pc := 134) dX7_learn_134 ⟨by decide, by decide⟩ ?_
              refine B.ireturn (pc := 136) (by simp) dX7_learn_136 (Nat.le_refl _) (Nat.le_refl _) (fun rz rw => ⟨_, _, _, _, _, _, _, _, _, rfl, ?_⟩)
              have hf : fo = -6 ∧ ∀ v : Nat, (v : Int) < w → ¬ MT m_letters m_size m_kind m_pad m_readSize m_readKind v := by
                rcases i4 with h | h
                · exact h
                · omega
              exact ⟨hP, _, _, _, _, i2, Or.inr ⟨rfl, Or.inl ⟨rfl, by omega, fun v hv => hf.2 v (by omega), rfl, rfl, rfl, rfl, rfl⟩, fun _ => rfl, fun q => absurd rfl q⟩⟩
        · refine B.aload_n (pc := 23) (i := 0) dX7_learn_23 rfl rfl ?_
          refine B.getfield (pc := 24) 0 rfl rfl inX7z 1 (by decide) fl_X7_13 rfl dX7_learn_24 ?_
          refine B.iload_n (pc := 27) (i := 2) dX7_learn_27 rfl rfl ?_
          refine B.iaload (pc := 28) 2 rfl (by omega) (by omega) dX7_learn_28 (fun r28 => ?_)
          obtain ⟨lr28, ur28⟩ := r28
          refine B.aload_n (pc := 29) (i := 0) dX7_learn_29 rfl rfl ?_
          refine B.getfield (pc := 30) 0 rfl rfl inX7z 11 (by decide) fl_X7_86 rfl dX7_learn_30 ?_
          refine B.icmp_ne (pc := 33) (tgt := 53) dX7_learn_33 (by decide) (fun c33 => ?_) (fun c33 => ?_)
          · refine B.iconst (pc := 53) dX7_learn_53 ⟨by decide, by decide⟩ ?_
            refine B.istore_n (pc := 54) (i := 3) dX7_learn_54 rfl (by decide) ?_
            simp only [List.set_cons_zero, List.set_cons_succ]
            refine B.iconst (pc := 55) dX7_learn_55 ⟨by decide, by decide⟩ ?_
            refine B.istore (pc := 56) (i := 4) dX7_learn_56 (by decide) ?_
            simp only [List.set_cons_zero, List.set_cons_succ]
            refine (ih _ ?_).2.1 _ _ ⟨_, _, _, _, _, _, _, rfl, rfl, rfl, ?_⟩
            · omega
            · first
                | exact ⟨i1, i2, by omega, i4, by omega, fun e => ⟨by omega, by omega, fun i hi => by omega⟩, fun e => by omega⟩
                | exact ⟨i1, i2, by omega, i4, by omega, fun e => by omega, fun e hm => c33 hm.1⟩
                | exact ⟨i1, i2, by omega, i4, by omega, fun e => by omega, fun e hm => c46 hm.2.1⟩
          · refine B.aload_n (pc := 36) (i := 0) dX7_learn_36 rfl rfl ?_
            refine B.getfield (pc := 37) 0 rfl rfl inX7z 2 (by decide) fl_X7_16 rfl dX7_learn_37 ?_
            refine B.iload_n (pc := 40) (i := 2) dX7_learn_40 rfl rfl ?_
            refine B.iaload (pc := 41) 3 rfl (by omega) (by omega) dX7_learn_41 (fun r41 => ?_)
            obtain ⟨lr41, ur41⟩ := r41
            refine B.aload_n (pc := 42) (i := 0) dX7_learn_42 rfl rfl ?_
            refine B.getfield (pc := 43) 0 rfl rfl inX7z 12 (by decide) fl_X7_89 rfl dX7_learn_43 ?_
            refine B.icmp_ne (pc := 46) (tgt := 53) dX7_learn_46 (by decide) (fun c46 => ?_) (fun c46 => ?_)
            · refine B.iconst (pc := 53) dX7_learn_53 ⟨by decide, by decide⟩ ?_
              refine B.istore_n (pc := 54) (i := 3) dX7_learn_54 rfl (by decide) ?_
              simp only [List.set_cons_zero, List.set_cons_succ]
              refine B.iconst (pc := 55) dX7_learn_55 ⟨by decide, by decide⟩ ?_
              refine B.istore (pc := 56) (i := 4) dX7_learn_56 (by decide) ?_
              simp only [List.set_cons_zero, List.set_cons_succ]
              refine (ih _ ?_).2.1 _ _ ⟨_, _, _, _, _, _, _, rfl, rfl, rfl, ?_⟩
              · omega
              · first
                  | exact ⟨i1, i2, by omega, i4, by omega, fun e => ⟨by omega, by omega, fun i hi => by omega⟩, fun e => by omega⟩
                  | exact ⟨i1, i2, by omega, i4, by omega, fun e => by omega, fun e hm => c33 hm.1⟩
                  | exact ⟨i1, i2, by omega, i4, by omega, fun e => by omega, fun e hm => c46 hm.2.1⟩
            · refine B.iconst (pc := 49) dX7_learn_49 ⟨by decide, by decide⟩ ?_
              refine B.goto (pc := 50) (tgt := 54) dX7_learn_50 (by decide) ?_
              refine B.istore_n (pc := 54) (i := 3) dX7_learn_54 rfl (by decide) ?_
              simp only [List.set_cons_zero, List.set_cons_succ]
              refine B.iconst (pc := 55) dX7_learn_55 ⟨by decide, by decide⟩ ?_
              refine B.istore (pc := 56) (i := 4) dX7_learn_56 (by decide) ?_
              simp only [List.set_cons_zero, List.set_cons_succ]
              refine (ih _ ?_).2.1 _ _ ⟨_, _, _, _, _, _, _, rfl, rfl, rfl, ?_⟩
              · omega
              · first
                  | exact ⟨i1, i2, by omega, i4, by omega, fun e => ⟨by omega, by omega, fun i hi => by omega⟩, fun e => by omega⟩
                  | exact ⟨i1, i2, by omega, i4, by omega, fun e => by omega, fun e hm => c33 hm.1⟩
                  | exact ⟨i1, i2, by omega, i4, by omega, fun e => by omega, fun e hm => c46 hm.2.1⟩
      · intro lv ws hJ
        obtain ⟨fo, w, al, q, m_readSize, m_readKind, m_readCost, rfl, rfl, rfl, hi⟩ := hJ
        obtain ⟨i1, i2, i3, i4, i5, i6, i7⟩ := hi
        refine B.iload (pc := 58) dX7_learn_58 rfl ?_
        refine B.aload_n (pc := 60) (i := 0) dX7_learn_60 rfl rfl ?_
        refine B.getfield (pc := 61) 0 rfl rfl inX7z 11 (by decide) fl_X7_86 rfl dX7_learn_61 ?_
        refine B.icmp_ge (pc := 64) (tgt := 105) dX7_learn_64 (by decide) (fun c64 => ?_) (fun c64 => ?_)
        · refine B.iload_n (pc := 105) (i := 3) dX7_learn_105 rfl rfl ?_
          refine B.if_eq (pc := 106) (tgt := 113) dX7_learn_106 (by decide) (fun c106 => ?_) (fun c106 => ?_)
          · refine B.iload_n (pc := 113) (i := 1) dX7_learn_113 rfl rfl ?_
            refine B.istore_n (pc := 114) (i := 1) dX7_learn_114 rfl (by decide) ?_
            simp only [List.set_cons_zero, List.set_cons_succ]
            refine B.iinc (pc := 115) dX7_learn_115 (by decide) rfl ⟨by omega, by omega⟩ ?_
            simp only [List.set_cons_zero, List.set_cons_succ]
            refine B.goto (pc := 118) (tgt := 15) dX7_learn_118 (by decide) ?_
            refine (ih _ ?_).1 _ _ ⟨_, _, _, _, _, _, _, rfl, rfl, rfl, ?_⟩
            · omega
            · first
                | exact ⟨i1, i2, by omega, Or.inr ⟨by omega, by omega, (i6 (by omega)).1, (i6 (by omega)).2.1, fun i hi => (i6 (by omega)).2.2 i (by omega)⟩⟩
                | (refine ⟨i1, i2, by omega, ?_⟩
                   rcases i4 with h | h
                   · refine Or.inl ⟨h.1, fun v hv => ?_⟩
                     by_cases e : v = w.toNat
                     · rw [e]; exact i7 (by omega)
                     · exact h.2 v (by omega)
                   · exact Or.inr h)
          · refine B.iload_n (pc := 109) (i := 2) dX7_learn_109 rfl rfl ?_
            refine B.goto (pc := 110) (tgt := 114) dX7_learn_110 (by decide) ?_
            refine B.istore_n (pc := 114) (i := 1) dX7_learn_114 rfl (by decide) ?_
            simp only [List.set_cons_zero, List.set_cons_succ]
            refine B.iinc (pc := 115) dX7_learn_115 (by decide) rfl ⟨by omega, by omega⟩ ?_
            simp only [List.set_cons_zero, List.set_cons_succ]
            refine B.goto (pc := 118) (tgt := 15) dX7_learn_118 (by decide) ?_
            refine (ih _ ?_).1 _ _ ⟨_, _, _, _, _, _, _, rfl, rfl, rfl, ?_⟩
            · omega
            · first
                | exact ⟨i1, i2, by omega, Or.inr ⟨by omega, by omega, (i6 (by omega)).1, (i6 (by omega)).2.1, fun i hi => (i6 (by omega)).2.2 i (by omega)⟩⟩
                | (refine ⟨i1, i2, by omega, ?_⟩
                   rcases i4 with h | h
                   · refine Or.inl ⟨h.1, fun v hv => ?_⟩
                     by_cases e : v = w.toNat
                     · rw [e]; exact i7 (by omega)
                     · exact h.2 v (by omega)
                   · exact Or.inr h)
        · refine B.iload_n (pc := 67) (i := 3) dX7_learn_67 rfl rfl ?_
          refine B.if_eq (pc := 68) (tgt := 105) dX7_learn_68 (by decide) (fun c68 => ?_) (fun c68 => ?_)
          · refine B.iload_n (pc := 105) (i := 3) dX7_learn_105 rfl rfl ?_
            refine B.if_eq (pc := 106) (tgt := 113) dX7_learn_106 (by decide) (fun c106 => ?_) (fun c106 => ?_)
            · refine B.iload_n (pc := 113) (i := 1) dX7_learn_113 rfl rfl ?_
              refine B.istore_n (pc := 114) (i := 1) dX7_learn_114 rfl (by decide) ?_
              simp only [List.set_cons_zero, List.set_cons_succ]
              refine B.iinc (pc := 115) dX7_learn_115 (by decide) rfl ⟨by omega, by omega⟩ ?_
              simp only [List.set_cons_zero, List.set_cons_succ]
              refine B.goto (pc := 118) (tgt := 15) dX7_learn_118 (by decide) ?_
              refine (ih _ ?_).1 _ _ ⟨_, _, _, _, _, _, _, rfl, rfl, rfl, ?_⟩
              · omega
              · first
                  | exact ⟨i1, i2, by omega, Or.inr ⟨by omega, by omega, (i6 (by omega)).1, (i6 (by omega)).2.1, fun i hi => (i6 (by omega)).2.2 i (by omega)⟩⟩
                  | (refine ⟨i1, i2, by omega, ?_⟩
                     rcases i4 with h | h
                     · refine Or.inl ⟨h.1, fun v hv => ?_⟩
                       by_cases e : v = w.toNat
                       · rw [e]; exact i7 (by omega)
                       · exact h.2 v (by omega)
                     · exact Or.inr h)
            · refine B.iload_n (pc := 109) (i := 2) dX7_learn_109 rfl rfl ?_
              refine B.goto (pc := 110) (tgt := 114) dX7_learn_110 (by decide) ?_
              refine B.istore_n (pc := 114) (i := 1) dX7_learn_114 rfl (by decide) ?_
              simp only [List.set_cons_zero, List.set_cons_succ]
              refine B.iinc (pc := 115) dX7_learn_115 (by decide) rfl ⟨by omega, by omega⟩ ?_
              simp only [List.set_cons_zero, List.set_cons_succ]
              refine B.goto (pc := 118) (tgt := 15) dX7_learn_118 (by decide) ?_
              refine (ih _ ?_).1 _ _ ⟨_, _, _, _, _, _, _, rfl, rfl, rfl, ?_⟩
              · omega
              · first
                  | exact ⟨i1, i2, by omega, Or.inr ⟨by omega, by omega, (i6 (by omega)).1, (i6 (by omega)).2.1, fun i hi => (i6 (by omega)).2.2 i (by omega)⟩⟩
                  | (refine ⟨i1, i2, by omega, ?_⟩
                     rcases i4 with h | h
                     · refine Or.inl ⟨h.1, fun v hv => ?_⟩
                       by_cases e : v = w.toNat
                       · rw [e]; exact i7 (by omega)
                       · exact h.2 v (by omega)
                     · exact Or.inr h)
          · refine B.aload_n (pc := 71) (i := 0) dX7_learn_71 rfl rfl ?_
            refine B.getfield (pc := 72) 0 rfl rfl inX7z 0 (by decide) fl_X7_7 rfl dX7_learn_72 ?_
            refine B.bipush (pc := 75) dX7_learn_75 ⟨by decide, by decide⟩ ?_
            refine B.iload_n (pc := 77) (i := 2) dX7_learn_77 rfl rfl ?_
            refine B.imul (pc := 78) dX7_learn_78 ⟨by omega, by omega⟩ ?_
            refine B.iload (pc := 79) dX7_learn_79 rfl ?_
            refine B.iadd (pc := 81) dX7_learn_81 ⟨by omega, by omega⟩ ?_
            refine B.iaload (pc := 82) 1 rfl (by omega) (by omega) dX7_learn_82 (fun r82 => ?_)
            obtain ⟨lr82, ur82⟩ := r82
            refine B.aload_n (pc := 83) (i := 0) dX7_learn_83 rfl rfl ?_
            refine B.getfield (pc := 84) 0 rfl rfl inX7z 10 (by decide) fl_X7_31 rfl dX7_learn_84 ?_
            refine B.iload (pc := 87) dX7_learn_87 rfl ?_
            refine B.iaload (pc := 89) 8 rfl (by omega) (by omega) dX7_learn_89 (fun r89 => ?_)
            obtain ⟨lr89, ur89⟩ := r89
            refine B.icmp_ne (pc := 90) (tgt := 97) dX7_learn_90 (by decide) (fun c90 => ?_) (fun c90 => ?_)
            · refine B.iconst (pc := 97) dX7_learn_97 ⟨by decide, by decide⟩ ?_
              refine B.istore_n (pc := 98) (i := 3) dX7_learn_98 rfl (by decide) ?_
              simp only [List.set_cons_zero, List.set_cons_succ]
              refine B.iinc (pc := 99) dX7_learn_99 (by decide) rfl ⟨by omega, by omega⟩ ?_
              simp only [List.set_cons_zero, List.set_cons_succ]
              refine B.goto (pc := 102) (tgt := 58) dX7_learn_102 (by decide) ?_
              refine (ih _ ?_).2.1 _ _ ⟨_, _, _, _, _, _, _, rfl, rfl, rfl, ?_⟩
              · omega
              · first
                  | (refine ⟨i1, i2, by omega, i4, by omega, fun e => ⟨(i6 (by omega)).1, (i6 (by omega)).2.1, fun i hi => ?_⟩, fun e => by omega⟩
                     by_cases ei : (i : Int) = q
                     · have e1 : 6 * w.toNat + i = (6 * w + q).toNat := by omega
                       have e2 : i = q.toNat := by omega
                       rw [e1, e2]; exact c90
                     · exact (i6 (by omega)).2.2 i (by omega))
                  | (refine ⟨i1, i2, by omega, i4, by omega, fun e => by omega, fun e hm => c90 ?_⟩
                     have h2 := hm.2.2 q.toNat (by omega)
                     rw [show 6 * w.toNat + q.toNat = (6 * w + q).toNat by omega] at h2
                     exact h2)
            · refine B.iconst (pc := 93) dX7_learn_93 ⟨by decide, by decide⟩ ?_
              refine B.goto (pc := 94) (tgt := 98) dX7_learn_94 (by decide) ?_
              refine B.istore_n (pc := 98) (i := 3) dX7_learn_98 rfl (by decide) ?_
              simp only [List.set_cons_zero, List.set_cons_succ]
              refine B.iinc (pc := 99) dX7_learn_99 (by decide) rfl ⟨by omega, by omega⟩ ?_
              simp only [List.set_cons_zero, List.set_cons_succ]
              refine B.goto (pc := 102) (tgt := 58) dX7_learn_102 (by decide) ?_
              refine (ih _ ?_).2.1 _ _ ⟨_, _, _, _, _, _, _, rfl, rfl, rfl, ?_⟩
              · omega
              · first
                  | (refine ⟨i1, i2, by omega, i4, by omega, fun e => ⟨(i6 (by omega)).1, (i6 (by omega)).2.1, fun i hi => ?_⟩, fun e => by omega⟩
                     by_cases ei : (i : Int) = q
                     · have e1 : 6 * w.toNat + i = (6 * w + q).toNat := by omega
                       have e2 : i = q.toNat := by omega
                       rw [e1, e2]; exact c90
                     · exact (i6 (by omega)).2.2 i (by omega))
                  | (refine ⟨i1, i2, by omega, i4, by omega, fun e => by omega, fun e hm => c90 ?_⟩
                     have h2 := hm.2.2 q.toNat (by omega)
                     rw [show 6 * w.toNat + q.toNat = (6 * w + q).toNat by omega] at h2
                     exact h2)
      · intro lv ws hJ
        obtain ⟨d3, d4, fo, q, m_words, m_letters, m_readSize, m_readKind, m_readCost, rfl, rfl, rfl, hi⟩ := hJ
        obtain ⟨i1, i2, i3, i4, i5, i6⟩ := hi
        refine B.iload_n (pc := 158) (i := 2) dX7_learn_158 rfl rfl ?_
        refine B.aload_n (pc := 159) (i := 0) dX7_learn_159 rfl rfl ?_
        refine B.getfield (pc := 160) 0 rfl rfl inX7z 11 (by decide) fl_X7_86 rfl dX7_learn_160 ?_
        refine B.icmp_ge (pc := 163) (tgt := 189) dX7_learn_163 (by decide) (fun c163 => ?_) (fun c163 => ?_)
        · refine B.aload_n (pc := 189) (i := 0) dX7_learn_189 rfl rfl ?_
          refine B.getfield (pc := 190) 0 rfl rfl inX7z 1 (by decide) fl_X7_13 rfl dX7_learn_190 ?_
          refine B.iload_n (pc := 193) (i := 1) dX7_learn_193 rfl rfl ?_
          refine B.aload_n (pc := 194) (i := 0) dX7_learn_194 rfl rfl ?_
          refine B.getfield (pc := 195) 0 rfl rfl inX7z 11 (by decide) fl_X7_86 rfl dX7_learn_195 ?_
          refine B.iastore (pc := 198) 2 rfl (by omega) (by omega) dX7_learn_198 ?_
          simp only [List.set_cons_zero, List.set_cons_succ]
          refine B.aload_n (pc := 199) (i := 0) dX7_learn_199 rfl rfl ?_
          refine B.getfield (pc := 200) 0 rfl rfl inX7z 2 (by decide) fl_X7_16 rfl dX7_learn_200 ?_
          refine B.iload_n (pc := 203) (i := 1) dX7_learn_203 rfl rfl ?_
          refine B.aload_n (pc := 204) (i := 0) dX7_learn_204 rfl rfl ?_
          refine B.getfield (pc := 205) 0 rfl rfl inX7z 12 (by decide) fl_X7_89 rfl dX7_learn_205 ?_
          refine B.iastore (pc := 208) 3 rfl (by omega) (by omega) dX7_learn_208 ?_
          simp only [List.set_cons_zero, List.set_cons_succ]
          refine B.aload_n (pc := 209) (i := 0) dX7_learn_209 rfl rfl ?_
          refine B.getfield (pc := 210) 0 rfl rfl inX7z 3 (by decide) fl_X7_19 rfl dX7_learn_210 ?_
          refine B.iload_n (pc := 213) (i := 1) dX7_learn_213 rfl rfl ?_
          refine B.aload_n (pc := 214) (i := 0) dX7_learn_214 rfl rfl ?_
          refine B.getfield (pc := 215) 0 rfl rfl inX7z 13 (by decide) fl_X7_96 rfl dX7_learn_215 ?_
          refine B.iastore (pc := 218) 4 rfl (by omega) (by omega) dX7_learn_218 ?_
          simp only [List.set_cons_zero, List.set_cons_succ]
          refine B.aload_n (pc := 219) (i := 0) dX7_learn_219 rfl rfl ?_
          refine B.iconst (pc := 220) dX7_learn_220 ⟨by decide, by decide⟩ ?_
          refine B.putfield (pc := 221) 0 rfl rfl inX7z tyX7 tyX7_ok nmX7 9 (by decide) fl_X7_78 rfl rfl rfl (Nat.le_of_ble_eq_true rfl) dX7_learn_221 ?_
          simp only [List.set_cons_zero, List.set_cons_succ]
          refine B.iload_n (pc := 224) (i := 1) dX7_learn_224 rfl rfl ?_
          refine B.ireturn (pc := 225) (by simp) dX7_learn_225 (Nat.le_refl _) (Nat.le_refl _) (fun rz rw => ⟨_, _, _, _, _, _, _, _, _, rfl, ?_⟩)
          subst ewd0
          have hqs : q = m_readSize := by omega
          rcases i4 with ⟨e1, e2, e3⟩ | ⟨e1, e2, e3, e4⟩
          · refine ⟨⟨?_, h2, by omega, h4, h5⟩, _, _, _, _, i2, Or.inr ⟨rfl, Or.inr (Or.inr ⟨fo.toNat, by omega, by omega, by rw [← ele0]; exact e3, e1, fun v hv => ⟨?_, ?_, fun hne => zup_ne hne, fun i hi => ?_⟩, zup_eq⟩), fun q => by omega, fun _ => rfl⟩⟩
            · rw [e1]; exact DI.set h1 (by omega) (by omega) (by omega) (by omega) (by omega)
            · by_cases e : v = fo.toNat
              · rw [e, zup_eq]; exact e3.1.symm
              · exact zup_ne e
            · by_cases e : v = fo.toNat
              · rw [e, zup_eq]; exact e3.2.1.symm
              · exact zup_ne e
            · rw [← ele0]
              by_cases e : v = fo.toNat ∧ (i : Int) < q
              · rw [e.1, i6 i e.2, e3.2.2 i (by omega)]
              · exact i5 _ (by omega)
          · refine ⟨⟨?_, h2, by omega, h4, h5⟩, _, _, _, _, i2, Or.inr ⟨rfl, Or.inr (Or.inl ⟨e2, by omega, by rw [← ele0]; exact e4, e1, fun v hv => ⟨zup_ne (by omega), zup_ne (by omega), zup_ne (by omega), fun i hi => ?_⟩, by rw [e2]; exact zup_eq, by rw [e2]; exact zup_eq, by rw [e2]; exact zup_eq, fun i hi => ?_⟩), fun q => by omega, fun _ => rfl⟩⟩
            · rw [e1, e2]; exact DI.add h1 e3 (by omega) (by omega) (by omega)
            · rw [← ele0]; exact i5 _ (by omega)
            · rw [← e2]; exact i6 i (by omega)
        · refine B.aload_n (pc := 166) (i := 0) dX7_learn_166 rfl rfl ?_
          refine B.getfield (pc := 167) 0 rfl rfl inX7z 0 (by decide) fl_X7_7 rfl dX7_learn_167 ?_
          refine B.bipush (pc := 170) dX7_learn_170 ⟨by decide, by decide⟩ ?_
          refine B.iload_n (pc := 172) (i := 1) dX7_learn_172 rfl rfl ?_
          refine B.imul (pc := 173) dX7_learn_173 ⟨by omega, by omega⟩ ?_
          refine B.iload_n (pc := 174) (i := 2) dX7_learn_174 rfl rfl ?_
          refine B.iadd (pc := 175) dX7_learn_175 ⟨by omega, by omega⟩ ?_
          refine B.aload_n (pc := 176) (i := 0) dX7_learn_176 rfl rfl ?_
          refine B.getfield (pc := 177) 0 rfl rfl inX7z 10 (by decide) fl_X7_31 rfl dX7_learn_177 ?_
          refine B.iload_n (pc := 180) (i := 2) dX7_learn_180 rfl rfl ?_
          refine B.iaload (pc := 181) 8 rfl (by omega) (by omega) dX7_learn_181 (fun r181 => ?_)
          obtain ⟨lr181, ur181⟩ := r181
          refine B.iastore (pc := 182) 1 rfl (by omega) (by omega) dX7_learn_182 ?_
          simp only [List.set_cons_zero, List.set_cons_succ]
          refine B.iinc (pc := 183) dX7_learn_183 (by decide) rfl ⟨by omega, by omega⟩ ?_
          simp only [List.set_cons_zero, List.set_cons_succ]
          refine B.goto (pc := 186) (tgt := 158) dX7_learn_186 (by decide) ?_
          refine (ih _ ?_).2.2 _ _ ⟨_, _, _, _, _, _, _, _, _, rfl, rfl, rfl, ?_⟩
          · omega
          · refine ⟨i1, i2, by omega, i4, fun j hj => ?_, fun i hi => ?_⟩
            · rw [zup_ne (by omega)]; exact i5 j (by omega)
            · by_cases e : (i : Int) = q
              · rw [show 6 * fo.toNat + i = (6 * fo + q).toNat by omega, zup_eq, show i = q.toNat by omega]
              · rw [zup_ne (by omega)]; exact i6 i (by omega)
  show Z 0 0 0 [some (.inr (some m_a)), none, none, none, none] [] _
  refine B.aload_n (pc := 0) (i := 0) dX7_learn_0 rfl rfl ?_
  refine B.callVi (pc := 1) 0 (mX7_wordFault hE _ _ _ _ _ _ _ _ _ _ _ _ _ _ _ _ _ _ _ _ _ _ _ _ _ _ _ _ _ _ _ _ _ _ _ _ _ _ _ _ _ _ _ _ _ _ _ _ _ _) 0 rfl rfl ml_X7_99 im_X7_wordFault se_X7_wordFault it_X7 co_X7_wordFault (by decide +kernel) rfl rfl rfl ⟨by decide, by decide⟩ ⟨by decide, by decide⟩ [0, 1, 2, 3, 4, 5, 6, 7, 8, 9, 10, 11, 12, 13, 14, 15, 16, 17, 18, 19, 20, 21] rfl rfl rfl (Nat.le_of_ble_eq_true rfl) dX7_learn_1 (fun _ => by omega) (fun zk1 uk1 rzk1 ruk1 rak1 hqk1 => ?_)
  obtain ⟨lzk1, uzk1⟩ := rzk1
  obtain ⟨m_readSize_k1, m_readKind_k1, m_readCost_k1, rfl, hk1⟩ := hqk1
  simp only [zput, List.set_cons_zero, List.set_cons_succ, List.append_nil, Nat.add_zero]
  refine B.if_lt (pc := 4) (tgt := 10) dX7_learn_4 (by decide) (fun c4 => ?_) (fun c4 => ?_)
  · refine B.bipush (pc := 10) dX7_learn_10 ⟨by decide, by decide⟩ ?_
    refine B.istore_n (pc := 12) (i := 1) dX7_learn_12 rfl (by decide) ?_
    simp only [List.set_cons_zero, List.set_cons_succ]
    refine B.iconst (pc := 13) dX7_learn_13 ⟨by decide, by decide⟩ ?_
    refine B.istore_n (pc := 14) (i := 2) dX7_learn_14 rfl (by decide) ?_
    simp only [List.set_cons_zero, List.set_cons_succ]
    refine (key _).1 _ _ ⟨_, _, _, _, _, _, _, rfl, rfl, rfl, ?_⟩
    have ez : zk1 = -6 := hk1.2.2 (by omega)
    rw [ez] at hk1
    exact ⟨hk1.2.1 (by omega), hk1.1, by omega, Or.inl ⟨rfl, fun v hv => by omega⟩⟩
  · refine B.bipush (pc := 7) dX7_learn_7 ⟨by decide, by decide⟩ ?_
    refine B.ireturn (pc := 9) (by simp) dX7_learn_9 (Nat.le_refl _) (Nat.le_refl _) (fun rz rw => ⟨_, _, _, _, _, _, _, _, _, rfl, ?_⟩)
    exact ⟨hP, _, _, _, _, hk1.1, Or.inl ⟨by omega, rfl, rfl, rfl, rfl, rfl, rfl, rfl⟩⟩
set_option maxHeartbeats 4000000 in
set_option maxRecDepth 100000 in
theorem mX7_forget {l : Launch} {D : va_G} {k : zK} {E : zE} (hE : zEok E) (m_a m_letters_a m_size_a m_kind_a m_cost_a m_joins_a m_rules_a m_line_a m_pad_a m_place_a m_length_a m_sort_a m_price_a m_of_a m_begins_a m_rowCost_a m_rowNext_a m_rows_a m_ahead_a m_waysTo_a m_image_a m_isKept_a : Nat) (m_words m_long1 m_signs m_readSize m_readKind m_readCost m_many w : Int) (m_letters m_size m_kind m_cost m_joins m_rules m_line m_pad m_place m_length m_sort m_price m_of m_begins m_rowCost m_rowNext m_rows m_ahead m_waysTo m_image m_isKept : Nat → Int) : zMi l D k E yX7_forget cX7_forget 4 .int { frames := 1, cells := 0, slots := 0, locals := 22 } 0 0 [.inr (some m_a), .inl w] [(m_a, .inr (.inr (7, [.inr (some m_letters_a), .inr (some m_size_a), .inr (some m_kind_a), .inr (some m_cost_a), .inl m_words, .inr (some m_joins_a), .inr (some m_rules_a), .inr (some m_line_a), .inl m_long1, .inl m_signs, .inr (some m_pad_a), .inl m_readSize, .inl m_readKind, .inl m_readCost, .inr (some m_place_a), .inr (some m_length_a), .inr (some m_sort_a), .inr (some m_price_a), .inr (some m_of_a), .inr (some m_begins_a), .inl m_many, .inr (some m_rowCost_a), .inr (some m_rowNext_a), .inr (some m_rows_a), .inr (some m_ahead_a), .inr (some m_waysTo_a), .inr (some m_image_a), .inr (some m_isKept_a)]))), (m_letters_a, .inl (false, 96, m_letters)), (m_size_a, .inl (false, 16, m_size)), (m_kind_a, .inl (false, 16, m_kind)), (m_cost_a, .inl (false, 16, m_cost)), (m_joins_a, .inl (false, 25, m_joins)), (m_rules_a, .inl (false, 4, m_rules)), (m_line_a, .inl (false, 24, m_line)), (m_pad_a, .inl (false, 40, m_pad)), (m_place_a, .inl (false, 480, m_place)), (m_length_a, .inl (false, 480, m_length)), (m_sort_a, .inl (false, 480, m_sort)), (m_price_a, .inl (false, 480, m_price)), (m_of_a, .inl (false, 480, m_of)), (m_begins_a, .inl (false, 26, m_begins)), (m_rowCost_a, .inl (false, 5760, m_rowCost)), (m_rowNext_a, .inl (false, 5760, m_rowNext)), (m_rows_a, .inl (false, 480, m_rows)), (m_ahead_a, .inl (false, 480, m_ahead)), (m_waysTo_a, .inl (false, 26, m_waysTo)), (m_image_a, .inl (false, 460, m_image)), (m_isKept_a, .inl (true, 2, m_isKept))] (MI m_words m_size m_kind m_cost m_joins m_rules m_long1 m_signs m_image m_isKept) (fun z u => ∃ (m_words' : Int) (m_letters' : Nat → Int) (m_size' : Nat → Int) (m_kind' : Nat → Int) (m_cost' : Nat → Int), u = [(m_a, .inr (.inr (7, [.inr (some m_letters_a), .inr (some m_size_a), .inr (some m_kind_a), .inr (some m_cost_a), .inl m_words', .inr (some m_joins_a), .inr (some m_rules_a), .inr (some m_line_a), .inl m_long1, .inl m_signs, .inr (some m_pad_a), .inl m_readSize, .inl m_readKind, .inl m_readCost, .inr (some m_place_a), .inr (some m_length_a), .inr (some m_sort_a), .inr (some m_price_a), .inr (some m_of_a), .inr (some m_begins_a), .inl m_many, .inr (some m_rowCost_a), .inr (some m_rowNext_a), .inr (some m_rows_a), .inr (some m_ahead_a), .inr (some m_waysTo_a), .inr (some m_image_a), .inr (some m_isKept_a)]))), (m_letters_a, .inl (false, 96, m_letters')), (m_size_a, .inl (false, 16, m_size')), (m_kind_a, .inl (false, 16, m_kind')), (m_cost_a, .inl (false, 16, m_cost')), (m_joins_a, .inl (false, 25, m_joins)), (m_rules_a, .inl (false, 4, m_rules)), (m_line_a, .inl (false, 24, m_line)), (m_pad_a, .inl (false, 40, m_pad)), (m_place_a, .inl (false, 480, m_place)), (m_length_a, .inl (false, 480, m_length)), (m_sort_a, .inl (false, 480, m_sort)), (m_price_a, .inl (false, 480, m_price)), (m_of_a, .inl (false, 480, m_of)), (m_begins_a, .inl (false, 26, m_begins)), (m_rowCost_a, .inl (false, 5760, m_rowCost)), (m_rowNext_a, .inl (false, 5760, m_rowNext)), (m_rows_a, .inl (false, 480, m_rows)), (m_ahead_a, .inl (false, 480, m_ahead)), (m_waysTo_a, .inl (false, 26, m_waysTo)), (m_image_a, .inl (false, 460, m_image)), (m_isKept_a, .inl (true, 2, m_isKept))] ∧ (MI m_words' m_size' m_kind' m_cost' m_joins m_rules m_long1 m_signs m_image m_isKept ∧ zFG w z m_words m_letters m_size m_kind m_cost m_words' m_letters' m_size' m_kind' m_cost')) := by
  refine zMi.of RX7 hE (by decide) rfl (by simp) (fun _ _ _ _ => rfl) ?_
  intro Z hP hav hwr B
  obtain ⟨l_w, u_w⟩ : zR w := hav (.inl w) (by simp)
  obtain ⟨l_m_words, u_m_words⟩ : zR m_words := zWr_at hwr (i := 0) rfl (.inl m_words) (by simp)
  obtain ⟨l_m_long1, u_m_long1⟩ : zR m_long1 := zWr_at hwr (i := 0) rfl (.inl m_long1) (by simp)
  obtain ⟨l_m_signs, u_m_signs⟩ : zR m_signs := zWr_at hwr (i := 0) rfl (.inl m_signs) (by simp)
  obtain ⟨l_m_readSize, u_m_readSize⟩ : zR m_readSize := zWr_at hwr (i := 0) rfl (.inl m_readSize) (by simp)
  obtain ⟨l_m_readKind, u_m_readKind⟩ : zR m_readKind := zWr_at hwr (i := 0) rfl (.inl m_readKind) (by simp)
  obtain ⟨l_m_readCost, u_m_readCost⟩ : zR m_readCost := zWr_at hwr (i := 0) rfl (.inl m_readCost) (by simp)
  obtain ⟨l_m_many, u_m_many⟩ : zR m_many := zWr_at hwr (i := 0) rfl (.inl m_many) (by simp)
  obtain ⟨h1, h2, h3, h4, h5⟩ := id hP
  obtain ⟨h1a, h1b, h1c⟩ := id h1
  obtain ⟨h2a, h2b⟩ := id h2
  obtain ⟨wd0, ewd0⟩ : ∃ x, x = m_words := ⟨_, rfl⟩
  obtain ⟨le0, ele0⟩ : ∃ x, x = m_letters := ⟨_, rfl⟩
  obtain ⟨sz0, esz0⟩ : ∃ x, x = m_size := ⟨_, rfl⟩
  obtain ⟨kd0, ekd0⟩ : ∃ x, x = m_kind := ⟨_, rfl⟩
  obtain ⟨co0, eco0⟩ : ∃ x, x = m_cost := ⟨_, rfl⟩
  have key : ∀ mu_ : Nat, (∀ (lv : List (Option zV)) (ws : zW), (∃ (d3 : Option zV) (q : Int) (m_words : Int) (m_letters : Nat → Int) (m_size : Nat → Int) (m_kind : Nat → Int) (m_cost : Nat → Int), lv = [some (.inr (some m_a)), some (.inl w), some (.inl q), d3] ∧ ws = [(m_a, .inr (.inr (7, [.inr (some m_letters_a), .inr (some m_size_a), .inr (some m_kind_a), .inr (some m_cost_a), .inl m_words, .inr (some m_joins_a), .inr (some m_rules_a), .inr (some m_line_a), .inl m_long1, .inl m_signs, .inr (some m_pad_a), .inl m_readSize, .inl m_readKind, .inl m_readCost, .inr (some m_place_a), .inr (some m_length_a), .inr (some m_sort_a), .inr (some m_price_a), .inr (some m_of_a), .inr (some m_begins_a), .inl m_many, .inr (some m_rowCost_a), .inr (some m_rowNext_a), .inr (some m_rows_a), .inr (some m_ahead_a), .inr (some m_waysTo_a), .inr (some m_image_a), .inr (some m_isKept_a)]))), (m_letters_a, .inl (false, 96, m_letters)), (m_size_a, .inl (false, 16, m_size)), (m_kind_a, .inl (false, 16, m_kind)), (m_cost_a, .inl (false, 16, m_cost)), (m_joins_a, .inl (false, 25, m_joins)), (m_rules_a, .inl (false, 4, m_rules)), (m_line_a, .inl (false, 24, m_line)), (m_pad_a, .inl (false, 40, m_pad)), (m_place_a, .inl (false, 480, m_place)), (m_length_a, .inl (false, 480, m_length)), (m_sort_a, .inl (false, 480, m_sort)), (m_price_a, .inl (false, 480, m_price)), (m_of_a, .inl (false, 480, m_of)), (m_begins_a, .inl (false, 26, m_begins)), (m_rowCost_a, .inl (false, 5760, m_rowCost)), (m_rowNext_a, .inl (false, 5760, m_rowNext)), (m_rows_a, .inl (false, 480, m_rows)), (m_ahead_a, .inl (false, 480, m_ahead)), (m_waysTo_a, .inl (false, 26, m_waysTo)), (m_image_a, .inl (false, 460, m_image)), (m_isKept_a, .inl (true, 2, m_isKept))] ∧ mu_ = (m_words - q).toNat * 10 + 9 ∧ (DI (m_words + 1) m_size m_kind m_cost ∧ (0 ≤ q ∧ 0 ≤ m_words ∧ 0 ≤ w ∧ w ≤ q ∧ w ≤ m_words ∧ m_words = wd0 - 1) ∧ (∀ v : Nat, (v : Int) < q → m_size v = sz0 (sh w.toNat v) ∧ m_kind v = kd0 (sh w.toNat v) ∧ m_cost v = co0 (sh w.toNat v) ∧ ∀ i : Nat, i < 6 → m_letters (6 * v + i) = le0 (6 * sh w.toNat v + i)) ∧ (∀ v : Nat, q ≤ (v : Int) → m_size v = sz0 v ∧ m_kind v = kd0 v ∧ m_cost v = co0 v) ∧ (∀ j : Nat, 6 * q ≤ (j : Int) → m_letters j = le0 j))) → Z 0 0 28 lv [] ws) ∧ (∀ (lv : List (Option zV)) (ws : zW), (∃ (q : Int) (s : Int) (m_words : Int) (m_letters : Nat → Int) (m_size : Nat → Int) (m_kind : Nat → Int) (m_cost : Nat → Int), lv = [some (.inr (some m_a)), some (.inl w), some (.inl q), some (.inl s)] ∧ ws = [(m_a, .inr (.inr (7, [.inr (some m_letters_a), .inr (some m_size_a), .inr (some m_kind_a), .inr (some m_cost_a), .inl m_words, .inr (some m_joins_a), .inr (some m_rules_a), .inr (some m_line_a), .inl m_long1, .inl m_signs, .inr (some m_pad_a), .inl m_readSize, .inl m_readKind, .inl m_readCost, .inr (some m_place_a), .inr (some m_length_a), .inr (some m_sort_a), .inr (some m_price_a), .inr (some m_of_a), .inr (some m_begins_a), .inl m_many, .inr (some m_rowCost_a), .inr (some m_rowNext_a), .inr (some m_rows_a), .inr (some m_ahead_a), .inr (some m_waysTo_a), .inr (some m_image_a), .inr (some m_isKept_a)]))), (m_letters_a, .inl (false, 96, m_letters)), (m_size_a, .inl (false, 16, m_size)), (m_kind_a, .inl (false, 16, m_kind)), (m_cost_a, .inl (false, 16, m_cost)), (m_joins_a, .inl (false, 25, m_joins)), (m_rules_a, .inl (false, 4, m_rules)), (m_line_a, .inl (false, 24, m_line)), (m_pad_a, .inl (false, 40, m_pad)), (m_place_a, .inl (false, 480, m_place)), (m_length_a, .inl (false, 480, m_length)), (m_sort_a, .inl (false, 480, m_sort)), (m_price_a, .inl (false, 480, m_price)), (m_of_a, .inl (false, 480, m_of)), (m_begins_a, .inl (false, 26, m_begins)), (m_rowCost_a, .inl (false, 5760, m_rowCost)), (m_rowNext_a, .inl (false, 5760, m_rowNext)), (m_rows_a, .inl (false, 480, m_rows)), (m_ahead_a, .inl (false, 480, m_ahead)), (m_waysTo_a, .inl (false, 26, m_waysTo)), (m_image_a, .inl (false, 460, m_image)), (m_isKept_a, .inl (true, 2, m_isKept))] ∧ mu_ = (m_words - q).toNat * 10 + (6 - s).toNat ∧ (DI (m_words + 1) m_size m_kind m_cost ∧ (0 ≤ q ∧ q < m_words ∧ 0 ≤ s ∧ s ≤ 6 ∧ 0 ≤ w ∧ w ≤ q ∧ m_words = wd0 - 1) ∧ (∀ v : Nat, (v : Int) < q → m_size v = sz0 (sh w.toNat v) ∧ m_kind v = kd0 (sh w.toNat v) ∧ m_cost v = co0 (sh w.toNat v) ∧ ∀ i : Nat, i < 6 → m_letters (6 * v + i) = le0 (6 * sh w.toNat v + i)) ∧ (∀ v : Nat, q ≤ (v : Int) → m_size v = sz0 v ∧ m_kind v = kd0 v ∧ m_cost v = co0 v) ∧ (∀ i : Nat, (i : Int) < s → m_letters (6 * q.toNat + i) = le0 (6 * q.toNat + 6 + i)) ∧ (∀ j : Nat, 6 * q + s ≤ (j : Int) → m_letters j = le0 j))) → Z 0 0 38 lv [] ws) := by
    intro mu_
    induction mu_ using Nat.strongRecOn with
    | _ mu_ ih =>
      refine ⟨?_, ?_⟩
      · intro lv ws hJ
        obtain ⟨d3, q, m_words, m_letters, m_size, m_kind, m_cost, rfl, rfl, rfl, hi⟩ := hJ
        obtain ⟨i1, i2, i3, i4, i5⟩ := hi
        obtain ⟨i1a, i1b, i1c⟩ := id i1
        refine B.iload_n (pc := 28) (i := 2) dX7_forget_28 rfl rfl ?_
        refine B.aload_n (pc := 29) (i := 0) dX7_forget_29 rfl rfl ?_
        refine B.getfield (pc := 30) 0 rfl rfl inX7z 4 (by decide) fl_X7_106 rfl dX7_forget_30 ?_
        refine B.icmp_ge (pc := 33) (tgt := 123) dX7_forget_33 (by decide) (fun c33 => ?_) (fun c33 => ?_)
        · refine B.aload_n (pc := 123) (i := 0) dX7_forget_123 rfl rfl ?_
          refine B.getfield (pc := 124) 0 rfl rfl inX7z 4 (by decide) fl_X7_106 rfl dX7_forget_124 ?_
          refine B.ireturn (pc := 127) (by simp) dX7_forget_127 (Nat.le_refl _) (Nat.le_refl _) (fun rz rw => ⟨_, _, _, _, _, rfl, ?_⟩)
          subst ewd0; subst ele0; subst esz0; subst ekd0; subst eco0
          exact ⟨⟨i1.less (by omega) (by omega), h2, h3, h4, h5⟩, Or.inr ⟨by omega, by omega, by omega, by omega, fun v hv => i3 v (by omega)⟩⟩
        · refine B.iconst (pc := 36) dX7_forget_36 ⟨by decide, by decide⟩ ?_
          refine B.istore_n (pc := 37) (i := 3) dX7_forget_37 rfl (by decide) ?_
          simp only [List.set_cons_zero, List.set_cons_succ]
          refine (ih _ ?_).2 _ _ ⟨_, _, _, _, _, _, _, rfl, rfl, rfl, ?_⟩
          · omega
          · exact ⟨i1, by omega, i3, i4, fun i hi => by omega, fun j hj => i5 j (by omega)⟩
      · intro lv ws hJ
        obtain ⟨q, s, m_words, m_letters, m_size, m_kind, m_cost, rfl, rfl, rfl, hi⟩ := hJ
        obtain ⟨i1, i2, i3, i4, i5, i6⟩ := hi
        obtain ⟨i1a, i1b, i1c⟩ := id i1
        have hq := i1.at (x := q + 1) (by omega) (by omega)
        refine B.iload_n (pc := 38) (i := 3) dX7_forget_38 rfl rfl ?_
        refine B.bipush (pc := 39) dX7_forget_39 ⟨by decide, by decide⟩ ?_
        refine B.icmp_ge (pc := 41) (tgt := 75) dX7_forget_41 (by decide) (fun c41 => ?_) (fun c41 => ?_)
        · refine B.aload_n (pc := 75) (i := 0) dX7_forget_75 rfl rfl ?_
          refine B.getfield (pc := 76) 0 rfl rfl inX7z 1 (by decide) fl_X7_13 rfl dX7_forget_76 ?_
          refine B.iload_n (pc := 79) (i := 2) dX7_forget_79 rfl rfl ?_
          refine B.aload_n (pc := 80) (i := 0) dX7_forget_80 rfl rfl ?_
          refine B.getfield (pc := 81) 0 rfl rfl inX7z 1 (by decide) fl_X7_13 rfl dX7_forget_81 ?_
          refine B.iload_n (pc := 84) (i := 2) dX7_forget_84 rfl rfl ?_
          refine B.iconst (pc := 85) dX7_forget_85 ⟨by decide, by decide⟩ ?_
          refine B.iadd (pc := 86) dX7_forget_86 ⟨by omega, by omega⟩ ?_
          refine B.iaload (pc := 87) 2 rfl (by omega) (by omega) dX7_forget_87 (fun r87 => ?_)
          obtain ⟨lr87, ur87⟩ := r87
          refine B.iastore (pc := 88) 2 rfl (by omega) (by omega) dX7_forget_88 ?_
          simp only [List.set_cons_zero, List.set_cons_succ]
          refine B.aload_n (pc := 89) (i := 0) dX7_forget_89 rfl rfl ?_
          refine B.getfield (pc := 90) 0 rfl rfl inX7z 2 (by decide) fl_X7_16 rfl dX7_forget_90 ?_
          refine B.iload_n (pc := 93) (i := 2) dX7_forget_93 rfl rfl ?_
          refine B.aload_n (pc := 94) (i := 0) dX7_forget_94 rfl rfl ?_
          refine B.getfield (pc := 95) 0 rfl rfl inX7z 2 (by decide) fl_X7_16 rfl dX7_forget_95 ?_
          refine B.iload_n (pc := 98) (i := 2) dX7_forget_98 rfl rfl ?_
          refine B.iconst (pc := 99) dX7_forget_99 ⟨by decide, by decide⟩ ?_
          refine B.iadd (pc := 100) dX7_forget_100 ⟨by omega, by omega⟩ ?_
          refine B.iaload (pc := 101) 3 rfl (by omega) (by omega) dX7_forget_101 (fun r101 => ?_)
          obtain ⟨lr101, ur101⟩ := r101
          refine B.iastore (pc := 102) 3 rfl (by omega) (by omega) dX7_forget_102 ?_
          simp only [List.set_cons_zero, List.set_cons_succ]
          refine B.aload_n (pc := 103) (i := 0) dX7_forget_103 rfl rfl ?_
          refine B.getfield (pc := 104) 0 rfl rfl inX7z 3 (by decide) fl_X7_19 rfl dX7_forget_104 ?_
          refine B.iload_n (pc := 107) (i := 2) dX7_forget_107 rfl rfl ?_
          refine B.aload_n (pc := 108) (i := 0) dX7_forget_108 rfl rfl ?_
          refine B.getfield (pc := 109) 0 rfl rfl inX7z 3 (by decide) fl_X7_19 rfl dX7_forget_109 ?_
          refine B.iload_n (pc := 112) (i := 2) dX7_forget_112 rfl rfl ?_
          refine B.iconst (pc := 113) dX7_forget_113 ⟨by decide, by decide⟩ ?_
          refine B.iadd (pc := 114) dX7_forget_114 ⟨by omega, by omega⟩ ?_
          refine B.iaload (pc := 115) 4 rfl (by omega) (by omega) dX7_forget_115 (fun r115 => ?_)
          obtain ⟨lr115, ur115⟩ := r115
          refine B.iastore (pc := 116) 4 rfl (by omega) (by omega) dX7_forget_116 ?_
          simp only [List.set_cons_zero, List.set_cons_succ]
          refine B.iinc (pc := 117) dX7_forget_117 (by decide) rfl ⟨by omega, by omega⟩ ?_
          simp only [List.set_cons_zero, List.set_cons_succ]
          refine B.goto (pc := 120) (tgt := 28) dX7_forget_120 (by decide) ?_
          refine (ih _ ?_).1 _ _ ⟨_, _, _, _, _, _, _, rfl, rfl, rfl, ?_⟩
          · omega
          · have hs : s = 6 := by omega
            subst hs
            have a4 := i4 (q.toNat + 1) (by omega)
            rw [show q.toNat + 1 = (q + 1).toNat by omega] at a4
            refine ⟨DI.set i1 (by omega) (by omega) (by omega) (by omega) (by omega), by omega, fun v hv => ?_, fun v hv => ?_, fun j hj => i6 j (by omega)⟩
            · by_cases e : v = q.toNat
              · subst e
                have es : sh w.toNat q.toNat = (q + 1).toNat := by rw [sh_hi (by omega)]; omega
                rw [zup_eq, zup_eq, zup_eq, es]
                refine ⟨a4.1, a4.2.1, a4.2.2, fun i hi => ?_⟩
                rw [i5 i (by omega), show 6 * q.toNat + 6 + i = 6 * (q + 1).toNat + i by omega]
              · obtain ⟨b1, b2, b3, b4⟩ := i3 v (by omega)
                rw [zup_ne e, zup_ne e, zup_ne e]
                exact ⟨b1, b2, b3, b4⟩
            · rw [zup_ne (by omega), zup_ne (by omega), zup_ne (by omega)]
              exact i4 v (by omega)
        · refine B.aload_n (pc := 44) (i := 0) dX7_forget_44 rfl rfl ?_
          refine B.getfield (pc := 45) 0 rfl rfl inX7z 0 (by decide) fl_X7_7 rfl dX7_forget_45 ?_
          refine B.bipush (pc := 48) dX7_forget_48 ⟨by decide, by decide⟩ ?_
          refine B.iload_n (pc := 50) (i := 2) dX7_forget_50 rfl rfl ?_
          refine B.imul (pc := 51) dX7_forget_51 ⟨by omega, by omega⟩ ?_
          refine B.iload_n (pc := 52) (i := 3) dX7_forget_52 rfl rfl ?_
          refine B.iadd (pc := 53) dX7_forget_53 ⟨by omega, by omega⟩ ?_
          refine B.aload_n (pc := 54) (i := 0) dX7_forget_54 rfl rfl ?_
          refine B.getfield (pc := 55) 0 rfl rfl inX7z 0 (by decide) fl_X7_7 rfl dX7_forget_55 ?_
          refine B.bipush (pc := 58) dX7_forget_58 ⟨by decide, by decide⟩ ?_
          refine B.iload_n (pc := 60) (i := 2) dX7_forget_60 rfl rfl ?_
          refine B.imul (pc := 61) dX7_forget_61 ⟨by omega, by omega⟩ ?_
          refine B.bipush (pc := 62) dX7_forget_62 ⟨by decide, by decide⟩ ?_
          refine B.iadd (pc := 64) dX7_forget_64 ⟨by omega, by omega⟩ ?_
          refine B.iload_n (pc := 65) (i := 3) dX7_forget_65 rfl rfl ?_
          refine B.iadd (pc := 66) dX7_forget_66 ⟨by omega, by omega⟩ ?_
          refine B.iaload (pc := 67) 1 rfl (by omega) (by omega) dX7_forget_67 (fun r67 => ?_)
          obtain ⟨lr67, ur67⟩ := r67
          refine B.iastore (pc := 68) 1 rfl (by omega) (by omega) dX7_forget_68 ?_
          simp only [List.set_cons_zero, List.set_cons_succ]
          refine B.iinc (pc := 69) dX7_forget_69 (by decide) rfl ⟨by omega, by omega⟩ ?_
          simp only [List.set_cons_zero, List.set_cons_succ]
          refine B.goto (pc := 72) (tgt := 38) dX7_forget_72 (by decide) ?_
          refine (ih _ ?_).2 _ _ ⟨_, _, _, _, _, _, _, rfl, rfl, rfl, ?_⟩
          · omega
          · refine ⟨i1, by omega, fun v hv => ?_, i4, fun i hi => ?_, fun j hj => ?_⟩
            · obtain ⟨b1, b2, b3, b4⟩ := i3 v hv
              exact ⟨b1, b2, b3, fun i hi => by rw [zup_ne (by omega)]; exact b4 i hi⟩
            · by_cases e : (i : Int) = s
              · rw [show 6 * q.toNat + i = (6 * q + s).toNat by omega, zup_eq, i6 _ (by omega)]; congr 1; omega
              · rw [zup_ne (by omega)]; exact i5 i (by omega)
            · rw [zup_ne (by omega)]; exact i6 j (by omega)
  show Z 0 0 0 [some (.inr (some m_a)), some (.inl w), none, none] [] _
  refine B.iload_n (pc := 0) (i := 1) dX7_forget_0 rfl rfl ?_
  refine B.iconst (pc := 1) dX7_forget_1 ⟨by decide, by decide⟩ ?_
  refine B.aload_n (pc := 2) (i := 0) dX7_forget_2 rfl rfl ?_
  refine B.getfield (pc := 3) 0 rfl rfl inX7z 4 (by decide) fl_X7_106 rfl dX7_forget_3 ?_
  refine B.iconst (pc := 6) dX7_forget_6 ⟨by decide, by decide⟩ ?_
  refine B.isub (pc := 7) dX7_forget_7 ⟨by omega, by omega⟩ ?_
  refine B.callSi (pc := 8) 3 (mX7_in hE _ _ _) ml_X7_74 sm_X7_in it_X7 co_X7_in (by decide +kernel) rfl rfl rfl ⟨by decide, by decide⟩ ⟨by decide, by decide⟩ [] rfl rfl rfl (Nat.le_of_ble_eq_true rfl) dX7_forget_8 (fun _ => trivial) (fun zk8 uk8 rzk8 ruk8 rak8 hqk8 => ?_)
  obtain ⟨lzk8, uzk8⟩ := rzk8
  obtain ⟨rfl, hk8⟩ := hqk8
  simp only [zput, List.append_nil, Nat.add_zero]
  refine B.if_ne (pc := 11) (tgt := 16) dX7_forget_11 (by decide) (fun c11 => ?_) (fun c11 => ?_)
  · refine B.aload_n (pc := 16) (i := 0) dX7_forget_16 rfl rfl ?_
    refine B.dup (pc := 17) dX7_forget_17 ?_
    refine B.getfield (pc := 18) 0 rfl rfl inX7z 4 (by decide) fl_X7_106 rfl dX7_forget_18 ?_
    refine B.iconst (pc := 21) dX7_forget_21 ⟨by decide, by decide⟩ ?_
    refine B.isub (pc := 22) dX7_forget_22 ⟨by omega, by omega⟩ ?_
    refine B.putfield (pc := 23) 0 rfl rfl inX7z tyX7 tyX7_ok nmX7 4 (by decide) fl_X7_106 rfl rfl rfl (Nat.le_of_ble_eq_true rfl) dX7_forget_23 ?_
    simp only [List.set_cons_zero, List.set_cons_succ]
    refine B.iload_n (pc := 26) (i := 1) dX7_forget_26 rfl rfl ?_
    refine B.istore_n (pc := 27) (i := 2) dX7_forget_27 rfl (by decide) ?_
    simp only [List.set_cons_zero, List.set_cons_succ]
    refine (key _).1 _ _ ⟨_, _, _, _, _, _, _, rfl, rfl, rfl, ?_⟩
    refine ⟨by rw [show m_words - 1 + 1 = m_words by omega]; exact h1, by omega, fun v hv => ?_, fun v hv => by rw [esz0, ekd0, eco0]; exact ⟨rfl, rfl, rfl⟩, fun j hj => by rw [ele0]⟩
    rw [sh_lo (by omega), esz0, ekd0, eco0, ele0]
    exact ⟨rfl, rfl, rfl, fun _ _ => rfl⟩
  · refine B.iconst (pc := 14) dX7_forget_14 ⟨by decide, by decide⟩ ?_
    refine B.ireturn (pc := 15) (by simp) dX7_forget_15 (Nat.le_refl _) (Nat.le_refl _) (fun rz rw => ⟨_, _, _, _, _, rfl, ?_⟩)
    exact ⟨hP, Or.inl ⟨by omega, rfl, rfl, rfl, rfl, rfl, rfl⟩⟩
set_option maxHeartbeats 4000000 in
set_option maxRecDepth 100000 in
theorem mX7_word {l : Launch} {D : va_G} {k : zK} {E : zE} (hE : zEok E) (m_a m_letters_a m_size_a m_kind_a m_cost_a m_joins_a m_rules_a m_line_a m_pad_a m_place_a m_length_a m_sort_a m_price_a m_of_a m_begins_a m_rowCost_a m_rowNext_a m_rows_a m_ahead_a m_waysTo_a m_image_a m_isKept_a : Nat) (m_words m_long1 m_signs m_readSize m_readKind m_readCost m_many w what : Int) (m_letters m_size m_kind m_cost m_joins m_rules m_line m_pad m_place m_length m_sort m_price m_of m_begins m_rowCost m_rowNext m_rows m_ahead m_waysTo m_image m_isKept : Nat → Int) : zMi l D k E yX7_word cX7_word 3 .int { frames := 1, cells := 0, slots := 0, locals := 22 } 0 0 [.inr (some m_a), .inl w, .inl what] [(m_a, .inr (.inr (7, [.inr (some m_letters_a), .inr (some m_size_a), .inr (some m_kind_a), .inr (some m_cost_a), .inl m_words, .inr (some m_joins_a), .inr (some m_rules_a), .inr (some m_line_a), .inl m_long1, .inl m_signs, .inr (some m_pad_a), .inl m_readSize, .inl m_readKind, .inl m_readCost, .inr (some m_place_a), .inr (some m_length_a), .inr (some m_sort_a), .inr (some m_price_a), .inr (some m_of_a), .inr (some m_begins_a), .inl m_many, .inr (some m_rowCost_a), .inr (some m_rowNext_a), .inr (some m_rows_a), .inr (some m_ahead_a), .inr (some m_waysTo_a), .inr (some m_image_a), .inr (some m_isKept_a)]))), (m_letters_a, .inl (false, 96, m_letters)), (m_size_a, .inl (false, 16, m_size)), (m_kind_a, .inl (false, 16, m_kind)), (m_cost_a, .inl (false, 16, m_cost)), (m_joins_a, .inl (false, 25, m_joins)), (m_rules_a, .inl (false, 4, m_rules)), (m_line_a, .inl (false, 24, m_line)), (m_pad_a, .inl (false, 40, m_pad)), (m_place_a, .inl (false, 480, m_place)), (m_length_a, .inl (false, 480, m_length)), (m_sort_a, .inl (false, 480, m_sort)), (m_price_a, .inl (false, 480, m_price)), (m_of_a, .inl (false, 480, m_of)), (m_begins_a, .inl (false, 26, m_begins)), (m_rowCost_a, .inl (false, 5760, m_rowCost)), (m_rowNext_a, .inl (false, 5760, m_rowNext)), (m_rows_a, .inl (false, 480, m_rows)), (m_ahead_a, .inl (false, 480, m_ahead)), (m_waysTo_a, .inl (false, 26, m_waysTo)), (m_image_a, .inl (false, 460, m_image)), (m_isKept_a, .inl (true, 2, m_isKept))] (MI m_words m_size m_kind m_cost m_joins m_rules m_long1 m_signs m_image m_isKept) (fun z u => u = [(m_a, .inr (.inr (7, [.inr (some m_letters_a), .inr (some m_size_a), .inr (some m_kind_a), .inr (some m_cost_a), .inl m_words, .inr (some m_joins_a), .inr (some m_rules_a), .inr (some m_line_a), .inl m_long1, .inl m_signs, .inr (some m_pad_a), .inl m_readSize, .inl m_readKind, .inl m_readCost, .inr (some m_place_a), .inr (some m_length_a), .inr (some m_sort_a), .inr (some m_price_a), .inr (some m_of_a), .inr (some m_begins_a), .inl m_many, .inr (some m_rowCost_a), .inr (some m_rowNext_a), .inr (some m_rows_a), .inr (some m_ahead_a), .inr (some m_waysTo_a), .inr (some m_image_a), .inr (some m_isKept_a)]))), (m_letters_a, .inl (false, 96, m_letters)), (m_size_a, .inl (false, 16, m_size)), (m_kind_a, .inl (false, 16, m_kind)), (m_cost_a, .inl (false, 16, m_cost)), (m_joins_a, .inl (false, 25, m_joins)), (m_rules_a, .inl (false, 4, m_rules)), (m_line_a, .inl (false, 24, m_line)), (m_pad_a, .inl (false, 40, m_pad)), (m_place_a, .inl (false, 480, m_place)), (m_length_a, .inl (false, 480, m_length)), (m_sort_a, .inl (false, 480, m_sort)), (m_price_a, .inl (false, 480, m_price)), (m_of_a, .inl (false, 480, m_of)), (m_begins_a, .inl (false, 26, m_begins)), (m_rowCost_a, .inl (false, 5760, m_rowCost)), (m_rowNext_a, .inl (false, 5760, m_rowNext)), (m_rows_a, .inl (false, 480, m_rows)), (m_ahead_a, .inl (false, 480, m_ahead)), (m_waysTo_a, .inl (false, 26, m_waysTo)), (m_image_a, .inl (false, 460, m_image)), (m_isKept_a, .inl (true, 2, m_isKept))] ∧ (zWS m_words m_letters m_size m_kind m_cost w what z)) := by
  refine zMi.of RX7 hE (by decide) rfl (by simp) (fun _ _ _ _ => rfl) ?_
  intro Z hP hav hwr B
  obtain ⟨l_w, u_w⟩ : zR w := hav (.inl w) (by simp)
  obtain ⟨l_what, u_what⟩ : zR what := hav (.inl what) (by simp)
  obtain ⟨l_m_words, u_m_words⟩ : zR m_words := zWr_at hwr (i := 0) rfl (.inl m_words) (by simp)
  obtain ⟨l_m_long1, u_m_long1⟩ : zR m_long1 := zWr_at hwr (i := 0) rfl (.inl m_long1) (by simp)
  obtain ⟨l_m_signs, u_m_signs⟩ : zR m_signs := zWr_at hwr (i := 0) rfl (.inl m_signs) (by simp)
  obtain ⟨l_m_readSize, u_m_readSize⟩ : zR m_readSize := zWr_at hwr (i := 0) rfl (.inl m_readSize) (by simp)
  obtain ⟨l_m_readKind, u_m_readKind⟩ : zR m_readKind := zWr_at hwr (i := 0) rfl (.inl m_readKind) (by simp)
  obtain ⟨l_m_readCost, u_m_readCost⟩ : zR m_readCost := zWr_at hwr (i := 0) rfl (.inl m_readCost) (by simp)
  obtain ⟨l_m_many, u_m_many⟩ : zR m_many := zWr_at hwr (i := 0) rfl (.inl m_many) (by simp)
  obtain ⟨h1, h2, h3, h4, h5⟩ := id hP
  obtain ⟨h1a, h1b, h1c⟩ := id h1
  obtain ⟨h2a, h2b⟩ := id h2
  show Z 0 0 0 [some (.inr (some m_a)), some (.inl w), some (.inl what)] [] _
  refine B.iload_n (pc := 0) (i := 1) dX7_word_0 rfl rfl ?_
  refine B.iconst (pc := 1) dX7_word_1 ⟨by decide, by decide⟩ ?_
  refine B.aload_n (pc := 2) (i := 0) dX7_word_2 rfl rfl ?_
  refine B.getfield (pc := 3) 0 rfl rfl inX7z 4 (by decide) fl_X7_106 rfl dX7_word_3 ?_
  refine B.iconst (pc := 6) dX7_word_6 ⟨by decide, by decide⟩ ?_
  refine B.isub (pc := 7) dX7_word_7 ⟨by omega, by omega⟩ ?_
  refine B.callSi (pc := 8) 3 (mX7_in hE _ _ _) ml_X7_74 sm_X7_in it_X7 co_X7_in (by decide +kernel) rfl rfl rfl ⟨by decide, by decide⟩ ⟨by decide, by decide⟩ [] rfl rfl rfl (Nat.le_of_ble_eq_true rfl) dX7_word_8 (fun _ => trivial) (fun zk8 uk8 rzk8 ruk8 rak8 hqk8 => ?_)
  obtain ⟨lzk8, uzk8⟩ := rzk8
  obtain ⟨rfl, hk8⟩ := hqk8
  simp only [zput, List.append_nil, Nat.add_zero]
  refine B.if_ne (pc := 11) (tgt := 16) dX7_word_11 (by decide) (fun c11 => ?_) (fun c11 => ?_)
  · refine B.iload_n (pc := 16) (i := 2) dX7_word_16 rfl rfl ?_
    refine B.if_ge (pc := 17) (tgt := 23) dX7_word_17 (by decide) (fun c17 => ?_) (fun c17 => ?_)
    · have hd := h1.at (x := w) (by omega) (by omega)
      refine B.iload_n (pc := 23) (i := 2) dX7_word_23 rfl rfl ?_
      refine zsplitE (X := fun v => Z _ _ 24 _ (.inl v :: _) _) (0) (fun e24_0 => ?_) (fun c24_0 => ?_)
      · refine B.tsIn (pc := 24) (tgt := 52) dX7_word_24 (by decide) (by decide) rfl (by decide) ?_
        refine B.aload_n (pc := 52) (i := 0) dX7_word_52 rfl rfl ?_
        refine B.getfield (pc := 53) 0 rfl rfl inX7z 1 (by decide) fl_X7_13 rfl dX7_word_53 ?_
        refine B.iload_n (pc := 56) (i := 1) dX7_word_56 rfl rfl ?_
        refine B.iaload (pc := 57) 2 rfl (by omega) (by omega) dX7_word_57 (fun r57 => ?_)
        obtain ⟨lr57, ur57⟩ := r57
        refine B.ireturn (pc := 58) (by simp) dX7_word_58 (Nat.le_refl _) (Nat.le_refl _) (fun rz rw => ⟨rfl, ?_⟩)
        refine Or.inr (Or.inr ⟨by omega, by omega, by omega, ?_⟩)
        unfold TL
        first | omega | (rw [show (6 * w + what - 3).toNat = 6 * w.toNat + (what - 3).toNat by omega]; omega)
      refine zsplitE (X := fun v => Z _ _ 24 _ (.inl v :: _) _) (1) (fun e24_1 => ?_) (fun c24_1 => ?_)
      · refine B.tsIn (pc := 24) (tgt := 59) dX7_word_24 (by decide) (by decide) rfl (by decide) ?_
        refine B.aload_n (pc := 59) (i := 0) dX7_word_59 rfl rfl ?_
        refine B.getfield (pc := 60) 0 rfl rfl inX7z 2 (by decide) fl_X7_16 rfl dX7_word_60 ?_
        refine B.iload_n (pc := 63) (i := 1) dX7_word_63 rfl rfl ?_
        refine B.iaload (pc := 64) 3 rfl (by omega) (by omega) dX7_word_64 (fun r64 => ?_)
        obtain ⟨lr64, ur64⟩ := r64
        refine B.ireturn (pc := 65) (by simp) dX7_word_65 (Nat.le_refl _) (Nat.le_refl _) (fun rz rw => ⟨rfl, ?_⟩)
        refine Or.inr (Or.inr ⟨by omega, by omega, by omega, ?_⟩)
        unfold TL
        first | omega | (rw [show (6 * w + what - 3).toNat = 6 * w.toNat + (what - 3).toNat by omega]; omega)
      refine zsplitE (X := fun v => Z _ _ 24 _ (.inl v :: _) _) (2) (fun e24_2 => ?_) (fun c24_2 => ?_)
      · refine B.tsIn (pc := 24) (tgt := 66) dX7_word_24 (by decide) (by decide) rfl (by decide) ?_
        refine B.aload_n (pc := 66) (i := 0) dX7_word_66 rfl rfl ?_
        refine B.getfield (pc := 67) 0 rfl rfl inX7z 3 (by decide) fl_X7_19 rfl dX7_word_67 ?_
        refine B.iload_n (pc := 70) (i := 1) dX7_word_70 rfl rfl ?_
        refine B.iaload (pc := 71) 4 rfl (by omega) (by omega) dX7_word_71 (fun r71 => ?_)
        obtain ⟨lr71, ur71⟩ := r71
        refine B.ireturn (pc := 72) (by simp) dX7_word_72 (Nat.le_refl _) (Nat.le_refl _) (fun rz rw => ⟨rfl, ?_⟩)
        refine Or.inr (Or.inr ⟨by omega, by omega, by omega, ?_⟩)
        unfold TL
        first | omega | (rw [show (6 * w + what - 3).toNat = 6 * w.toNat + (what - 3).toNat by omega]; omega)
      refine B.tsOut (pc := 24) (tgt := 73) dX7_word_24 (by omega) (by decide) ?_
      refine B.iload_n (pc := 73) (i := 2) dX7_word_73 rfl rfl ?_
      refine B.iconst (pc := 74) dX7_word_74 ⟨by decide, by decide⟩ ?_
      refine B.isub (pc := 75) dX7_word_75 ⟨by omega, by omega⟩ ?_
      refine B.aload_n (pc := 76) (i := 0) dX7_word_76 rfl rfl ?_
      refine B.getfield (pc := 77) 0 rfl rfl inX7z 1 (by decide) fl_X7_13 rfl dX7_word_77 ?_
      refine B.iload_n (pc := 80) (i := 1) dX7_word_80 rfl rfl ?_
      refine B.iaload (pc := 81) 2 rfl (by omega) (by omega) dX7_word_81 (fun r81 => ?_)
      obtain ⟨lr81, ur81⟩ := r81
      refine B.icmp_ge (pc := 82) (tgt := 101) dX7_word_82 (by decide) (fun c82 => ?_) (fun c82 => ?_)
      · refine B.bipush (pc := 101) dX7_word_101 ⟨by decide, by decide⟩ ?_
        refine B.ireturn (pc := 103) (by simp) dX7_word_103 (Nat.le_refl _) (Nat.le_refl _) (fun rz rw => ⟨rfl, ?_⟩)
        refine Or.inr (Or.inr ⟨by omega, by omega, by omega, ?_⟩)
        unfold TL
        first | omega | (rw [show (6 * w + what - 3).toNat = 6 * w.toNat + (what - 3).toNat by omega]; omega)
      · refine B.aload_n (pc := 85) (i := 0) dX7_word_85 rfl rfl ?_
        refine B.getfield (pc := 86) 0 rfl rfl inX7z 0 (by decide) fl_X7_7 rfl dX7_word_86 ?_
        refine B.bipush (pc := 89) dX7_word_89 ⟨by decide, by decide⟩ ?_
        refine B.iload_n (pc := 91) (i := 1) dX7_word_91 rfl rfl ?_
        refine B.imul (pc := 92) dX7_word_92 ⟨by omega, by omega⟩ ?_
        refine B.iload_n (pc := 93) (i := 2) dX7_word_93 rfl rfl ?_
        refine B.iadd (pc := 94) dX7_word_94 ⟨by omega, by omega⟩ ?_
        refine B.iconst (pc := 95) dX7_word_95 ⟨by decide, by decide⟩ ?_
        refine B.isub (pc := 96) dX7_word_96 ⟨by omega, by omega⟩ ?_
        refine B.iaload (pc := 97) 1 rfl (by omega) (by omega) dX7_word_97 (fun r97 => ?_)
        obtain ⟨lr97, ur97⟩ := r97
        refine B.goto (pc := 98) (tgt := 103) dX7_word_98 (by decide) ?_
        refine B.ireturn (pc := 103) (by simp) dX7_word_103 (Nat.le_refl _) (Nat.le_refl _) (fun rz rw => ⟨rfl, ?_⟩)
        refine Or.inr (Or.inr ⟨by omega, by omega, by omega, ?_⟩)
        unfold TL
        first | omega | (rw [show (6 * w + what - 3).toNat = 6 * w.toNat + (what - 3).toNat by omega]; omega)
    · refine B.bipush (pc := 20) dX7_word_20 ⟨by decide, by decide⟩ ?_
      refine B.ireturn (pc := 22) (by simp) dX7_word_22 (Nat.le_refl _) (Nat.le_refl _) (fun rz rw => ⟨rfl, ?_⟩)
      exact Or.inr (Or.inl ⟨by omega, by omega, by omega, rfl⟩)
  · refine B.iconst (pc := 14) dX7_word_14 ⟨by decide, by decide⟩ ?_
    refine B.ireturn (pc := 15) (by simp) dX7_word_15 (Nat.le_refl _) (Nat.le_refl _) (fun rz rw => ⟨rfl, ?_⟩)
    exact Or.inl ⟨by omega, rfl⟩
set_option maxHeartbeats 4000000 in
set_option maxRecDepth 100000 in
theorem mX7_line {l : Launch} {D : va_G} {k : zK} {E : zE} (hE : zEok E) (m_a m_letters_a m_size_a m_kind_a m_cost_a m_joins_a m_rules_a m_line_a m_pad_a m_place_a m_length_a m_sort_a m_price_a m_of_a m_begins_a m_rowCost_a m_rowNext_a m_rows_a m_ahead_a m_waysTo_a m_image_a m_isKept_a : Nat) (m_words m_long1 m_signs m_readSize m_readKind m_readCost m_many : Int) (m_letters m_size m_kind m_cost m_joins m_rules m_line m_pad m_place m_length m_sort m_price m_of m_begins m_rowCost m_rowNext m_rows m_ahead m_waysTo m_image m_isKept : Nat → Int) : zMi l D k E yX7_line cX7_line 2 .int { frames := 3, cells := 0, slots := 0, locals := 63 } 0 0 [.inr (some m_a)] [(m_a, .inr (.inr (7, [.inr (some m_letters_a), .inr (some m_size_a), .inr (some m_kind_a), .inr (some m_cost_a), .inl m_words, .inr (some m_joins_a), .inr (some m_rules_a), .inr (some m_line_a), .inl m_long1, .inl m_signs, .inr (some m_pad_a), .inl m_readSize, .inl m_readKind, .inl m_readCost, .inr (some m_place_a), .inr (some m_length_a), .inr (some m_sort_a), .inr (some m_price_a), .inr (some m_of_a), .inr (some m_begins_a), .inl m_many, .inr (some m_rowCost_a), .inr (some m_rowNext_a), .inr (some m_rows_a), .inr (some m_ahead_a), .inr (some m_waysTo_a), .inr (some m_image_a), .inr (some m_isKept_a)]))), (m_letters_a, .inl (false, 96, m_letters)), (m_size_a, .inl (false, 16, m_size)), (m_kind_a, .inl (false, 16, m_kind)), (m_cost_a, .inl (false, 16, m_cost)), (m_joins_a, .inl (false, 25, m_joins)), (m_rules_a, .inl (false, 4, m_rules)), (m_line_a, .inl (false, 24, m_line)), (m_pad_a, .inl (false, 40, m_pad)), (m_place_a, .inl (false, 480, m_place)), (m_length_a, .inl (false, 480, m_length)), (m_sort_a, .inl (false, 480, m_sort)), (m_price_a, .inl (false, 480, m_price)), (m_of_a, .inl (false, 480, m_of)), (m_begins_a, .inl (false, 26, m_begins)), (m_rowCost_a, .inl (false, 5760, m_rowCost)), (m_rowNext_a, .inl (false, 5760, m_rowNext)), (m_rows_a, .inl (false, 480, m_rows)), (m_ahead_a, .inl (false, 480, m_ahead)), (m_waysTo_a, .inl (false, 26, m_waysTo)), (m_image_a, .inl (false, 460, m_image)), (m_isKept_a, .inl (true, 2, m_isKept))] (MI m_words m_size m_kind m_cost m_joins m_rules m_long1 m_signs m_image m_isKept) (fun z u => ∃ (m_line' : Nat → Int) (m_long1' : Int) (m_signs' : Int), u = [(m_a, .inr (.inr (7, [.inr (some m_letters_a), .inr (some m_size_a), .inr (some m_kind_a), .inr (some m_cost_a), .inl m_words, .inr (some m_joins_a), .inr (some m_rules_a), .inr (some m_line_a), .inl m_long1', .inl m_signs', .inr (some m_pad_a), .inl m_readSize, .inl m_readKind, .inl m_readCost, .inr (some m_place_a), .inr (some m_length_a), .inr (some m_sort_a), .inr (some m_price_a), .inr (some m_of_a), .inr (some m_begins_a), .inl m_many, .inr (some m_rowCost_a), .inr (some m_rowNext_a), .inr (some m_rows_a), .inr (some m_ahead_a), .inr (some m_waysTo_a), .inr (some m_image_a), .inr (some m_isKept_a)]))), (m_letters_a, .inl (false, 96, m_letters)), (m_size_a, .inl (false, 16, m_size)), (m_kind_a, .inl (false, 16, m_kind)), (m_cost_a, .inl (false, 16, m_cost)), (m_joins_a, .inl (false, 25, m_joins)), (m_rules_a, .inl (false, 4, m_rules)), (m_line_a, .inl (false, 24, m_line')), (m_pad_a, .inl (false, 40, m_pad)), (m_place_a, .inl (false, 480, m_place)), (m_length_a, .inl (false, 480, m_length)), (m_sort_a, .inl (false, 480, m_sort)), (m_price_a, .inl (false, 480, m_price)), (m_of_a, .inl (false, 480, m_of)), (m_begins_a, .inl (false, 26, m_begins)), (m_rowCost_a, .inl (false, 5760, m_rowCost)), (m_rowNext_a, .inl (false, 5760, m_rowNext)), (m_rows_a, .inl (false, 480, m_rows)), (m_ahead_a, .inl (false, 480, m_ahead)), (m_waysTo_a, .inl (false, 26, m_waysTo)), (m_image_a, .inl (false, 460, m_image)), (m_isKept_a, .inl (true, 2, m_isKept))] ∧ (MI m_words m_size m_kind m_cost m_joins m_rules m_long1' m_signs' m_image m_isKept ∧ zLN m_signs m_pad z m_signs' m_line m_long1 m_line' m_long1')) := by
  refine zMi.of RX7 hE (by decide) rfl (by simp) (fun _ _ _ _ => rfl) ?_
  intro Z hP hav hwr B
  obtain ⟨l_m_words, u_m_words⟩ : zR m_words := zWr_at hwr (i := 0) rfl (.inl m_words) (by simp)
  obtain ⟨l_m_long1, u_m_long1⟩ : zR m_long1 := zWr_at hwr (i := 0) rfl (.inl m_long1) (by simp)
  obtain ⟨l_m_signs, u_m_signs⟩ : zR m_signs := zWr_at hwr (i := 0) rfl (.inl m_signs) (by simp)
  obtain ⟨l_m_readSize, u_m_readSize⟩ : zR m_readSize := zWr_at hwr (i := 0) rfl (.inl m_readSize) (by simp)
  obtain ⟨l_m_readKind, u_m_readKind⟩ : zR m_readKind := zWr_at hwr (i := 0) rfl (.inl m_readKind) (by simp)
  obtain ⟨l_m_readCost, u_m_readCost⟩ : zR m_readCost := zWr_at hwr (i := 0) rfl (.inl m_readCost) (by simp)
  obtain ⟨l_m_many, u_m_many⟩ : zR m_many := zWr_at hwr (i := 0) rfl (.inl m_many) (by simp)
  obtain ⟨h1, h2, h3, h4, h5⟩ := id hP
  obtain ⟨h1a, h1b, h1c⟩ := id h1
  obtain ⟨h2a, h2b⟩ := id h2
  have key : ∀ mu_ : Nat, (∀ (lv : List (Option zV)) (ws : zW), (∃ (t : Int) (m_line : Nat → Int) (m_long1 : Int), lv = [some (.inr (some m_a)), some (.inl t)] ∧ ws = [(m_a, .inr (.inr (7, [.inr (some m_letters_a), .inr (some m_size_a), .inr (some m_kind_a), .inr (some m_cost_a), .inl m_words, .inr (some m_joins_a), .inr (some m_rules_a), .inr (some m_line_a), .inl m_long1, .inl m_signs, .inr (some m_pad_a), .inl m_readSize, .inl m_readKind, .inl m_readCost, .inr (some m_place_a), .inr (some m_length_a), .inr (some m_sort_a), .inr (some m_price_a), .inr (some m_of_a), .inr (some m_begins_a), .inl m_many, .inr (some m_rowCost_a), .inr (some m_rowNext_a), .inr (some m_rows_a), .inr (some m_ahead_a), .inr (some m_waysTo_a), .inr (some m_image_a), .inr (some m_isKept_a)]))), (m_letters_a, .inl (false, 96, m_letters)), (m_size_a, .inl (false, 16, m_size)), (m_kind_a, .inl (false, 16, m_kind)), (m_cost_a, .inl (false, 16, m_cost)), (m_joins_a, .inl (false, 25, m_joins)), (m_rules_a, .inl (false, 4, m_rules)), (m_line_a, .inl (false, 24, m_line)), (m_pad_a, .inl (false, 40, m_pad)), (m_place_a, .inl (false, 480, m_place)), (m_length_a, .inl (false, 480, m_length)), (m_sort_a, .inl (false, 480, m_sort)), (m_price_a, .inl (false, 480, m_price)), (m_of_a, .inl (false, 480, m_of)), (m_begins_a, .inl (false, 26, m_begins)), (m_rowCost_a, .inl (false, 5760, m_rowCost)), (m_rowNext_a, .inl (false, 5760, m_rowNext)), (m_rows_a, .inl (false, 480, m_rows)), (m_ahead_a, .inl (false, 480, m_ahead)), (m_waysTo_a, .inl (false, 26, m_waysTo)), (m_image_a, .inl (false, 460, m_image)), (m_isKept_a, .inl (true, 2, m_isKept))] ∧ mu_ = (m_signs - t).toNat ∧ ((0 ≤ t ∧ t ≤ m_signs ∧ 1 ≤ m_signs ∧ m_signs ≤ 24 ∧ m_long1 = m_signs) ∧ LF m_signs m_pad (-6) ∧ ∀ j : Nat, (j : Int) < t → m_line j = m_pad j)) → Z 0 0 20 lv [] ws) := by
    intro mu_
    induction mu_ using Nat.strongRecOn with
    | _ mu_ ih =>
      · intro lv ws hJ
        obtain ⟨t, m_line, m_long1, rfl, rfl, rfl, hi⟩ := hJ
        obtain ⟨i1, i2, i3⟩ := hi
        refine B.iload_n (pc := 20) (i := 1) dX7_line_20 rfl rfl ?_
        refine B.aload_n (pc := 21) (i := 0) dX7_line_21 rfl rfl ?_
        refine B.getfield (pc := 22) 0 rfl rfl inX7z 9 (by decide) fl_X7_78 rfl dX7_line_22 ?_
        refine B.icmp_ge (pc := 25) (tgt := 46) dX7_line_25 (by decide) (fun c25 => ?_) (fun c25 => ?_)
        · refine B.aload_n (pc := 46) (i := 0) dX7_line_46 rfl rfl ?_
          refine B.iconst (pc := 47) dX7_line_47 ⟨by decide, by decide⟩ ?_
          refine B.putfield (pc := 48) 0 rfl rfl inX7z tyX7 tyX7_ok nmX7 9 (by decide) fl_X7_78 rfl rfl rfl (Nat.le_of_ble_eq_true rfl) dX7_line_48 ?_
          simp only [List.set_cons_zero, List.set_cons_succ]
          refine B.aload_n (pc := 51) (i := 0) dX7_line_51 rfl rfl ?_
          refine B.getfield (pc := 52) 0 rfl rfl inX7z 8 (by decide) fl_X7_109 rfl dX7_line_52 ?_
          refine B.ireturn (pc := 55) (by simp) dX7_line_55 (Nat.le_refl _) (Nat.le_refl _) (fun rz rw => ⟨_, _, _, rfl, ?_⟩)
          exact ⟨⟨h1, h2.len (by omega) (by omega), by omega, h4, h5⟩, _, i2, Or.inr ⟨rfl, by omega, by omega, fun j hj => i3 j (by omega), rfl⟩⟩
        · refine B.aload_n (pc := 28) (i := 0) dX7_line_28 rfl rfl ?_
          refine B.getfield (pc := 29) 0 rfl rfl inX7z 7 (by decide) fl_X7_28 rfl dX7_line_29 ?_
          refine B.iload_n (pc := 32) (i := 1) dX7_line_32 rfl rfl ?_
          refine B.aload_n (pc := 33) (i := 0) dX7_line_33 rfl rfl ?_
          refine B.getfield (pc := 34) 0 rfl rfl inX7z 10 (by decide) fl_X7_31 rfl dX7_line_34 ?_
          refine B.iload_n (pc := 37) (i := 1) dX7_line_37 rfl rfl ?_
          refine B.iaload (pc := 38) 8 rfl (by omega) (by omega) dX7_line_38 (fun r38 => ?_)
          obtain ⟨lr38, ur38⟩ := r38
          refine B.iastore (pc := 39) 7 rfl (by omega) (by omega) dX7_line_39 ?_
          simp only [List.set_cons_zero, List.set_cons_succ]
          refine B.iinc (pc := 40) dX7_line_40 (by decide) rfl ⟨by omega, by omega⟩ ?_
          simp only [List.set_cons_zero, List.set_cons_succ]
          refine B.goto (pc := 43) (tgt := 20) dX7_line_43 (by decide) ?_
          refine (ih _ ?_) _ _ ⟨_, _, _, rfl, rfl, rfl, ?_⟩
          · omega
          · refine ⟨by omega, i2, fun j hj => ?_⟩
            by_cases e : j = t.toNat
            · rw [e, zup_eq]
            · rw [zup_ne e]; exact i3 j (by omega)
  show Z 0 0 0 [some (.inr (some m_a)), none] [] _
  refine B.aload_n (pc := 0) (i := 0) dX7_line_0 rfl rfl ?_
  refine B.callVi (pc := 1) 0 (mX7_lineFault hE _ _ _ _ _ _ _ _ _ _ _ _ _ _ _ _ _ _ _ _ _ _ _ _ _ _ _ _ _ _ _ _ _ _ _ _ _ _ _ _ _ _ _ _ _ _ _ _ _ _) 0 rfl rfl ml_X7_103 im_X7_lineFault se_X7_lineFault it_X7 co_X7_lineFault (by decide +kernel) rfl rfl rfl ⟨by decide, by decide⟩ ⟨by decide, by decide⟩ [0, 1, 2, 3, 4, 5, 6, 7, 8, 9, 10, 11, 12, 13, 14, 15, 16, 17, 18, 19, 20, 21] rfl rfl rfl (Nat.le_of_ble_eq_true rfl) dX7_line_1 (fun _ => by omega) (fun zk1 uk1 rzk1 ruk1 rak1 hqk1 => ?_)
  obtain ⟨lzk1, uzk1⟩ := rzk1
  obtain ⟨rfl, hk1⟩ := hqk1
  simp only [zput, List.set_cons_zero, List.set_cons_succ, List.append_nil, Nat.add_zero]
  refine B.if_lt (pc := 4) (tgt := 10) dX7_line_4 (by decide) (fun c4 => ?_) (fun c4 => ?_)
  · refine B.aload_n (pc := 10) (i := 0) dX7_line_10 rfl rfl ?_
    refine B.aload_n (pc := 11) (i := 0) dX7_line_11 rfl rfl ?_
    refine B.getfield (pc := 12) 0 rfl rfl inX7z 9 (by decide) fl_X7_78 rfl dX7_line_12 ?_
    refine B.putfield (pc := 15) 0 rfl rfl inX7z tyX7 tyX7_ok nmX7 8 (by decide) fl_X7_109 rfl rfl rfl (Nat.le_of_ble_eq_true rfl) dX7_line_15 ?_
    simp only [List.set_cons_zero, List.set_cons_succ]
    refine B.iconst (pc := 18) dX7_line_18 ⟨by decide, by decide⟩ ?_
    refine B.istore_n (pc := 19) (i := 1) dX7_line_19 rfl (by decide) ?_
    simp only [List.set_cons_zero, List.set_cons_succ]
    refine (key _) _ _ ⟨_, _, _, rfl, rfl, rfl, ?_⟩
    have ez := hk1.2 (by omega)
    rw [ez.1] at hk1
    exact ⟨by omega, hk1.1, fun j hj => by omega⟩
  · refine B.bipush (pc := 7) dX7_line_7 ⟨by decide, by decide⟩ ?_
    refine B.ireturn (pc := 9) (by simp) dX7_line_9 (Nat.le_refl _) (Nat.le_refl _) (fun rz rw => ⟨_, _, _, rfl, ?_⟩)
    exact ⟨hP, _, hk1.1, Or.inl ⟨by omega, rfl, rfl, rfl, rfl⟩⟩
set_option maxHeartbeats 4000000 in
set_option maxRecDepth 100000 in
theorem mX7_join {l : Launch} {D : va_G} {k : zK} {E : zE} (hE : zEok E) (m_a m_letters_a m_size_a m_kind_a m_cost_a m_joins_a m_rules_a m_line_a m_pad_a m_place_a m_length_a m_sort_a m_price_a m_of_a m_begins_a m_rowCost_a m_rowNext_a m_rows_a m_ahead_a m_waysTo_a m_image_a m_isKept_a : Nat) (m_words m_long1 m_signs m_readSize m_readKind m_readCost m_many one other cost : Int) (m_letters m_size m_kind m_cost m_joins m_rules m_line m_pad m_place m_length m_sort m_price m_of m_begins m_rowCost m_rowNext m_rows m_ahead m_waysTo m_image m_isKept : Nat → Int) : zMi l D k E yX7_join cX7_join 5 .int { frames := 1, cells := 0, slots := 0, locals := 22 } 0 0 [.inr (some m_a), .inl one, .inl other, .inl cost] [(m_a, .inr (.inr (7, [.inr (some m_letters_a), .inr (some m_size_a), .inr (some m_kind_a), .inr (some m_cost_a), .inl m_words, .inr (some m_joins_a), .inr (some m_rules_a), .inr (some m_line_a), .inl m_long1, .inl m_signs, .inr (some m_pad_a), .inl m_readSize, .inl m_readKind, .inl m_readCost, .inr (some m_place_a), .inr (some m_length_a), .inr (some m_sort_a), .inr (some m_price_a), .inr (some m_of_a), .inr (some m_begins_a), .inl m_many, .inr (some m_rowCost_a), .inr (some m_rowNext_a), .inr (some m_rows_a), .inr (some m_ahead_a), .inr (some m_waysTo_a), .inr (some m_image_a), .inr (some m_isKept_a)]))), (m_letters_a, .inl (false, 96, m_letters)), (m_size_a, .inl (false, 16, m_size)), (m_kind_a, .inl (false, 16, m_kind)), (m_cost_a, .inl (false, 16, m_cost)), (m_joins_a, .inl (false, 25, m_joins)), (m_rules_a, .inl (false, 4, m_rules)), (m_line_a, .inl (false, 24, m_line)), (m_pad_a, .inl (false, 40, m_pad)), (m_place_a, .inl (false, 480, m_place)), (m_length_a, .inl (false, 480, m_length)), (m_sort_a, .inl (false, 480, m_sort)), (m_price_a, .inl (false, 480, m_price)), (m_of_a, .inl (false, 480, m_of)), (m_begins_a, .inl (false, 26, m_begins)), (m_rowCost_a, .inl (false, 5760, m_rowCost)), (m_rowNext_a, .inl (false, 5760, m_rowNext)), (m_rows_a, .inl (false, 480, m_rows)), (m_ahead_a, .inl (false, 480, m_ahead)), (m_waysTo_a, .inl (false, 26, m_waysTo)), (m_image_a, .inl (false, 460, m_image)), (m_isKept_a, .inl (true, 2, m_isKept))] (MI m_words m_size m_kind m_cost m_joins m_rules m_long1 m_signs m_image m_isKept) (fun z u => ∃ (m_joins' : Nat → Int), u = [(m_a, .inr (.inr (7, [.inr (some m_letters_a), .inr (some m_size_a), .inr (some m_kind_a), .inr (some m_cost_a), .inl m_words, .inr (some m_joins_a), .inr (some m_rules_a), .inr (some m_line_a), .inl m_long1, .inl m_signs, .inr (some m_pad_a), .inl m_readSize, .inl m_readKind, .inl m_readCost, .inr (some m_place_a), .inr (some m_length_a), .inr (some m_sort_a), .inr (some m_price_a), .inr (some m_of_a), .inr (some m_begins_a), .inl m_many, .inr (some m_rowCost_a), .inr (some m_rowNext_a), .inr (some m_rows_a), .inr (some m_ahead_a), .inr (some m_waysTo_a), .inr (some m_image_a), .inr (some m_isKept_a)]))), (m_letters_a, .inl (false, 96, m_letters)), (m_size_a, .inl (false, 16, m_size)), (m_kind_a, .inl (false, 16, m_kind)), (m_cost_a, .inl (false, 16, m_cost)), (m_joins_a, .inl (false, 25, m_joins')), (m_rules_a, .inl (false, 4, m_rules)), (m_line_a, .inl (false, 24, m_line)), (m_pad_a, .inl (false, 40, m_pad)), (m_place_a, .inl (false, 480, m_place)), (m_length_a, .inl (false, 480, m_length)), (m_sort_a, .inl (false, 480, m_sort)), (m_price_a, .inl (false, 480, m_price)), (m_of_a, .inl (false, 480, m_of)), (m_begins_a, .inl (false, 26, m_begins)), (m_rowCost_a, .inl (false, 5760, m_rowCost)), (m_rowNext_a, .inl (false, 5760, m_rowNext)), (m_rows_a, .inl (false, 480, m_rows)), (m_ahead_a, .inl (false, 480, m_ahead)), (m_waysTo_a, .inl (false, 26, m_waysTo)), (m_image_a, .inl (false, 460, m_image)), (m_isKept_a, .inl (true, 2, m_isKept))] ∧ (MI m_words m_size m_kind m_cost m_joins' m_rules m_long1 m_signs m_image m_isKept ∧ JS one other cost z m_joins m_joins')) := by
  refine zMi.of RX7 hE (by decide) rfl (by simp) (fun _ _ _ _ => rfl) ?_
  intro Z hP hav hwr B
  obtain ⟨l_one, u_one⟩ : zR one := hav (.inl one) (by simp)
  obtain ⟨l_other, u_other⟩ : zR other := hav (.inl other) (by simp)
  obtain ⟨l_cost, u_cost⟩ : zR cost := hav (.inl cost) (by simp)
  obtain ⟨l_m_words, u_m_words⟩ : zR m_words := zWr_at hwr (i := 0) rfl (.inl m_words) (by simp)
  obtain ⟨l_m_long1, u_m_long1⟩ : zR m_long1 := zWr_at hwr (i := 0) rfl (.inl m_long1) (by simp)
  obtain ⟨l_m_signs, u_m_signs⟩ : zR m_signs := zWr_at hwr (i := 0) rfl (.inl m_signs) (by simp)
  obtain ⟨l_m_readSize, u_m_readSize⟩ : zR m_readSize := zWr_at hwr (i := 0) rfl (.inl m_readSize) (by simp)
  obtain ⟨l_m_readKind, u_m_readKind⟩ : zR m_readKind := zWr_at hwr (i := 0) rfl (.inl m_readKind) (by simp)
  obtain ⟨l_m_readCost, u_m_readCost⟩ : zR m_readCost := zWr_at hwr (i := 0) rfl (.inl m_readCost) (by simp)
  obtain ⟨l_m_many, u_m_many⟩ : zR m_many := zWr_at hwr (i := 0) rfl (.inl m_many) (by simp)
  obtain ⟨h1, h2, h3, h4, h5⟩ := id hP
  obtain ⟨h1a, h1b, h1c⟩ := id h1
  obtain ⟨h2a, h2b⟩ := id h2
  show Z 0 0 0 [some (.inr (some m_a)), some (.inl one), some (.inl other), some (.inl cost), none] [] _
  refine B.iload_n (pc := 0) (i := 1) dX7_join_0 rfl rfl ?_
  refine B.iconst (pc := 1) dX7_join_1 ⟨by decide, by decide⟩ ?_
  refine B.iconst (pc := 2) dX7_join_2 ⟨by decide, by decide⟩ ?_
  refine B.callSi (pc := 3) 3 (mX7_in hE _ _ _) ml_X7_74 sm_X7_in it_X7 co_X7_in (by decide +kernel) rfl rfl rfl ⟨by decide, by decide⟩ ⟨by decide, by decide⟩ [] rfl rfl rfl (Nat.le_of_ble_eq_true rfl) dX7_join_3 (fun _ => trivial) (fun zk3 uk3 rzk3 ruk3 rak3 hqk3 => ?_)
  obtain ⟨lzk3, uzk3⟩ := rzk3
  obtain ⟨rfl, hk3⟩ := hqk3
  simp only [zput, List.append_nil, Nat.add_zero]
  refine B.if_eq (pc := 6) (tgt := 28) dX7_join_6 (by decide) (fun c6 => ?_) (fun c6 => ?_)
  · refine B.iconst (pc := 28) dX7_join_28 ⟨by decide, by decide⟩ ?_
    refine B.ireturn (pc := 29) (by simp) dX7_join_29 (Nat.le_refl _) (Nat.le_refl _) (fun rz rw => ⟨_, rfl, ?_⟩)
    exact ⟨hP, Or.inl ⟨by unfold JV; omega, rfl, rfl⟩⟩
  · refine B.iload_n (pc := 9) (i := 2) dX7_join_9 rfl rfl ?_
    refine B.iconst (pc := 10) dX7_join_10 ⟨by decide, by decide⟩ ?_
    refine B.iconst (pc := 11) dX7_join_11 ⟨by decide, by decide⟩ ?_
    refine B.callSi (pc := 12) 3 (mX7_in hE _ _ _) ml_X7_74 sm_X7_in it_X7 co_X7_in (by decide +kernel) rfl rfl rfl ⟨by decide, by decide⟩ ⟨by decide, by decide⟩ [] rfl rfl rfl (Nat.le_of_ble_eq_true rfl) dX7_join_12 (fun _ => trivial) (fun zk12 uk12 rzk12 ruk12 rak12 hqk12 => ?_)
    obtain ⟨lzk12, uzk12⟩ := rzk12
    obtain ⟨rfl, hk12⟩ := hqk12
    simp only [zput, List.append_nil, Nat.add_zero]
    refine B.if_eq (pc := 15) (tgt := 28) dX7_join_15 (by decide) (fun c15 => ?_) (fun c15 => ?_)
    · refine B.iconst (pc := 28) dX7_join_28 ⟨by decide, by decide⟩ ?_
      refine B.ireturn (pc := 29) (by simp) dX7_join_29 (Nat.le_refl _) (Nat.le_refl _) (fun rz rw => ⟨_, rfl, ?_⟩)
      exact ⟨hP, Or.inl ⟨by unfold JV; omega, rfl, rfl⟩⟩
    · refine B.iload_n (pc := 18) (i := 1) dX7_join_18 rfl rfl ?_
      refine B.iconst (pc := 19) dX7_join_19 ⟨by decide, by decide⟩ ?_
      refine B.icmp_ne (pc := 20) (tgt := 30) dX7_join_20 (by decide) (fun c20 => ?_) (fun c20 => ?_)
      · refine B.iload_n (pc := 30) (i := 3) dX7_join_30 rfl rfl ?_
        refine B.iconst (pc := 31) dX7_join_31 ⟨by decide, by decide⟩ ?_
        refine B.bipush (pc := 32) dX7_join_32 ⟨by decide, by decide⟩ ?_
        refine B.callSi (pc := 34) 3 (mX7_in hE _ _ _) ml_X7_74 sm_X7_in it_X7 co_X7_in (by decide +kernel) rfl rfl rfl ⟨by decide, by decide⟩ ⟨by decide, by decide⟩ [] rfl rfl rfl (Nat.le_of_ble_eq_true rfl) dX7_join_34 (fun _ => trivial) (fun zk34 uk34 rzk34 ruk34 rak34 hqk34 => ?_)
        obtain ⟨lzk34, uzk34⟩ := rzk34
        obtain ⟨rfl, hk34⟩ := hqk34
        simp only [zput, List.append_nil, Nat.add_zero]
        refine B.if_ne (pc := 37) (tgt := 43) dX7_join_37 (by decide) (fun c37 => ?_) (fun c37 => ?_)
        · refine B.aload_n (pc := 43) (i := 0) dX7_join_43 rfl rfl ?_
          refine B.getfield (pc := 44) 0 rfl rfl inX7z 5 (by decide) fl_X7_22 rfl dX7_join_44 ?_
          refine B.iconst (pc := 47) dX7_join_47 ⟨by decide, by decide⟩ ?_
          refine B.iload_n (pc := 48) (i := 1) dX7_join_48 rfl rfl ?_
          refine B.imul (pc := 49) dX7_join_49 ⟨by omega, by omega⟩ ?_
          refine B.iload_n (pc := 50) (i := 2) dX7_join_50 rfl rfl ?_
          refine B.iadd (pc := 51) dX7_join_51 ⟨by omega, by omega⟩ ?_
          refine B.iaload (pc := 52) 5 rfl (by omega) (by omega) dX7_join_52 (fun r52 => ?_)
          obtain ⟨lr52, ur52⟩ := r52
          refine B.istore (pc := 53) (i := 4) dX7_join_53 (by decide) ?_
          simp only [List.set_cons_zero, List.set_cons_succ]
          refine B.aload_n (pc := 55) (i := 0) dX7_join_55 rfl rfl ?_
          refine B.getfield (pc := 56) 0 rfl rfl inX7z 5 (by decide) fl_X7_22 rfl dX7_join_56 ?_
          refine B.iconst (pc := 59) dX7_join_59 ⟨by decide, by decide⟩ ?_
          refine B.iload_n (pc := 60) (i := 1) dX7_join_60 rfl rfl ?_
          refine B.imul (pc := 61) dX7_join_61 ⟨by omega, by omega⟩ ?_
          refine B.iload_n (pc := 62) (i := 2) dX7_join_62 rfl rfl ?_
          refine B.iadd (pc := 63) dX7_join_63 ⟨by omega, by omega⟩ ?_
          refine B.iload_n (pc := 64) (i := 3) dX7_join_64 rfl rfl ?_
          refine B.iastore (pc := 65) 5 rfl (by omega) (by omega) dX7_join_65 ?_
          simp only [List.set_cons_zero, List.set_cons_succ]
          refine B.iload (pc := 66) dX7_join_66 rfl ?_
          refine B.ireturn (pc := 68) (by simp) dX7_join_68 (Nat.le_refl _) (Nat.le_refl _) (fun rz rw => ⟨_, rfl, ?_⟩)
          have e5 : 5 * one + other = one * 5 + other := by omega
          rw [e5]
          exact ⟨⟨h1, h2.join _ (by omega), h3, h4, h5⟩, Or.inr (Or.inr ⟨by unfold JV; omega, by omega, by omega, rfl, rfl⟩)⟩
        · refine B.bipush (pc := 40) dX7_join_40 ⟨by decide, by decide⟩ ?_
          refine B.ireturn (pc := 42) (by simp) dX7_join_42 (Nat.le_refl _) (Nat.le_refl _) (fun rz rw => ⟨_, rfl, ?_⟩)
          exact ⟨hP, Or.inr (Or.inl ⟨by unfold JV; omega, by omega, rfl, rfl⟩)⟩
      · refine B.iload_n (pc := 23) (i := 2) dX7_join_23 rfl rfl ?_
        refine B.iconst (pc := 24) dX7_join_24 ⟨by decide, by decide⟩ ?_
        refine B.icmp_ne (pc := 25) (tgt := 30) dX7_join_25 (by decide) (fun c25 => ?_) (fun c25 => ?_)
        · refine B.iload_n (pc := 30) (i := 3) dX7_join_30 rfl rfl ?_
          refine B.iconst (pc := 31) dX7_join_31 ⟨by decide, by decide⟩ ?_
          refine B.bipush (pc := 32) dX7_join_32 ⟨by decide, by decide⟩ ?_
          refine B.callSi (pc := 34) 3 (mX7_in hE _ _ _) ml_X7_74 sm_X7_in it_X7 co_X7_in (by decide +kernel) rfl rfl rfl ⟨by decide, by decide⟩ ⟨by decide, by decide⟩ [] rfl rfl rfl (Nat.le_of_ble_eq_true rfl) dX7_join_34 (fun _ => trivial) (fun zk34 uk34 rzk34 ruk34 rak34 hqk34 => ?_)
          obtain ⟨lzk34, uzk34⟩ := rzk34
          obtain ⟨rfl, hk34⟩ := hqk34
          simp only [zput, List.append_nil, Nat.add_zero]
          refine B.if_ne (pc := 37) (tgt := 43) dX7_join_37 (by decide) (fun c37 => ?_) (fun c37 => ?_)
          · refine B.aload_n (pc := 43) (i := 0) dX7_join_43 rfl rfl ?_
            refine B.getfield (pc := 44) 0 rfl rfl inX7z 5 (by decide) fl_X7_22 rfl dX7_join_44 ?_
            refine B.iconst (pc := 47) dX7_join_47 ⟨by decide, by decide⟩ ?_
            refine B.iload_n (pc := 48) (i := 1) dX7_join_48 rfl rfl ?_
            refine B.imul (pc := 49) dX7_join_49 ⟨by omega, by omega⟩ ?_
            refine B.iload_n (pc := 50) (i := 2) dX7_join_50 rfl rfl ?_
            refine B.iadd (pc := 51) dX7_join_51 ⟨by omega, by omega⟩ ?_
            refine B.iaload (pc := 52) 5 rfl (by omega) (by omega) dX7_join_52 (fun r52 => ?_)
            obtain ⟨lr52, ur52⟩ := r52
            refine B.istore (pc := 53) (i := 4) dX7_join_53 (by decide) ?_
            simp only [List.set_cons_zero, List.set_cons_succ]
            refine B.aload_n (pc := 55) (i := 0) dX7_join_55 rfl rfl ?_
            refine B.getfield (pc := 56) 0 rfl rfl inX7z 5 (by decide) fl_X7_22 rfl dX7_join_56 ?_
            refine B.iconst (pc := 59) dX7_join_59 ⟨by decide, by decide⟩ ?_
            refine B.iload_n (pc := 60) (i := 1) dX7_join_60 rfl rfl ?_
            refine B.imul (pc := 61) dX7_join_61 ⟨by omega, by omega⟩ ?_
            refine B.iload_n (pc := 62) (i := 2) dX7_join_62 rfl rfl ?_
            refine B.iadd (pc := 63) dX7_join_63 ⟨by omega, by omega⟩ ?_
            refine B.iload_n (pc := 64) (i := 3) dX7_join_64 rfl rfl ?_
            refine B.iastore (pc := 65) 5 rfl (by omega) (by omega) dX7_join_65 ?_
            simp only [List.set_cons_zero, List.set_cons_succ]
            refine B.iload (pc := 66) dX7_join_66 rfl ?_
            refine B.ireturn (pc := 68) (by simp) dX7_join_68 (Nat.le_refl _) (Nat.le_refl _) (fun rz rw => ⟨_, rfl, ?_⟩)
            have e5 : 5 * one + other = one * 5 + other := by omega
            rw [e5]
            exact ⟨⟨h1, h2.join _ (by omega), h3, h4, h5⟩, Or.inr (Or.inr ⟨by unfold JV; omega, by omega, by omega, rfl, rfl⟩)⟩
          · refine B.bipush (pc := 40) dX7_join_40 ⟨by decide, by decide⟩ ?_
            refine B.ireturn (pc := 42) (by simp) dX7_join_42 (Nat.le_refl _) (Nat.le_refl _) (fun rz rw => ⟨_, rfl, ?_⟩)
            exact ⟨hP, Or.inr (Or.inl ⟨by unfold JV; omega, by omega, rfl, rfl⟩)⟩
        · refine B.iconst (pc := 28) dX7_join_28 ⟨by decide, by decide⟩ ?_
          refine B.ireturn (pc := 29) (by simp) dX7_join_29 (Nat.le_refl _) (Nat.le_refl _) (fun rz rw => ⟨_, rfl, ?_⟩)
          exact ⟨hP, Or.inl ⟨by unfold JV; omega, rfl, rfl⟩⟩
set_option maxHeartbeats 4000000 in
set_option maxRecDepth 100000 in
theorem mX7_rule {l : Launch} {D : va_G} {k : zK} {E : zE} (hE : zEok E) (m_a m_letters_a m_size_a m_kind_a m_cost_a m_joins_a m_rules_a m_line_a m_pad_a m_place_a m_length_a m_sort_a m_price_a m_of_a m_begins_a m_rowCost_a m_rowNext_a m_rows_a m_ahead_a m_waysTo_a m_image_a m_isKept_a : Nat) (m_words m_long1 m_signs m_readSize m_readKind m_readCost m_many what n : Int) (m_letters m_size m_kind m_cost m_joins m_rules m_line m_pad m_place m_length m_sort m_price m_of m_begins m_rowCost m_rowNext m_rows m_ahead m_waysTo m_image m_isKept : Nat → Int) : zMi l D k E yX7_rule cX7_rule 4 .int { frames := 1, cells := 0, slots := 0, locals := 22 } 0 0 [.inr (some m_a), .inl what, .inl n] [(m_a, .inr (.inr (7, [.inr (some m_letters_a), .inr (some m_size_a), .inr (some m_kind_a), .inr (some m_cost_a), .inl m_words, .inr (some m_joins_a), .inr (some m_rules_a), .inr (some m_line_a), .inl m_long1, .inl m_signs, .inr (some m_pad_a), .inl m_readSize, .inl m_readKind, .inl m_readCost, .inr (some m_place_a), .inr (some m_length_a), .inr (some m_sort_a), .inr (some m_price_a), .inr (some m_of_a), .inr (some m_begins_a), .inl m_many, .inr (some m_rowCost_a), .inr (some m_rowNext_a), .inr (some m_rows_a), .inr (some m_ahead_a), .inr (some m_waysTo_a), .inr (some m_image_a), .inr (some m_isKept_a)]))), (m_letters_a, .inl (false, 96, m_letters)), (m_size_a, .inl (false, 16, m_size)), (m_kind_a, .inl (false, 16, m_kind)), (m_cost_a, .inl (false, 16, m_cost)), (m_joins_a, .inl (false, 25, m_joins)), (m_rules_a, .inl (false, 4, m_rules)), (m_line_a, .inl (false, 24, m_line)), (m_pad_a, .inl (false, 40, m_pad)), (m_place_a, .inl (false, 480, m_place)), (m_length_a, .inl (false, 480, m_length)), (m_sort_a, .inl (false, 480, m_sort)), (m_price_a, .inl (false, 480, m_price)), (m_of_a, .inl (false, 480, m_of)), (m_begins_a, .inl (false, 26, m_begins)), (m_rowCost_a, .inl (false, 5760, m_rowCost)), (m_rowNext_a, .inl (false, 5760, m_rowNext)), (m_rows_a, .inl (false, 480, m_rows)), (m_ahead_a, .inl (false, 480, m_ahead)), (m_waysTo_a, .inl (false, 26, m_waysTo)), (m_image_a, .inl (false, 460, m_image)), (m_isKept_a, .inl (true, 2, m_isKept))] (MI m_words m_size m_kind m_cost m_joins m_rules m_long1 m_signs m_image m_isKept) (fun z u => ∃ (m_rules' : Nat → Int), u = [(m_a, .inr (.inr (7, [.inr (some m_letters_a), .inr (some m_size_a), .inr (some m_kind_a), .inr (some m_cost_a), .inl m_words, .inr (some m_joins_a), .inr (some m_rules_a), .inr (some m_line_a), .inl m_long1, .inl m_signs, .inr (some m_pad_a), .inl m_readSize, .inl m_readKind, .inl m_readCost, .inr (some m_place_a), .inr (some m_length_a), .inr (some m_sort_a), .inr (some m_price_a), .inr (some m_of_a), .inr (some m_begins_a), .inl m_many, .inr (some m_rowCost_a), .inr (some m_rowNext_a), .inr (some m_rows_a), .inr (some m_ahead_a), .inr (some m_waysTo_a), .inr (some m_image_a), .inr (some m_isKept_a)]))), (m_letters_a, .inl (false, 96, m_letters)), (m_size_a, .inl (false, 16, m_size)), (m_kind_a, .inl (false, 16, m_kind)), (m_cost_a, .inl (false, 16, m_cost)), (m_joins_a, .inl (false, 25, m_joins)), (m_rules_a, .inl (false, 4, m_rules')), (m_line_a, .inl (false, 24, m_line)), (m_pad_a, .inl (false, 40, m_pad)), (m_place_a, .inl (false, 480, m_place)), (m_length_a, .inl (false, 480, m_length)), (m_sort_a, .inl (false, 480, m_sort)), (m_price_a, .inl (false, 480, m_price)), (m_of_a, .inl (false, 480, m_of)), (m_begins_a, .inl (false, 26, m_begins)), (m_rowCost_a, .inl (false, 5760, m_rowCost)), (m_rowNext_a, .inl (false, 5760, m_rowNext)), (m_rows_a, .inl (false, 480, m_rows)), (m_ahead_a, .inl (false, 480, m_ahead)), (m_waysTo_a, .inl (false, 26, m_waysTo)), (m_image_a, .inl (false, 460, m_image)), (m_isKept_a, .inl (true, 2, m_isKept))] ∧ (MI m_words m_size m_kind m_cost m_joins m_rules' m_long1 m_signs m_image m_isKept ∧ RS what n z m_rules m_rules')) := by
  refine zMi.of RX7 hE (by decide) rfl (by simp) (fun _ _ _ _ => rfl) ?_
  intro Z hP hav hwr B
  obtain ⟨l_what, u_what⟩ : zR what := hav (.inl what) (by simp)
  obtain ⟨l_n, u_n⟩ : zR n := hav (.inl n) (by simp)
  obtain ⟨l_m_words, u_m_words⟩ : zR m_words := zWr_at hwr (i := 0) rfl (.inl m_words) (by simp)
  obtain ⟨l_m_long1, u_m_long1⟩ : zR m_long1 := zWr_at hwr (i := 0) rfl (.inl m_long1) (by simp)
  obtain ⟨l_m_signs, u_m_signs⟩ : zR m_signs := zWr_at hwr (i := 0) rfl (.inl m_signs) (by simp)
  obtain ⟨l_m_readSize, u_m_readSize⟩ : zR m_readSize := zWr_at hwr (i := 0) rfl (.inl m_readSize) (by simp)
  obtain ⟨l_m_readKind, u_m_readKind⟩ : zR m_readKind := zWr_at hwr (i := 0) rfl (.inl m_readKind) (by simp)
  obtain ⟨l_m_readCost, u_m_readCost⟩ : zR m_readCost := zWr_at hwr (i := 0) rfl (.inl m_readCost) (by simp)
  obtain ⟨l_m_many, u_m_many⟩ : zR m_many := zWr_at hwr (i := 0) rfl (.inl m_many) (by simp)
  obtain ⟨h1, h2, h3, h4, h5⟩ := id hP
  obtain ⟨h1a, h1b, h1c⟩ := id h1
  obtain ⟨h2a, h2b⟩ := id h2
  show Z 0 0 0 [some (.inr (some m_a)), some (.inl what), some (.inl n), none] [] _
  refine B.iload_n (pc := 0) (i := 1) dX7_rule_0 rfl rfl ?_
  refine B.iconst (pc := 1) dX7_rule_1 ⟨by decide, by decide⟩ ?_
  refine B.iconst (pc := 2) dX7_rule_2 ⟨by decide, by decide⟩ ?_
  refine B.callSi (pc := 3) 3 (mX7_in hE _ _ _) ml_X7_74 sm_X7_in it_X7 co_X7_in (by decide +kernel) rfl rfl rfl ⟨by decide, by decide⟩ ⟨by decide, by decide⟩ [] rfl rfl rfl (Nat.le_of_ble_eq_true rfl) dX7_rule_3 (fun _ => trivial) (fun zk3 uk3 rzk3 ruk3 rak3 hqk3 => ?_)
  obtain ⟨lzk3, uzk3⟩ := rzk3
  obtain ⟨rfl, hk3⟩ := hqk3
  simp only [zput, List.append_nil, Nat.add_zero]
  refine B.if_eq (pc := 6) (tgt := 36) dX7_rule_6 (by decide) (fun c6 => ?_) (fun c6 => ?_)
  · refine B.bipush (pc := 36) dX7_rule_36 ⟨by decide, by decide⟩ ?_
    refine B.ireturn (pc := 38) (by simp) dX7_rule_38 (Nat.le_refl _) (Nat.le_refl _) (fun rz rw => ⟨_, rfl, ?_⟩)
    exact ⟨hP, Or.inl ⟨by unfold RV; omega, rfl, rfl⟩⟩
  · refine B.iload_n (pc := 9) (i := 2) dX7_rule_9 rfl rfl ?_
    refine B.iconst (pc := 10) dX7_rule_10 ⟨by decide, by decide⟩ ?_
    refine B.iload_n (pc := 11) (i := 1) dX7_rule_11 rfl rfl ?_
    refine B.if_ne (pc := 12) (tgt := 19) dX7_rule_12 (by decide) (fun c12 => ?_) (fun c12 => ?_)
    · refine B.iload_n (pc := 19) (i := 1) dX7_rule_19 rfl rfl ?_
      refine B.iconst (pc := 20) dX7_rule_20 ⟨by decide, by decide⟩ ?_
      refine B.icmp_ne (pc := 21) (tgt := 28) dX7_rule_21 (by decide) (fun c21 => ?_) (fun c21 => ?_)
      · refine B.bipush (pc := 28) dX7_rule_28 ⟨by decide, by decide⟩ ?_
        refine B.callSi (pc := 30) 3 (mX7_in hE _ _ _) ml_X7_74 sm_X7_in it_X7 co_X7_in (by decide +kernel) rfl rfl rfl ⟨by decide, by decide⟩ ⟨by decide, by decide⟩ [] rfl rfl rfl (Nat.le_of_ble_eq_true rfl) dX7_rule_30 (fun _ => trivial) (fun zk30 uk30 rzk30 ruk30 rak30 hqk30 => ?_)
        obtain ⟨lzk30, uzk30⟩ := rzk30
        obtain ⟨rfl, hk30⟩ := hqk30
        simp only [zput, List.append_nil, Nat.add_zero]
        refine B.if_ne (pc := 33) (tgt := 39) dX7_rule_33 (by decide) (fun c33 => ?_) (fun c33 => ?_)
        · refine B.aload_n (pc := 39) (i := 0) dX7_rule_39 rfl rfl ?_
          refine B.getfield (pc := 40) 0 rfl rfl inX7z 6 (by decide) fl_X7_25 rfl dX7_rule_40 ?_
          refine B.iload_n (pc := 43) (i := 1) dX7_rule_43 rfl rfl ?_
          refine B.iaload (pc := 44) 6 rfl (by omega) (by omega) dX7_rule_44 (fun r44 => ?_)
          obtain ⟨lr44, ur44⟩ := r44
          refine B.istore_n (pc := 45) (i := 3) dX7_rule_45 rfl (by decide) ?_
          simp only [List.set_cons_zero, List.set_cons_succ]
          refine B.aload_n (pc := 46) (i := 0) dX7_rule_46 rfl rfl ?_
          refine B.getfield (pc := 47) 0 rfl rfl inX7z 6 (by decide) fl_X7_25 rfl dX7_rule_47 ?_
          refine B.iload_n (pc := 50) (i := 1) dX7_rule_50 rfl rfl ?_
          refine B.iload_n (pc := 51) (i := 2) dX7_rule_51 rfl rfl ?_
          refine B.iastore (pc := 52) 6 rfl (by omega) (by omega) dX7_rule_52 ?_
          simp only [List.set_cons_zero, List.set_cons_succ]
          refine B.iload_n (pc := 53) (i := 3) dX7_rule_53 rfl rfl ?_
          refine B.ireturn (pc := 54) (by simp) dX7_rule_54 (Nat.le_refl _) (Nat.le_refl _) (fun rz rw => ⟨_, rfl, ?_⟩)
          exact ⟨⟨h1, h2.rule (by omega) (by omega), h3, h4, h5⟩, Or.inr ⟨by unfold RV; omega, rfl, rfl⟩⟩
        · refine B.bipush (pc := 36) dX7_rule_36 ⟨by decide, by decide⟩ ?_
          refine B.ireturn (pc := 38) (by simp) dX7_rule_38 (Nat.le_refl _) (Nat.le_refl _) (fun rz rw => ⟨_, rfl, ?_⟩)
          exact ⟨hP, Or.inl ⟨by unfold RV; omega, rfl, rfl⟩⟩
      · refine B.iconst (pc := 24) dX7_rule_24 ⟨by decide, by decide⟩ ?_
        refine B.goto (pc := 25) (tgt := 30) dX7_rule_25 (by decide) ?_
        refine B.callSi (pc := 30) 3 (mX7_in hE _ _ _) ml_X7_74 sm_X7_in it_X7 co_X7_in (by decide +kernel) rfl rfl rfl ⟨by decide, by decide⟩ ⟨by decide, by decide⟩ [] rfl rfl rfl (Nat.le_of_ble_eq_true rfl) dX7_rule_30 (fun _ => trivial) (fun zk30 uk30 rzk30 ruk30 rak30 hqk30 => ?_)
        obtain ⟨lzk30, uzk30⟩ := rzk30
        obtain ⟨rfl, hk30⟩ := hqk30
        simp only [zput, List.append_nil, Nat.add_zero]
        refine B.if_ne (pc := 33) (tgt := 39) dX7_rule_33 (by decide) (fun c33 => ?_) (fun c33 => ?_)
        · refine B.aload_n (pc := 39) (i := 0) dX7_rule_39 rfl rfl ?_
          refine B.getfield (pc := 40) 0 rfl rfl inX7z 6 (by decide) fl_X7_25 rfl dX7_rule_40 ?_
          refine B.iload_n (pc := 43) (i := 1) dX7_rule_43 rfl rfl ?_
          refine B.iaload (pc := 44) 6 rfl (by omega) (by omega) dX7_rule_44 (fun r44 => ?_)
          obtain ⟨lr44, ur44⟩ := r44
          refine B.istore_n (pc := 45) (i := 3) dX7_rule_45 rfl (by decide) ?_
          simp only [List.set_cons_zero, List.set_cons_succ]
          refine B.aload_n (pc := 46) (i := 0) dX7_rule_46 rfl rfl ?_
          refine B.getfield (pc := 47) 0 rfl rfl inX7z 6 (by decide) fl_X7_25 rfl dX7_rule_47 ?_
          refine B.iload_n (pc := 50) (i := 1) dX7_rule_50 rfl rfl ?_
          refine B.iload_n (pc := 51) (i := 2) dX7_rule_51 rfl rfl ?_
          refine B.iastore (pc := 52) 6 rfl (by omega) (by omega) dX7_rule_52 ?_
          simp only [List.set_cons_zero, List.set_cons_succ]
          refine B.iload_n (pc := 53) (i := 3) dX7_rule_53 rfl rfl ?_
          refine B.ireturn (pc := 54) (by simp) dX7_rule_54 (Nat.le_refl _) (Nat.le_refl _) (fun rz rw => ⟨_, rfl, ?_⟩)
          exact ⟨⟨h1, h2.rule (by omega) (by omega), h3, h4, h5⟩, Or.inr ⟨by unfold RV; omega, rfl, rfl⟩⟩
        · refine B.bipush (pc := 36) dX7_rule_36 ⟨by decide, by decide⟩ ?_
          refine B.ireturn (pc := 38) (by simp) dX7_rule_38 (Nat.le_refl _) (Nat.le_refl _) (fun rz rw => ⟨_, rfl, ?_⟩)
          exact ⟨hP, Or.inl ⟨by unfold RV; omega, rfl, rfl⟩⟩
    · refine B.iconst (pc := 15) dX7_rule_15 ⟨by decide, by decide⟩ ?_
      refine B.goto (pc := 16) (tgt := 30) dX7_rule_16 (by decide) ?_
      refine B.callSi (pc := 30) 3 (mX7_in hE _ _ _) ml_X7_74 sm_X7_in it_X7 co_X7_in (by decide +kernel) rfl rfl rfl ⟨by decide, by decide⟩ ⟨by decide, by decide⟩ [] rfl rfl rfl (Nat.le_of_ble_eq_true rfl) dX7_rule_30 (fun _ => trivial) (fun zk30 uk30 rzk30 ruk30 rak30 hqk30 => ?_)
      obtain ⟨lzk30, uzk30⟩ := rzk30
      obtain ⟨rfl, hk30⟩ := hqk30
      simp only [zput, List.append_nil, Nat.add_zero]
      refine B.if_ne (pc := 33) (tgt := 39) dX7_rule_33 (by decide) (fun c33 => ?_) (fun c33 => ?_)
      · refine B.aload_n (pc := 39) (i := 0) dX7_rule_39 rfl rfl ?_
        refine B.getfield (pc := 40) 0 rfl rfl inX7z 6 (by decide) fl_X7_25 rfl dX7_rule_40 ?_
        refine B.iload_n (pc := 43) (i := 1) dX7_rule_43 rfl rfl ?_
        refine B.iaload (pc := 44) 6 rfl (by omega) (by omega) dX7_rule_44 (fun r44 => ?_)
        obtain ⟨lr44, ur44⟩ := r44
        refine B.istore_n (pc := 45) (i := 3) dX7_rule_45 rfl (by decide) ?_
        simp only [List.set_cons_zero, List.set_cons_succ]
        refine B.aload_n (pc := 46) (i := 0) dX7_rule_46 rfl rfl ?_
        refine B.getfield (pc := 47) 0 rfl rfl inX7z 6 (by decide) fl_X7_25 rfl dX7_rule_47 ?_
        refine B.iload_n (pc := 50) (i := 1) dX7_rule_50 rfl rfl ?_
        refine B.iload_n (pc := 51) (i := 2) dX7_rule_51 rfl rfl ?_
        refine B.iastore (pc := 52) 6 rfl (by omega) (by omega) dX7_rule_52 ?_
        simp only [List.set_cons_zero, List.set_cons_succ]
        refine B.iload_n (pc := 53) (i := 3) dX7_rule_53 rfl rfl ?_
        refine B.ireturn (pc := 54) (by simp) dX7_rule_54 (Nat.le_refl _) (Nat.le_refl _) (fun rz rw => ⟨_, rfl, ?_⟩)
        exact ⟨⟨h1, h2.rule (by omega) (by omega), h3, h4, h5⟩, Or.inr ⟨by unfold RV; omega, rfl, rfl⟩⟩
      · refine B.bipush (pc := 36) dX7_rule_36 ⟨by decide, by decide⟩ ?_
        refine B.ireturn (pc := 38) (by simp) dX7_rule_38 (Nat.le_refl _) (Nat.le_refl _) (fun rz rw => ⟨_, rfl, ?_⟩)
        exact ⟨hP, Or.inl ⟨by unfold RV; omega, rfl, rfl⟩⟩
set_option maxHeartbeats 4000000 in
set_option maxRecDepth 100000 in
theorem mX7_stands {l : Launch} {D : va_G} {k : zK} {E : zE} (hE : zEok E) (m_a m_letters_a m_size_a m_kind_a m_cost_a m_joins_a m_rules_a m_line_a m_pad_a m_place_a m_length_a m_sort_a m_price_a m_of_a m_begins_a m_rowCost_a m_rowNext_a m_rows_a m_ahead_a m_waysTo_a m_image_a m_isKept_a : Nat) (m_words m_long1 m_signs m_readSize m_readKind m_readCost m_many w at_ : Int) (m_letters m_size m_kind m_cost m_joins m_rules m_line m_pad m_place m_length m_sort m_price m_of m_begins m_rowCost m_rowNext m_rows m_ahead m_waysTo m_image m_isKept : Nat → Int) : zMi l D k E yX7_stands cX7_stands 5 .boolean { frames := 0, cells := 0, slots := 0, locals := 0 } 0 0 [.inr (some m_a), .inl w, .inl at_] [(m_a, .inr (.inr (7, [.inr (some m_letters_a), .inr (some m_size_a), .inr (some m_kind_a), .inr (some m_cost_a), .inl m_words, .inr (some m_joins_a), .inr (some m_rules_a), .inr (some m_line_a), .inl m_long1, .inl m_signs, .inr (some m_pad_a), .inl m_readSize, .inl m_readKind, .inl m_readCost, .inr (some m_place_a), .inr (some m_length_a), .inr (some m_sort_a), .inr (some m_price_a), .inr (some m_of_a), .inr (some m_begins_a), .inl m_many, .inr (some m_rowCost_a), .inr (some m_rowNext_a), .inr (some m_rows_a), .inr (some m_ahead_a), .inr (some m_waysTo_a), .inr (some m_image_a), .inr (some m_isKept_a)]))), (m_letters_a, .inl (false, 96, m_letters)), (m_size_a, .inl (false, 16, m_size)), (m_kind_a, .inl (false, 16, m_kind)), (m_cost_a, .inl (false, 16, m_cost)), (m_joins_a, .inl (false, 25, m_joins)), (m_rules_a, .inl (false, 4, m_rules)), (m_line_a, .inl (false, 24, m_line)), (m_pad_a, .inl (false, 40, m_pad)), (m_place_a, .inl (false, 480, m_place)), (m_length_a, .inl (false, 480, m_length)), (m_sort_a, .inl (false, 480, m_sort)), (m_price_a, .inl (false, 480, m_price)), (m_of_a, .inl (false, 480, m_of)), (m_begins_a, .inl (false, 26, m_begins)), (m_rowCost_a, .inl (false, 5760, m_rowCost)), (m_rowNext_a, .inl (false, 5760, m_rowNext)), (m_rows_a, .inl (false, 480, m_rows)), (m_ahead_a, .inl (false, 480, m_ahead)), (m_waysTo_a, .inl (false, 26, m_waysTo)), (m_image_a, .inl (false, 460, m_image)), (m_isKept_a, .inl (true, 2, m_isKept))] (DI m_words m_size m_kind m_cost ∧ 0 ≤ w ∧ w < m_words ∧ 0 ≤ at_ ∧ at_ < m_long1 ∧ m_long1 ≤ 24) (fun z u => u = [(m_a, .inr (.inr (7, [.inr (some m_letters_a), .inr (some m_size_a), .inr (some m_kind_a), .inr (some m_cost_a), .inl m_words, .inr (some m_joins_a), .inr (some m_rules_a), .inr (some m_line_a), .inl m_long1, .inl m_signs, .inr (some m_pad_a), .inl m_readSize, .inl m_readKind, .inl m_readCost, .inr (some m_place_a), .inr (some m_length_a), .inr (some m_sort_a), .inr (some m_price_a), .inr (some m_of_a), .inr (some m_begins_a), .inl m_many, .inr (some m_rowCost_a), .inr (some m_rowNext_a), .inr (some m_rows_a), .inr (some m_ahead_a), .inr (some m_waysTo_a), .inr (some m_image_a), .inr (some m_isKept_a)]))), (m_letters_a, .inl (false, 96, m_letters)), (m_size_a, .inl (false, 16, m_size)), (m_kind_a, .inl (false, 16, m_kind)), (m_cost_a, .inl (false, 16, m_cost)), (m_joins_a, .inl (false, 25, m_joins)), (m_rules_a, .inl (false, 4, m_rules)), (m_line_a, .inl (false, 24, m_line)), (m_pad_a, .inl (false, 40, m_pad)), (m_place_a, .inl (false, 480, m_place)), (m_length_a, .inl (false, 480, m_length)), (m_sort_a, .inl (false, 480, m_sort)), (m_price_a, .inl (false, 480, m_price)), (m_of_a, .inl (false, 480, m_of)), (m_begins_a, .inl (false, 26, m_begins)), (m_rowCost_a, .inl (false, 5760, m_rowCost)), (m_rowNext_a, .inl (false, 5760, m_rowNext)), (m_rows_a, .inl (false, 480, m_rows)), (m_ahead_a, .inl (false, 480, m_ahead)), (m_waysTo_a, .inl (false, 26, m_waysTo)), (m_image_a, .inl (false, 460, m_image)), (m_isKept_a, .inl (true, 2, m_isKept))] ∧ ((z = 0 ∨ z = 1) ∧ (z = 1 → at_ + m_size w.toNat ≤ m_long1))) := by
  refine zMi.of RX7 hE (by decide) rfl (by simp) (fun z u hp hq => ?_) ?_
  · have hz : z = 0 ∨ z = 1 := by obtain ⟨_, hq⟩ := hq; first | exact hq | exact hq.1 | exact Or.inr hq
    rcases hz with rfl | rfl <;> decide
  intro Z hP hav hwr B
  obtain ⟨l_w, u_w⟩ : zR w := hav (.inl w) (by simp)
  obtain ⟨l_at_, u_at_⟩ : zR at_ := hav (.inl at_) (by simp)
  obtain ⟨l_m_words, u_m_words⟩ : zR m_words := zWr_at hwr (i := 0) rfl (.inl m_words) (by simp)
  obtain ⟨l_m_long1, u_m_long1⟩ : zR m_long1 := zWr_at hwr (i := 0) rfl (.inl m_long1) (by simp)
  obtain ⟨l_m_signs, u_m_signs⟩ : zR m_signs := zWr_at hwr (i := 0) rfl (.inl m_signs) (by simp)
  obtain ⟨l_m_readSize, u_m_readSize⟩ : zR m_readSize := zWr_at hwr (i := 0) rfl (.inl m_readSize) (by simp)
  obtain ⟨l_m_readKind, u_m_readKind⟩ : zR m_readKind := zWr_at hwr (i := 0) rfl (.inl m_readKind) (by simp)
  obtain ⟨l_m_readCost, u_m_readCost⟩ : zR m_readCost := zWr_at hwr (i := 0) rfl (.inl m_readCost) (by simp)
  obtain ⟨l_m_many, u_m_many⟩ : zR m_many := zWr_at hwr (i := 0) rfl (.inl m_many) (by simp)
  obtain ⟨hD, hw⟩ := hP
  obtain ⟨hD1, hD2, hD3⟩ := id hD
  have hd := hD.at (x := w) (by omega) (by omega)
  have key : ∀ mu_ : Nat, (∀ (lv : List (Option zV)) (ws : zW), (∃ (al : Int) (q : Int), lv = [some (.inr (some m_a)), some (.inl w), some (.inl at_), some (.inl al), some (.inl q)] ∧ ws = [(m_a, .inr (.inr (7, [.inr (some m_letters_a), .inr (some m_size_a), .inr (some m_kind_a), .inr (some m_cost_a), .inl m_words, .inr (some m_joins_a), .inr (some m_rules_a), .inr (some m_line_a), .inl m_long1, .inl m_signs, .inr (some m_pad_a), .inl m_readSize, .inl m_readKind, .inl m_readCost, .inr (some m_place_a), .inr (some m_length_a), .inr (some m_sort_a), .inr (some m_price_a), .inr (some m_of_a), .inr (some m_begins_a), .inl m_many, .inr (some m_rowCost_a), .inr (some m_rowNext_a), .inr (some m_rows_a), .inr (some m_ahead_a), .inr (some m_waysTo_a), .inr (some m_image_a), .inr (some m_isKept_a)]))), (m_letters_a, .inl (false, 96, m_letters)), (m_size_a, .inl (false, 16, m_size)), (m_kind_a, .inl (false, 16, m_kind)), (m_cost_a, .inl (false, 16, m_cost)), (m_joins_a, .inl (false, 25, m_joins)), (m_rules_a, .inl (false, 4, m_rules)), (m_line_a, .inl (false, 24, m_line)), (m_pad_a, .inl (false, 40, m_pad)), (m_place_a, .inl (false, 480, m_place)), (m_length_a, .inl (false, 480, m_length)), (m_sort_a, .inl (false, 480, m_sort)), (m_price_a, .inl (false, 480, m_price)), (m_of_a, .inl (false, 480, m_of)), (m_begins_a, .inl (false, 26, m_begins)), (m_rowCost_a, .inl (false, 5760, m_rowCost)), (m_rowNext_a, .inl (false, 5760, m_rowNext)), (m_rows_a, .inl (false, 480, m_rows)), (m_ahead_a, .inl (false, 480, m_ahead)), (m_waysTo_a, .inl (false, 26, m_waysTo)), (m_image_a, .inl (false, 460, m_image)), (m_isKept_a, .inl (true, 2, m_isKept))] ∧ mu_ = (m_size w.toNat - q).toNat ∧ (0 ≤ q ∧ q ≤ m_size w.toNat ∧ (al = 0 ∨ al = 1) ∧ (al = 1 → at_ + m_size w.toNat ≤ m_long1))) → Z 0 0 24 lv [] ws) := by
    intro mu_
    induction mu_ using Nat.strongRecOn with
    | _ mu_ ih =>
      · intro lv ws hJ
        obtain ⟨al, q, rfl, rfl, rfl, hi⟩ := hJ
        refine B.iload (pc := 24) dX7_stands_24 rfl ?_
        refine B.aload_n (pc := 26) (i := 0) dX7_stands_26 rfl rfl ?_
        refine B.getfield (pc := 27) 0 rfl rfl inX7z 1 (by decide) fl_X7_13 rfl dX7_stands_27 ?_
        refine B.iload_n (pc := 30) (i := 1) dX7_stands_30 rfl rfl ?_
        refine B.iaload (pc := 31) 2 rfl (by omega) (by omega) dX7_stands_31 (fun r31 => ?_)
        obtain ⟨lr31, ur31⟩ := r31
        refine B.icmp_ge (pc := 32) (tgt := 75) dX7_stands_32 (by decide) (fun c32 => ?_) (fun c32 => ?_)
        · refine B.iload_n (pc := 75) (i := 3) dX7_stands_75 rfl rfl ?_
          refine B.ireturn (pc := 76) (by simp) dX7_stands_76 (Nat.le_refl _) (Nat.le_refl _) (fun rz rw => ⟨rfl, ?_⟩)
          omega
        · refine B.iload_n (pc := 35) (i := 3) dX7_stands_35 rfl rfl ?_
          refine B.if_eq (pc := 36) (tgt := 75) dX7_stands_36 (by decide) (fun c36 => ?_) (fun c36 => ?_)
          · refine B.iload_n (pc := 75) (i := 3) dX7_stands_75 rfl rfl ?_
            refine B.ireturn (pc := 76) (by simp) dX7_stands_76 (Nat.le_refl _) (Nat.le_refl _) (fun rz rw => ⟨rfl, ?_⟩)
            omega
          · refine B.aload_n (pc := 39) (i := 0) dX7_stands_39 rfl rfl ?_
            refine B.getfield (pc := 40) 0 rfl rfl inX7z 7 (by decide) fl_X7_28 rfl dX7_stands_40 ?_
            refine B.iload_n (pc := 43) (i := 2) dX7_stands_43 rfl rfl ?_
            refine B.iload (pc := 44) dX7_stands_44 rfl ?_
            refine B.iadd (pc := 46) dX7_stands_46 ⟨by omega, by omega⟩ ?_
            refine B.iaload (pc := 47) 7 rfl (by omega) (by omega) dX7_stands_47 (fun r47 => ?_)
            obtain ⟨lr47, ur47⟩ := r47
            refine B.aload_n (pc := 48) (i := 0) dX7_stands_48 rfl rfl ?_
            refine B.getfield (pc := 49) 0 rfl rfl inX7z 0 (by decide) fl_X7_7 rfl dX7_stands_49 ?_
            refine B.bipush (pc := 52) dX7_stands_52 ⟨by decide, by decide⟩ ?_
            refine B.iload_n (pc := 54) (i := 1) dX7_stands_54 rfl rfl ?_
            refine B.imul (pc := 55) dX7_stands_55 ⟨by omega, by omega⟩ ?_
            refine B.iload (pc := 56) dX7_stands_56 rfl ?_
            refine B.iadd (pc := 58) dX7_stands_58 ⟨by omega, by omega⟩ ?_
            refine B.iaload (pc := 59) 1 rfl (by omega) (by omega) dX7_stands_59 (fun r59 => ?_)
            obtain ⟨lr59, ur59⟩ := r59
            refine B.icmp_ne (pc := 60) (tgt := 67) dX7_stands_60 (by decide) (fun c60 => ?_) (fun c60 => ?_)
            · refine B.iconst (pc := 67) dX7_stands_67 ⟨by decide, by decide⟩ ?_
              refine B.istore_n (pc := 68) (i := 3) dX7_stands_68 rfl (by decide) ?_
              simp only [List.set_cons_zero, List.set_cons_succ]
              refine B.iinc (pc := 69) dX7_stands_69 (by decide) rfl ⟨by omega, by omega⟩ ?_
              simp only [List.set_cons_zero, List.set_cons_succ]
              refine B.goto (pc := 72) (tgt := 24) dX7_stands_72 (by decide) ?_
              refine (ih _ ?_) _ _ ⟨_, _, rfl, rfl, rfl, ?_⟩
              · omega
              · omega
            · refine B.iconst (pc := 63) dX7_stands_63 ⟨by decide, by decide⟩ ?_
              refine B.goto (pc := 64) (tgt := 68) dX7_stands_64 (by decide) ?_
              refine B.istore_n (pc := 68) (i := 3) dX7_stands_68 rfl (by decide) ?_
              simp only [List.set_cons_zero, List.set_cons_succ]
              refine B.iinc (pc := 69) dX7_stands_69 (by decide) rfl ⟨by omega, by omega⟩ ?_
              simp only [List.set_cons_zero, List.set_cons_succ]
              refine B.goto (pc := 72) (tgt := 24) dX7_stands_72 (by decide) ?_
              refine (ih _ ?_) _ _ ⟨_, _, rfl, rfl, rfl, ?_⟩
              · omega
              · omega
  show Z 0 0 0 [some (.inr (some m_a)), some (.inl w), some (.inl at_), none, none] [] _
  refine B.iload_n (pc := 0) (i := 2) dX7_stands_0 rfl rfl ?_
  refine B.aload_n (pc := 1) (i := 0) dX7_stands_1 rfl rfl ?_
  refine B.getfield (pc := 2) 0 rfl rfl inX7z 1 (by decide) fl_X7_13 rfl dX7_stands_2 ?_
  refine B.iload_n (pc := 5) (i := 1) dX7_stands_5 rfl rfl ?_
  refine B.iaload (pc := 6) 2 rfl (by omega) (by omega) dX7_stands_6 (fun r6 => ?_)
  obtain ⟨lr6, ur6⟩ := r6
  refine B.iadd (pc := 7) dX7_stands_7 ⟨by omega, by omega⟩ ?_
  refine B.aload_n (pc := 8) (i := 0) dX7_stands_8 rfl rfl ?_
  refine B.getfield (pc := 9) 0 rfl rfl inX7z 8 (by decide) fl_X7_109 rfl dX7_stands_9 ?_
  refine B.icmp_gt (pc := 12) (tgt := 19) dX7_stands_12 (by decide) (fun c12 => ?_) (fun c12 => ?_)
  · refine B.iconst (pc := 19) dX7_stands_19 ⟨by decide, by decide⟩ ?_
    refine B.istore_n (pc := 20) (i := 3) dX7_stands_20 rfl (by decide) ?_
    simp only [List.set_cons_zero, List.set_cons_succ]
    refine B.iconst (pc := 21) dX7_stands_21 ⟨by decide, by decide⟩ ?_
    refine B.istore (pc := 22) (i := 4) dX7_stands_22 (by decide) ?_
    simp only [List.set_cons_zero, List.set_cons_succ]
    refine (key _) _ _ ⟨_, _, rfl, rfl, rfl, ?_⟩
    omega
  · refine B.iconst (pc := 15) dX7_stands_15 ⟨by decide, by decide⟩ ?_
    refine B.goto (pc := 16) (tgt := 20) dX7_stands_16 (by decide) ?_
    refine B.istore_n (pc := 20) (i := 3) dX7_stands_20 rfl (by decide) ?_
    simp only [List.set_cons_zero, List.set_cons_succ]
    refine B.iconst (pc := 21) dX7_stands_21 ⟨by decide, by decide⟩ ?_
    refine B.istore (pc := 22) (i := 4) dX7_stands_22 (by decide) ?_
    simp only [List.set_cons_zero, List.set_cons_succ]
    refine (key _) _ _ ⟨_, _, rfl, rfl, rfl, ?_⟩
    omega
set_option maxHeartbeats 4000000 in
set_option maxRecDepth 100000 in
theorem mX7_put {l : Launch} {D : va_G} {k : zK} {E : zE} (hE : zEok E) (m_a m_letters_a m_size_a m_kind_a m_cost_a m_joins_a m_rules_a m_line_a m_pad_a m_place_a m_length_a m_sort_a m_price_a m_of_a m_begins_a m_rowCost_a m_rowNext_a m_rows_a m_ahead_a m_waysTo_a m_image_a m_isKept_a : Nat) (m_words m_long1 m_signs m_readSize m_readKind m_readCost m_many at_ n kd c w : Int) (m_letters m_size m_kind m_cost m_joins m_rules m_line m_pad m_place m_length m_sort m_price m_of m_begins m_rowCost m_rowNext m_rows m_ahead m_waysTo m_image m_isKept : Nat → Int) : zMv l D k E yX7_put cX7_put 6 { frames := 0, cells := 0, slots := 0, locals := 0 } 0 0 [.inr (some m_a), .inl at_, .inl n, .inl kd, .inl c, .inl w] [(m_a, .inr (.inr (7, [.inr (some m_letters_a), .inr (some m_size_a), .inr (some m_kind_a), .inr (some m_cost_a), .inl m_words, .inr (some m_joins_a), .inr (some m_rules_a), .inr (some m_line_a), .inl m_long1, .inl m_signs, .inr (some m_pad_a), .inl m_readSize, .inl m_readKind, .inl m_readCost, .inr (some m_place_a), .inr (some m_length_a), .inr (some m_sort_a), .inr (some m_price_a), .inr (some m_of_a), .inr (some m_begins_a), .inl m_many, .inr (some m_rowCost_a), .inr (some m_rowNext_a), .inr (some m_rows_a), .inr (some m_ahead_a), .inr (some m_waysTo_a), .inr (some m_image_a), .inr (some m_isKept_a)]))), (m_letters_a, .inl (false, 96, m_letters)), (m_size_a, .inl (false, 16, m_size)), (m_kind_a, .inl (false, 16, m_kind)), (m_cost_a, .inl (false, 16, m_cost)), (m_joins_a, .inl (false, 25, m_joins)), (m_rules_a, .inl (false, 4, m_rules)), (m_line_a, .inl (false, 24, m_line)), (m_pad_a, .inl (false, 40, m_pad)), (m_place_a, .inl (false, 480, m_place)), (m_length_a, .inl (false, 480, m_length)), (m_sort_a, .inl (false, 480, m_sort)), (m_price_a, .inl (false, 480, m_price)), (m_of_a, .inl (false, 480, m_of)), (m_begins_a, .inl (false, 26, m_begins)), (m_rowCost_a, .inl (false, 5760, m_rowCost)), (m_rowNext_a, .inl (false, 5760, m_rowNext)), (m_rows_a, .inl (false, 480, m_rows)), (m_ahead_a, .inl (false, 480, m_ahead)), (m_waysTo_a, .inl (false, 26, m_waysTo)), (m_image_a, .inl (false, 460, m_image)), (m_isKept_a, .inl (true, 2, m_isKept))] (0 ≤ m_many ∧ m_many < 480) (fun z u => ∃ (m_many' : Int) (m_place' : Nat → Int) (m_length' : Nat → Int) (m_sort' : Nat → Int) (m_price' : Nat → Int) (m_of' : Nat → Int), u = [(m_a, .inr (.inr (7, [.inr (some m_letters_a), .inr (some m_size_a), .inr (some m_kind_a), .inr (some m_cost_a), .inl m_words, .inr (some m_joins_a), .inr (some m_rules_a), .inr (some m_line_a), .inl m_long1, .inl m_signs, .inr (some m_pad_a), .inl m_readSize, .inl m_readKind, .inl m_readCost, .inr (some m_place_a), .inr (some m_length_a), .inr (some m_sort_a), .inr (some m_price_a), .inr (some m_of_a), .inr (some m_begins_a), .inl m_many', .inr (some m_rowCost_a), .inr (some m_rowNext_a), .inr (some m_rows_a), .inr (some m_ahead_a), .inr (some m_waysTo_a), .inr (some m_image_a), .inr (some m_isKept_a)]))), (m_letters_a, .inl (false, 96, m_letters)), (m_size_a, .inl (false, 16, m_size)), (m_kind_a, .inl (false, 16, m_kind)), (m_cost_a, .inl (false, 16, m_cost)), (m_joins_a, .inl (false, 25, m_joins)), (m_rules_a, .inl (false, 4, m_rules)), (m_line_a, .inl (false, 24, m_line)), (m_pad_a, .inl (false, 40, m_pad)), (m_place_a, .inl (false, 480, m_place')), (m_length_a, .inl (false, 480, m_length')), (m_sort_a, .inl (false, 480, m_sort')), (m_price_a, .inl (false, 480, m_price')), (m_of_a, .inl (false, 480, m_of')), (m_begins_a, .inl (false, 26, m_begins)), (m_rowCost_a, .inl (false, 5760, m_rowCost)), (m_rowNext_a, .inl (false, 5760, m_rowNext)), (m_rows_a, .inl (false, 480, m_rows)), (m_ahead_a, .inl (false, 480, m_ahead)), (m_waysTo_a, .inl (false, 26, m_waysTo)), (m_image_a, .inl (false, 460, m_image)), (m_isKept_a, .inl (true, 2, m_isKept))] ∧ (m_many' = m_many + 1 ∧ m_place' = zup m_place m_many.toNat at_ ∧ m_length' = zup m_length m_many.toNat n ∧ m_sort' = zup m_sort m_many.toNat kd)) := by
  refine zMv.of RX7 hE (by decide) rfl (by simp) ?_
  intro Z hP hav hwr B
  obtain ⟨l_at_, u_at_⟩ : zR at_ := hav (.inl at_) (by simp)
  obtain ⟨l_n, u_n⟩ : zR n := hav (.inl n) (by simp)
  obtain ⟨l_kd, u_kd⟩ : zR kd := hav (.inl kd) (by simp)
  obtain ⟨l_c, u_c⟩ : zR c := hav (.inl c) (by simp)
  obtain ⟨l_w, u_w⟩ : zR w := hav (.inl w) (by simp)
  obtain ⟨l_m_words, u_m_words⟩ : zR m_words := zWr_at hwr (i := 0) rfl (.inl m_words) (by simp)
  obtain ⟨l_m_long1, u_m_long1⟩ : zR m_long1 := zWr_at hwr (i := 0) rfl (.inl m_long1) (by simp)
  obtain ⟨l_m_signs, u_m_signs⟩ : zR m_signs := zWr_at hwr (i := 0) rfl (.inl m_signs) (by simp)
  obtain ⟨l_m_readSize, u_m_readSize⟩ : zR m_readSize := zWr_at hwr (i := 0) rfl (.inl m_readSize) (by simp)
  obtain ⟨l_m_readKind, u_m_readKind⟩ : zR m_readKind := zWr_at hwr (i := 0) rfl (.inl m_readKind) (by simp)
  obtain ⟨l_m_readCost, u_m_readCost⟩ : zR m_readCost := zWr_at hwr (i := 0) rfl (.inl m_readCost) (by simp)
  obtain ⟨l_m_many, u_m_many⟩ : zR m_many := zWr_at hwr (i := 0) rfl (.inl m_many) (by simp)
  show Z 0 0 0 [some (.inr (some m_a)), some (.inl at_), some (.inl n), some (.inl kd), some (.inl c), some (.inl w)] [] _
  refine B.aload_n (pc := 0) (i := 0) dX7_put_0 rfl rfl ?_
  refine B.getfield (pc := 1) 0 rfl rfl inX7z 14 (by decide) fl_X7_34 rfl dX7_put_1 ?_
  refine B.aload_n (pc := 4) (i := 0) dX7_put_4 rfl rfl ?_
  refine B.getfield (pc := 5) 0 rfl rfl inX7z 20 (by decide) fl_X7_112 rfl dX7_put_5 ?_
  refine B.iload_n (pc := 8) (i := 1) dX7_put_8 rfl rfl ?_
  refine B.iastore (pc := 9) 9 rfl (by omega) (by omega) dX7_put_9 ?_
  simp only [List.set_cons_zero, List.set_cons_succ]
  refine B.aload_n (pc := 10) (i := 0) dX7_put_10 rfl rfl ?_
  refine B.getfield (pc := 11) 0 rfl rfl inX7z 15 (by decide) fl_X7_37 rfl dX7_put_11 ?_
  refine B.aload_n (pc := 14) (i := 0) dX7_put_14 rfl rfl ?_
  refine B.getfield (pc := 15) 0 rfl rfl inX7z 20 (by decide) fl_X7_112 rfl dX7_put_15 ?_
  refine B.iload_n (pc := 18) (i := 2) dX7_put_18 rfl rfl ?_
  refine B.iastore (pc := 19) 10 rfl (by omega) (by omega) dX7_put_19 ?_
  simp only [List.set_cons_zero, List.set_cons_succ]
  refine B.aload_n (pc := 20) (i := 0) dX7_put_20 rfl rfl ?_
  refine B.getfield (pc := 21) 0 rfl rfl inX7z 16 (by decide) fl_X7_40 rfl dX7_put_21 ?_
  refine B.aload_n (pc := 24) (i := 0) dX7_put_24 rfl rfl ?_
  refine B.getfield (pc := 25) 0 rfl rfl inX7z 20 (by decide) fl_X7_112 rfl dX7_put_25 ?_
  refine B.iload_n (pc := 28) (i := 3) dX7_put_28 rfl rfl ?_
  refine B.iastore (pc := 29) 11 rfl (by omega) (by omega) dX7_put_29 ?_
  simp only [List.set_cons_zero, List.set_cons_succ]
  refine B.aload_n (pc := 30) (i := 0) dX7_put_30 rfl rfl ?_
  refine B.getfield (pc := 31) 0 rfl rfl inX7z 17 (by decide) fl_X7_43 rfl dX7_put_31 ?_
  refine B.aload_n (pc := 34) (i := 0) dX7_put_34 rfl rfl ?_
  refine B.getfield (pc := 35) 0 rfl rfl inX7z 20 (by decide) fl_X7_112 rfl dX7_put_35 ?_
  refine B.iload (pc := 38) dX7_put_38 rfl ?_
  refine B.iastore (pc := 40) 12 rfl (by omega) (by omega) dX7_put_40 ?_
  simp only [List.set_cons_zero, List.set_cons_succ]
  refine B.aload_n (pc := 41) (i := 0) dX7_put_41 rfl rfl ?_
  refine B.getfield (pc := 42) 0 rfl rfl inX7z 18 (by decide) fl_X7_46 rfl dX7_put_42 ?_
  refine B.aload_n (pc := 45) (i := 0) dX7_put_45 rfl rfl ?_
  refine B.getfield (pc := 46) 0 rfl rfl inX7z 20 (by decide) fl_X7_112 rfl dX7_put_46 ?_
  refine B.iload (pc := 49) dX7_put_49 rfl ?_
  refine B.iastore (pc := 51) 13 rfl (by omega) (by omega) dX7_put_51 ?_
  simp only [List.set_cons_zero, List.set_cons_succ]
  refine B.aload_n (pc := 52) (i := 0) dX7_put_52 rfl rfl ?_
  refine B.dup (pc := 53) dX7_put_53 ?_
  refine B.getfield (pc := 54) 0 rfl rfl inX7z 20 (by decide) fl_X7_112 rfl dX7_put_54 ?_
  refine B.iconst (pc := 57) dX7_put_57 ⟨by decide, by decide⟩ ?_
  refine B.iadd (pc := 58) dX7_put_58 ⟨by omega, by omega⟩ ?_
  refine B.putfield (pc := 59) 0 rfl rfl inX7z tyX7 tyX7_ok nmX7 20 (by decide) fl_X7_112 rfl rfl rfl (Nat.le_of_ble_eq_true rfl) dX7_put_59 ?_
  simp only [List.set_cons_zero, List.set_cons_succ]
  refine B.vreturn (pc := 62) rfl dX7_put_62 (Nat.le_refl _) (Nat.le_refl _) (fun rw => ⟨_, _, _, _, _, _, rfl, ?_⟩)
  exact ⟨rfl, rfl, rfl, rfl⟩
