set_option maxHeartbeats 4000000 in
set_option maxRecDepth 100000 in
theorem mX7_behind {l : Launch} {D : va_G} {k : zK} {E : zE} (hE : zEok E) (m_a m_letters_a m_size_a m_kind_a m_cost_a m_joins_a m_rules_a m_line_a m_pad_a m_place_a m_length_a m_sort_a m_price_a m_of_a m_begins_a m_rowCost_a m_rowNext_a m_rows_a m_ahead_a m_waysTo_a m_image_a m_isKept_a : Nat) (m_words m_long1 m_signs m_readSize m_readKind m_readCost m_many x : Int) (m_letters m_size m_kind m_cost m_joins m_rules m_line m_pad m_place m_length m_sort m_price m_of m_begins m_rowCost m_rowNext m_rows m_ahead m_waysTo m_image m_isKept : Nat → Int) : zMi l D k E yX7_behind cX7_behind 2 .int { frames := 0, cells := 0, slots := 0, locals := 0 } 0 0 [.inr (some m_a), .inl x] [(m_a, .inr (.inr (7, [.inr (some m_letters_a), .inr (some m_size_a), .inr (some m_kind_a), .inr (some m_cost_a), .inl m_words, .inr (some m_joins_a), .inr (some m_rules_a), .inr (some m_line_a), .inl m_long1, .inl m_signs, .inr (some m_pad_a), .inl m_readSize, .inl m_readKind, .inl m_readCost, .inr (some m_place_a), .inr (some m_length_a), .inr (some m_sort_a), .inr (some m_price_a), .inr (some m_of_a), .inr (some m_begins_a), .inl m_many, .inr (some m_rowCost_a), .inr (some m_rowNext_a), .inr (some m_rows_a), .inr (some m_ahead_a), .inr (some m_waysTo_a), .inr (some m_image_a), .inr (some m_isKept_a)]))), (m_letters_a, .inl (false, 96, m_letters)), (m_size_a, .inl (false, 16, m_size)), (m_kind_a, .inl (false, 16, m_kind)), (m_cost_a, .inl (false, 16, m_cost)), (m_joins_a, .inl (false, 25, m_joins)), (m_rules_a, .inl (false, 4, m_rules)), (m_line_a, .inl (false, 24, m_line)), (m_pad_a, .inl (false, 40, m_pad)), (m_place_a, .inl (false, 480, m_place)), (m_length_a, .inl (false, 480, m_length)), (m_sort_a, .inl (false, 480, m_sort)), (m_price_a, .inl (false, 480, m_price)), (m_of_a, .inl (false, 480, m_of)), (m_begins_a, .inl (false, 26, m_begins)), (m_rowCost_a, .inl (false, 5760, m_rowCost)), (m_rowNext_a, .inl (false, 5760, m_rowNext)), (m_rows_a, .inl (false, 480, m_rows)), (m_ahead_a, .inl (false, 480, m_ahead)), (m_waysTo_a, .inl (false, 26, m_waysTo)), (m_image_a, .inl (false, 460, m_image)), (m_isKept_a, .inl (true, 2, m_isKept))] (LB m_place m_length m_sort m_long1 m_many ∧ m_long1 ≤ 24 ∧ m_many ≤ 480 ∧ 0 ≤ x ∧ x < m_many) (fun z u => u = [(m_a, .inr (.inr (7, [.inr (some m_letters_a), .inr (some m_size_a), .inr (some m_kind_a), .inr (some m_cost_a), .inl m_words, .inr (some m_joins_a), .inr (some m_rules_a), .inr (some m_line_a), .inl m_long1, .inl m_signs, .inr (some m_pad_a), .inl m_readSize, .inl m_readKind, .inl m_readCost, .inr (some m_place_a), .inr (some m_length_a), .inr (some m_sort_a), .inr (some m_price_a), .inr (some m_of_a), .inr (some m_begins_a), .inl m_many, .inr (some m_rowCost_a), .inr (some m_rowNext_a), .inr (some m_rows_a), .inr (some m_ahead_a), .inr (some m_waysTo_a), .inr (some m_image_a), .inr (some m_isKept_a)]))), (m_letters_a, .inl (false, 96, m_letters)), (m_size_a, .inl (false, 16, m_size)), (m_kind_a, .inl (false, 16, m_kind)), (m_cost_a, .inl (false, 16, m_cost)), (m_joins_a, .inl (false, 25, m_joins)), (m_rules_a, .inl (false, 4, m_rules)), (m_line_a, .inl (false, 24, m_line)), (m_pad_a, .inl (false, 40, m_pad)), (m_place_a, .inl (false, 480, m_place)), (m_length_a, .inl (false, 480, m_length)), (m_sort_a, .inl (false, 480, m_sort)), (m_price_a, .inl (false, 480, m_price)), (m_of_a, .inl (false, 480, m_of)), (m_begins_a, .inl (false, 26, m_begins)), (m_rowCost_a, .inl (false, 5760, m_rowCost)), (m_rowNext_a, .inl (false, 5760, m_rowNext)), (m_rows_a, .inl (false, 480, m_rows)), (m_ahead_a, .inl (false, 480, m_ahead)), (m_waysTo_a, .inl (false, 26, m_waysTo)), (m_image_a, .inl (false, 460, m_image)), (m_isKept_a, .inl (true, 2, m_isKept))] ∧ (z = m_place x.toNat + m_length x.toNat)) := by
  refine zMi.of RX7 hE (by decide) rfl (by simp) (fun _ _ _ _ => rfl) ?_
  intro Z hP hav hwr B
  obtain ⟨l_x, u_x⟩ : zR x := hav (.inl x) (by simp)
  obtain ⟨l_m_words, u_m_words⟩ : zR m_words := zWr_at hwr (i := 0) rfl (.inl m_words) (by simp)
  obtain ⟨l_m_long1, u_m_long1⟩ : zR m_long1 := zWr_at hwr (i := 0) rfl (.inl m_long1) (by simp)
  obtain ⟨l_m_signs, u_m_signs⟩ : zR m_signs := zWr_at hwr (i := 0) rfl (.inl m_signs) (by simp)
  obtain ⟨l_m_readSize, u_m_readSize⟩ : zR m_readSize := zWr_at hwr (i := 0) rfl (.inl m_readSize) (by simp)
  obtain ⟨l_m_readKind, u_m_readKind⟩ : zR m_readKind := zWr_at hwr (i := 0) rfl (.inl m_readKind) (by simp)
  obtain ⟨l_m_readCost, u_m_readCost⟩ : zR m_readCost := zWr_at hwr (i := 0) rfl (.inl m_readCost) (by simp)
  obtain ⟨l_m_many, u_m_many⟩ : zR m_many := zWr_at hwr (i := 0) rfl (.inl m_many) (by simp)
  obtain ⟨hL, hx⟩ := hP
  have hl := hL.at (x := x) (by omega) (by omega)
  show Z 0 0 0 [some (.inr (some m_a)), some (.inl x)] [] _
  refine B.aload_n (pc := 0) (i := 0) dX7_behind_0 rfl rfl ?_
  refine B.getfield (pc := 1) 0 rfl rfl inX7z 14 (by decide) fl_X7_34 rfl dX7_behind_1 ?_
  refine B.iload_n (pc := 4) (i := 1) dX7_behind_4 rfl rfl ?_
  refine B.iaload (pc := 5) 9 rfl (by omega) (by omega) dX7_behind_5 (fun r5 => ?_)
  obtain ⟨lr5, ur5⟩ := r5
  refine B.aload_n (pc := 6) (i := 0) dX7_behind_6 rfl rfl ?_
  refine B.getfield (pc := 7) 0 rfl rfl inX7z 15 (by decide) fl_X7_37 rfl dX7_behind_7 ?_
  refine B.iload_n (pc := 10) (i := 1) dX7_behind_10 rfl rfl ?_
  refine B.iaload (pc := 11) 10 rfl (by omega) (by omega) dX7_behind_11 (fun r11 => ?_)
  obtain ⟨lr11, ur11⟩ := r11
  refine B.iadd (pc := 12) dX7_behind_12 ⟨by omega, by omega⟩ ?_
  refine B.ireturn (pc := 13) (by simp) dX7_behind_13 (Nat.le_refl _) (Nat.le_refl _) (fun rz rw => ⟨rfl, ?_⟩)
  rfl
set_option maxHeartbeats 4000000 in
set_option maxRecDepth 100000 in
theorem mX7_joinOf {l : Launch} {D : va_G} {k : zK} {E : zE} (hE : zEok E) (m_a m_letters_a m_size_a m_kind_a m_cost_a m_joins_a m_rules_a m_line_a m_pad_a m_place_a m_length_a m_sort_a m_price_a m_of_a m_begins_a m_rowCost_a m_rowNext_a m_rows_a m_ahead_a m_waysTo_a m_image_a m_isKept_a : Nat) (m_words m_long1 m_signs m_readSize m_readKind m_readCost m_many x y : Int) (m_letters m_size m_kind m_cost m_joins m_rules m_line m_pad m_place m_length m_sort m_price m_of m_begins m_rowCost m_rowNext m_rows m_ahead m_waysTo m_image m_isKept : Nat → Int) : zMi l D k E yX7_joinOf cX7_joinOf 3 .int { frames := 0, cells := 0, slots := 0, locals := 0 } 0 0 [.inr (some m_a), .inl x, .inl y] [(m_a, .inr (.inr (7, [.inr (some m_letters_a), .inr (some m_size_a), .inr (some m_kind_a), .inr (some m_cost_a), .inl m_words, .inr (some m_joins_a), .inr (some m_rules_a), .inr (some m_line_a), .inl m_long1, .inl m_signs, .inr (some m_pad_a), .inl m_readSize, .inl m_readKind, .inl m_readCost, .inr (some m_place_a), .inr (some m_length_a), .inr (some m_sort_a), .inr (some m_price_a), .inr (some m_of_a), .inr (some m_begins_a), .inl m_many, .inr (some m_rowCost_a), .inr (some m_rowNext_a), .inr (some m_rows_a), .inr (some m_ahead_a), .inr (some m_waysTo_a), .inr (some m_image_a), .inr (some m_isKept_a)]))), (m_letters_a, .inl (false, 96, m_letters)), (m_size_a, .inl (false, 16, m_size)), (m_kind_a, .inl (false, 16, m_kind)), (m_cost_a, .inl (false, 16, m_cost)), (m_joins_a, .inl (false, 25, m_joins)), (m_rules_a, .inl (false, 4, m_rules)), (m_line_a, .inl (false, 24, m_line)), (m_pad_a, .inl (false, 40, m_pad)), (m_place_a, .inl (false, 480, m_place)), (m_length_a, .inl (false, 480, m_length)), (m_sort_a, .inl (false, 480, m_sort)), (m_price_a, .inl (false, 480, m_price)), (m_of_a, .inl (false, 480, m_of)), (m_begins_a, .inl (false, 26, m_begins)), (m_rowCost_a, .inl (false, 5760, m_rowCost)), (m_rowNext_a, .inl (false, 5760, m_rowNext)), (m_rows_a, .inl (false, 480, m_rows)), (m_ahead_a, .inl (false, 480, m_ahead)), (m_waysTo_a, .inl (false, 26, m_waysTo)), (m_image_a, .inl (false, 460, m_image)), (m_isKept_a, .inl (true, 2, m_isKept))] (LB m_place m_length m_sort m_long1 m_many ∧ m_many ≤ 480 ∧ 0 ≤ x ∧ x < m_many ∧ 0 ≤ y ∧ y < m_many) (fun z u => u = [(m_a, .inr (.inr (7, [.inr (some m_letters_a), .inr (some m_size_a), .inr (some m_kind_a), .inr (some m_cost_a), .inl m_words, .inr (some m_joins_a), .inr (some m_rules_a), .inr (some m_line_a), .inl m_long1, .inl m_signs, .inr (some m_pad_a), .inl m_readSize, .inl m_readKind, .inl m_readCost, .inr (some m_place_a), .inr (some m_length_a), .inr (some m_sort_a), .inr (some m_price_a), .inr (some m_of_a), .inr (some m_begins_a), .inl m_many, .inr (some m_rowCost_a), .inr (some m_rowNext_a), .inr (some m_rows_a), .inr (some m_ahead_a), .inr (some m_waysTo_a), .inr (some m_image_a), .inr (some m_isKept_a)]))), (m_letters_a, .inl (false, 96, m_letters)), (m_size_a, .inl (false, 16, m_size)), (m_kind_a, .inl (false, 16, m_kind)), (m_cost_a, .inl (false, 16, m_cost)), (m_joins_a, .inl (false, 25, m_joins)), (m_rules_a, .inl (false, 4, m_rules)), (m_line_a, .inl (false, 24, m_line)), (m_pad_a, .inl (false, 40, m_pad)), (m_place_a, .inl (false, 480, m_place)), (m_length_a, .inl (false, 480, m_length)), (m_sort_a, .inl (false, 480, m_sort)), (m_price_a, .inl (false, 480, m_price)), (m_of_a, .inl (false, 480, m_of)), (m_begins_a, .inl (false, 26, m_begins)), (m_rowCost_a, .inl (false, 5760, m_rowCost)), (m_rowNext_a, .inl (false, 5760, m_rowNext)), (m_rows_a, .inl (false, 480, m_rows)), (m_ahead_a, .inl (false, 480, m_ahead)), (m_waysTo_a, .inl (false, 26, m_waysTo)), (m_image_a, .inl (false, 460, m_image)), (m_isKept_a, .inl (true, 2, m_isKept))] ∧ (True)) := by
  refine zMi.of RX7 hE (by decide) rfl (by simp) (fun _ _ _ _ => rfl) ?_
  intro Z hP hav hwr B
  obtain ⟨l_x, u_x⟩ : zR x := hav (.inl x) (by simp)
  obtain ⟨l_y, u_y⟩ : zR y := hav (.inl y) (by simp)
  obtain ⟨l_m_words, u_m_words⟩ : zR m_words := zWr_at hwr (i := 0) rfl (.inl m_words) (by simp)
  obtain ⟨l_m_long1, u_m_long1⟩ : zR m_long1 := zWr_at hwr (i := 0) rfl (.inl m_long1) (by simp)
  obtain ⟨l_m_signs, u_m_signs⟩ : zR m_signs := zWr_at hwr (i := 0) rfl (.inl m_signs) (by simp)
  obtain ⟨l_m_readSize, u_m_readSize⟩ : zR m_readSize := zWr_at hwr (i := 0) rfl (.inl m_readSize) (by simp)
  obtain ⟨l_m_readKind, u_m_readKind⟩ : zR m_readKind := zWr_at hwr (i := 0) rfl (.inl m_readKind) (by simp)
  obtain ⟨l_m_readCost, u_m_readCost⟩ : zR m_readCost := zWr_at hwr (i := 0) rfl (.inl m_readCost) (by simp)
  obtain ⟨l_m_many, u_m_many⟩ : zR m_many := zWr_at hwr (i := 0) rfl (.inl m_many) (by simp)
  obtain ⟨hL, hx⟩ := hP
  have hl := hL.at (x := x) (by omega) (by omega)
  have hl2 := hL.at (x := y) (by omega) (by omega)
  show Z 0 0 0 [some (.inr (some m_a)), some (.inl x), some (.inl y)] [] _
  refine B.aload_n (pc := 0) (i := 0) dX7_joinOf_0 rfl rfl ?_
  refine B.getfield (pc := 1) 0 rfl rfl inX7z 5 (by decide) fl_X7_22 rfl dX7_joinOf_1 ?_
  refine B.iconst (pc := 4) dX7_joinOf_4 ⟨by decide, by decide⟩ ?_
  refine B.aload_n (pc := 5) (i := 0) dX7_joinOf_5 rfl rfl ?_
  refine B.getfield (pc := 6) 0 rfl rfl inX7z 16 (by decide) fl_X7_40 rfl dX7_joinOf_6 ?_
  refine B.iload_n (pc := 9) (i := 1) dX7_joinOf_9 rfl rfl ?_
  refine B.iaload (pc := 10) 11 rfl (by omega) (by omega) dX7_joinOf_10 (fun r10 => ?_)
  obtain ⟨lr10, ur10⟩ := r10
  refine B.imul (pc := 11) dX7_joinOf_11 ⟨by omega, by omega⟩ ?_
  refine B.aload_n (pc := 12) (i := 0) dX7_joinOf_12 rfl rfl ?_
  refine B.getfield (pc := 13) 0 rfl rfl inX7z 16 (by decide) fl_X7_40 rfl dX7_joinOf_13 ?_
  refine B.iload_n (pc := 16) (i := 2) dX7_joinOf_16 rfl rfl ?_
  refine B.iaload (pc := 17) 11 rfl (by omega) (by omega) dX7_joinOf_17 (fun r17 => ?_)
  obtain ⟨lr17, ur17⟩ := r17
  refine B.iadd (pc := 18) dX7_joinOf_18 ⟨by omega, by omega⟩ ?_
  refine B.iaload (pc := 19) 5 rfl (by omega) (by omega) dX7_joinOf_19 (fun r19 => ?_)
  obtain ⟨lr19, ur19⟩ := r19
  refine B.ireturn (pc := 20) (by simp) dX7_joinOf_20 (Nat.le_refl _) (Nat.le_refl _) (fun rz rw => ⟨rfl, ?_⟩)
  first | trivial | omega
set_option maxHeartbeats 4000000 in
set_option maxRecDepth 100000 in
theorem mX7_layRows {l : Launch} {D : va_G} {k : zK} {E : zE} (hE : zEok E) (m_a m_letters_a m_size_a m_kind_a m_cost_a m_joins_a m_rules_a m_line_a m_pad_a m_place_a m_length_a m_sort_a m_price_a m_of_a m_begins_a m_rowCost_a m_rowNext_a m_rows_a m_ahead_a m_waysTo_a m_image_a m_isKept_a : Nat) (m_words m_long1 m_signs m_readSize m_readKind m_readCost m_many : Int) (m_letters m_size m_kind m_cost m_joins m_rules m_line m_pad m_place m_length m_sort m_price m_of m_begins m_rowCost m_rowNext m_rows m_ahead m_waysTo m_image m_isKept : Nat → Int) : zMv l D k E yX7_layRows cX7_layRows 13 { frames := 2, cells := 0, slots := 0, locals := 52 } 0 0 [.inr (some m_a)] [(m_a, .inr (.inr (7, [.inr (some m_letters_a), .inr (some m_size_a), .inr (some m_kind_a), .inr (some m_cost_a), .inl m_words, .inr (some m_joins_a), .inr (some m_rules_a), .inr (some m_line_a), .inl m_long1, .inl m_signs, .inr (some m_pad_a), .inl m_readSize, .inl m_readKind, .inl m_readCost, .inr (some m_place_a), .inr (some m_length_a), .inr (some m_sort_a), .inr (some m_price_a), .inr (some m_of_a), .inr (some m_begins_a), .inl m_many, .inr (some m_rowCost_a), .inr (some m_rowNext_a), .inr (some m_rows_a), .inr (some m_ahead_a), .inr (some m_waysTo_a), .inr (some m_image_a), .inr (some m_isKept_a)]))), (m_letters_a, .inl (false, 96, m_letters)), (m_size_a, .inl (false, 16, m_size)), (m_kind_a, .inl (false, 16, m_kind)), (m_cost_a, .inl (false, 16, m_cost)), (m_joins_a, .inl (false, 25, m_joins)), (m_rules_a, .inl (false, 4, m_rules)), (m_line_a, .inl (false, 24, m_line)), (m_pad_a, .inl (false, 40, m_pad)), (m_place_a, .inl (false, 480, m_place)), (m_length_a, .inl (false, 480, m_length)), (m_sort_a, .inl (false, 480, m_sort)), (m_price_a, .inl (false, 480, m_price)), (m_of_a, .inl (false, 480, m_of)), (m_begins_a, .inl (false, 26, m_begins)), (m_rowCost_a, .inl (false, 5760, m_rowCost)), (m_rowNext_a, .inl (false, 5760, m_rowNext)), (m_rows_a, .inl (false, 480, m_rows)), (m_ahead_a, .inl (false, 480, m_ahead)), (m_waysTo_a, .inl (false, 26, m_waysTo)), (m_image_a, .inl (false, 460, m_image)), (m_isKept_a, .inl (true, 2, m_isKept))] (DI m_words m_size m_kind m_cost ∧ BI m_joins m_rules m_long1) (fun z u => ∃ (m_many' : Int) (m_place' : Nat → Int) (m_length' : Nat → Int) (m_sort' : Nat → Int) (m_price' : Nat → Int) (m_of' : Nat → Int) (m_begins' : Nat → Int) (m_rows' : Nat → Int) (m_rowCost' : Nat → Int) (m_rowNext' : Nat → Int), u = [(m_a, .inr (.inr (7, [.inr (some m_letters_a), .inr (some m_size_a), .inr (some m_kind_a), .inr (some m_cost_a), .inl m_words, .inr (some m_joins_a), .inr (some m_rules_a), .inr (some m_line_a), .inl m_long1, .inl m_signs, .inr (some m_pad_a), .inl m_readSize, .inl m_readKind, .inl m_readCost, .inr (some m_place_a), .inr (some m_length_a), .inr (some m_sort_a), .inr (some m_price_a), .inr (some m_of_a), .inr (some m_begins_a), .inl m_many', .inr (some m_rowCost_a), .inr (some m_rowNext_a), .inr (some m_rows_a), .inr (some m_ahead_a), .inr (some m_waysTo_a), .inr (some m_image_a), .inr (some m_isKept_a)]))), (m_letters_a, .inl (false, 96, m_letters)), (m_size_a, .inl (false, 16, m_size)), (m_kind_a, .inl (false, 16, m_kind)), (m_cost_a, .inl (false, 16, m_cost)), (m_joins_a, .inl (false, 25, m_joins)), (m_rules_a, .inl (false, 4, m_rules)), (m_line_a, .inl (false, 24, m_line)), (m_pad_a, .inl (false, 40, m_pad)), (m_place_a, .inl (false, 480, m_place')), (m_length_a, .inl (false, 480, m_length')), (m_sort_a, .inl (false, 480, m_sort')), (m_price_a, .inl (false, 480, m_price')), (m_of_a, .inl (false, 480, m_of')), (m_begins_a, .inl (false, 26, m_begins')), (m_rowCost_a, .inl (false, 5760, m_rowCost')), (m_rowNext_a, .inl (false, 5760, m_rowNext')), (m_rows_a, .inl (false, 480, m_rows')), (m_ahead_a, .inl (false, 480, m_ahead)), (m_waysTo_a, .inl (false, 26, m_waysTo)), (m_image_a, .inl (false, 460, m_image)), (m_isKept_a, .inl (true, 2, m_isKept))] ∧ (0 ≤ m_many' ∧ m_many' ≤ 480 ∧ LB m_place' m_length' m_sort' m_long1 m_many' ∧ NF m_place' m_length' m_begins' m_long1 ∧ BE m_begins' m_long1 m_many' ∧ m_begins' m_long1.toNat = m_many' ∧ RR m_rows' m_rowNext' 0 m_many')) := by
  refine zMv.of RX7 hE (by decide) rfl (by simp) ?_
  intro Z hP hav hwr B
  obtain ⟨l_m_words, u_m_words⟩ : zR m_words := zWr_at hwr (i := 0) rfl (.inl m_words) (by simp)
  obtain ⟨l_m_long1, u_m_long1⟩ : zR m_long1 := zWr_at hwr (i := 0) rfl (.inl m_long1) (by simp)
  obtain ⟨l_m_signs, u_m_signs⟩ : zR m_signs := zWr_at hwr (i := 0) rfl (.inl m_signs) (by simp)
  obtain ⟨l_m_readSize, u_m_readSize⟩ : zR m_readSize := zWr_at hwr (i := 0) rfl (.inl m_readSize) (by simp)
  obtain ⟨l_m_readKind, u_m_readKind⟩ : zR m_readKind := zWr_at hwr (i := 0) rfl (.inl m_readKind) (by simp)
  obtain ⟨l_m_readCost, u_m_readCost⟩ : zR m_readCost := zWr_at hwr (i := 0) rfl (.inl m_readCost) (by simp)
  obtain ⟨l_m_many, u_m_many⟩ : zR m_many := zWr_at hwr (i := 0) rfl (.inl m_many) (by simp)
  obtain ⟨hD, hB⟩ := hP
  obtain ⟨hB0, hB1⟩ := id hB
  have key : ∀ mu_ : Nat, (∀ (lv : List (Option zV)) (ws : zW), (∃ (d2 : Option zV) (d3 : Option zV) (d4 : Option zV) (d5 : Option zV) (d6 : Option zV) (d7 : Option zV) (d8 : Option zV) (d9 : Option zV) (d10 : Option zV) (d11 : Option zV) (d12 : Option zV) (x : Int) (m_many : Int) (m_place : Nat → Int) (m_length : Nat → Int) (m_sort : Nat → Int) (m_price : Nat → Int) (m_of : Nat → Int) (m_begins : Nat → Int) (m_rows : Nat → Int) (m_rowCost : Nat → Int) (m_rowNext : Nat → Int), lv = [some (.inr (some m_a)), some (.inl x), d2, d3, d4, d5, d6, d7, d8, d9, d10, d11, d12] ∧ ws = [(m_a, .inr (.inr (7, [.inr (some m_letters_a), .inr (some m_size_a), .inr (some m_kind_a), .inr (some m_cost_a), .inl m_words, .inr (some m_joins_a), .inr (some m_rules_a), .inr (some m_line_a), .inl m_long1, .inl m_signs, .inr (some m_pad_a), .inl m_readSize, .inl m_readKind, .inl m_readCost, .inr (some m_place_a), .inr (some m_length_a), .inr (some m_sort_a), .inr (some m_price_a), .inr (some m_of_a), .inr (some m_begins_a), .inl m_many, .inr (some m_rowCost_a), .inr (some m_rowNext_a), .inr (some m_rows_a), .inr (some m_ahead_a), .inr (some m_waysTo_a), .inr (some m_image_a), .inr (some m_isKept_a)]))), (m_letters_a, .inl (false, 96, m_letters)), (m_size_a, .inl (false, 16, m_size)), (m_kind_a, .inl (false, 16, m_kind)), (m_cost_a, .inl (false, 16, m_cost)), (m_joins_a, .inl (false, 25, m_joins)), (m_rules_a, .inl (false, 4, m_rules)), (m_line_a, .inl (false, 24, m_line)), (m_pad_a, .inl (false, 40, m_pad)), (m_place_a, .inl (false, 480, m_place)), (m_length_a, .inl (false, 480, m_length)), (m_sort_a, .inl (false, 480, m_sort)), (m_price_a, .inl (false, 480, m_price)), (m_of_a, .inl (false, 480, m_of)), (m_begins_a, .inl (false, 26, m_begins)), (m_rowCost_a, .inl (false, 5760, m_rowCost)), (m_rowNext_a, .inl (false, 5760, m_rowNext)), (m_rows_a, .inl (false, 480, m_rows)), (m_ahead_a, .inl (false, 480, m_ahead)), (m_waysTo_a, .inl (false, 26, m_waysTo)), (m_image_a, .inl (false, 460, m_image)), (m_isKept_a, .inl (true, 2, m_isKept))] ∧ mu_ = ((x + 1) * 10000000 + 9000000).toNat ∧ (0 ≤ m_many ∧ m_many ≤ 480 ∧ LB m_place m_length m_sort m_long1 m_many ∧ NF m_place m_length m_begins m_long1 ∧ BE m_begins m_long1 m_many ∧ m_begins m_long1.toNat = m_many ∧ -1 ≤ x ∧ x < m_many ∧ RR m_rows m_rowNext (x + 1) m_many)) → Z 0 0 11 lv [] ws) ∧ (∀ (lv : List (Option zV)) (ws : zW), (∃ (d6 : Option zV) (d7 : Option zV) (d8 : Option zV) (d9 : Option zV) (d10 : Option zV) (d11 : Option zV) (d12 : Option zV) (x : Int) (en : Int) (mo : Int) (lc : Int) (la : Int) (m_many : Int) (m_place : Nat → Int) (m_length : Nat → Int) (m_sort : Nat → Int) (m_price : Nat → Int) (m_of : Nat → Int) (m_begins : Nat → Int) (m_rows : Nat → Int) (m_rowCost : Nat → Int) (m_rowNext : Nat → Int), lv = [some (.inr (some m_a)), some (.inl x), some (.inl en), some (.inl mo), some (.inl lc), some (.inl la), d6, d7, d8, d9, d10, d11, d12] ∧ ws = [(m_a, .inr (.inr (7, [.inr (some m_letters_a), .inr (some m_size_a), .inr (some m_kind_a), .inr (some m_cost_a), .inl m_words, .inr (some m_joins_a), .inr (some m_rules_a), .inr (some m_line_a), .inl m_long1, .inl m_signs, .inr (some m_pad_a), .inl m_readSize, .inl m_readKind, .inl m_readCost, .inr (some m_place_a), .inr (some m_length_a), .inr (some m_sort_a), .inr (some m_price_a), .inr (some m_of_a), .inr (some m_begins_a), .inl m_many, .inr (some m_rowCost_a), .inr (some m_rowNext_a), .inr (some m_rows_a), .inr (some m_ahead_a), .inr (some m_waysTo_a), .inr (some m_image_a), .inr (some m_isKept_a)]))), (m_letters_a, .inl (false, 96, m_letters)), (m_size_a, .inl (false, 16, m_size)), (m_kind_a, .inl (false, 16, m_kind)), (m_cost_a, .inl (false, 16, m_cost)), (m_joins_a, .inl (false, 25, m_joins)), (m_rules_a, .inl (false, 4, m_rules)), (m_line_a, .inl (false, 24, m_line)), (m_pad_a, .inl (false, 40, m_pad)), (m_place_a, .inl (false, 480, m_place)), (m_length_a, .inl (false, 480, m_length)), (m_sort_a, .inl (false, 480, m_sort)), (m_price_a, .inl (false, 480, m_price)), (m_of_a, .inl (false, 480, m_of)), (m_begins_a, .inl (false, 26, m_begins)), (m_rowCost_a, .inl (false, 5760, m_rowCost)), (m_rowNext_a, .inl (false, 5760, m_rowNext)), (m_rows_a, .inl (false, 480, m_rows)), (m_ahead_a, .inl (false, 480, m_ahead)), (m_waysTo_a, .inl (false, 26, m_waysTo)), (m_image_a, .inl (false, 460, m_image)), (m_isKept_a, .inl (true, 2, m_isKept))] ∧ mu_ = ((x + 1) * 10000000 + (12 - m_rows x.toNat + mo) * 100000).toNat ∧ (0 ≤ m_many ∧ m_many ≤ 480 ∧ LB m_place m_length m_sort m_long1 m_many ∧ NF m_place m_length m_begins m_long1 ∧ BE m_begins m_long1 m_many ∧ m_begins m_long1.toNat = m_many ∧ (0 ≤ x ∧ x < m_many ∧ en = m_place x.toNat + m_length x.toNat ∧ en < m_long1 ∧ (mo = 0 ∨ mo = 1)) ∧ RR m_rows m_rowNext x m_many)) → Z 0 0 96 lv [] ws) ∧ (∀ (lv : List (Option zV)) (ws : zW), (∃ (d9 : Option zV) (d10 : Option zV) (d11 : Option zV) (d12 : Option zV) (x : Int) (en : Int) (mo : Int) (lc : Int) (la : Int) (bc : Int) (be : Int) (y : Int) (m_many : Int) (m_place : Nat → Int) (m_length : Nat → Int) (m_sort : Nat → Int) (m_price : Nat → Int) (m_of : Nat → Int) (m_begins : Nat → Int) (m_rows : Nat → Int) (m_rowCost : Nat → Int) (m_rowNext : Nat → Int), lv = [some (.inr (some m_a)), some (.inl x), some (.inl en), some (.inl mo), some (.inl lc), some (.inl la), some (.inl bc), some (.inl be), some (.inl y), d9, d10, d11, d12] ∧ ws = [(m_a, .inr (.inr (7, [.inr (some m_letters_a), .inr (some m_size_a), .inr (some m_kind_a), .inr (some m_cost_a), .inl m_words, .inr (some m_joins_a), .inr (some m_rules_a), .inr (some m_line_a), .inl m_long1, .inl m_signs, .inr (some m_pad_a), .inl m_readSize, .inl m_readKind, .inl m_readCost, .inr (some m_place_a), .inr (some m_length_a), .inr (some m_sort_a), .inr (some m_price_a), .inr (some m_of_a), .inr (some m_begins_a), .inl m_many, .inr (some m_rowCost_a), .inr (some m_rowNext_a), .inr (some m_rows_a), .inr (some m_ahead_a), .inr (some m_waysTo_a), .inr (some m_image_a), .inr (some m_isKept_a)]))), (m_letters_a, .inl (false, 96, m_letters)), (m_size_a, .inl (false, 16, m_size)), (m_kind_a, .inl (false, 16, m_kind)), (m_cost_a, .inl (false, 16, m_cost)), (m_joins_a, .inl (false, 25, m_joins)), (m_rules_a, .inl (false, 4, m_rules)), (m_line_a, .inl (false, 24, m_line)), (m_pad_a, .inl (false, 40, m_pad)), (m_place_a, .inl (false, 480, m_place)), (m_length_a, .inl (false, 480, m_length)), (m_sort_a, .inl (false, 480, m_sort)), (m_price_a, .inl (false, 480, m_price)), (m_of_a, .inl (false, 480, m_of)), (m_begins_a, .inl (false, 26, m_begins)), (m_rowCost_a, .inl (false, 5760, m_rowCost)), (m_rowNext_a, .inl (false, 5760, m_rowNext)), (m_rows_a, .inl (false, 480, m_rows)), (m_ahead_a, .inl (false, 480, m_ahead)), (m_waysTo_a, .inl (false, 26, m_waysTo)), (m_image_a, .inl (false, 460, m_image)), (m_isKept_a, .inl (true, 2, m_isKept))] ∧ mu_ = ((x + 1) * 10000000 + (12 - m_rows x.toNat) * 100000 + (480 - y) * 100 + 99).toNat ∧ (0 ≤ m_many ∧ m_many ≤ 480 ∧ LB m_place m_length m_sort m_long1 m_many ∧ NF m_place m_length m_begins m_long1 ∧ BE m_begins m_long1 m_many ∧ m_begins m_long1.toNat = m_many ∧ (0 ≤ x ∧ x < m_many ∧ en = m_place x.toNat + m_length x.toNat ∧ en < m_long1 ∧ mo ≠ 0 ∧ m_begins en.toNat ≤ y ∧ 0 ≤ y ∧ y ≤ 480 ∧ m_rows x.toNat < 12) ∧ (be < 0 ∨ (x < be / 16 ∧ be / 16 < m_many ∧ be % 16 < m_rows (be / 16).toNat)) ∧ RR m_rows m_rowNext x m_many)) → Z 0 0 126 lv [] ws) ∧ (∀ (lv : List (Option zV)) (ws : zW), (∃ (d10 : Option zV) (d11 : Option zV) (d12 : Option zV) (x : Int) (en : Int) (mo : Int) (lc : Int) (la : Int) (bc : Int) (be : Int) (y : Int) (r : Int) (m_many : Int) (m_place : Nat → Int) (m_length : Nat → Int) (m_sort : Nat → Int) (m_price : Nat → Int) (m_of : Nat → Int) (m_begins : Nat → Int) (m_rows : Nat → Int) (m_rowCost : Nat → Int) (m_rowNext : Nat → Int), lv = [some (.inr (some m_a)), some (.inl x), some (.inl en), some (.inl mo), some (.inl lc), some (.inl la), some (.inl bc), some (.inl be), some (.inl y), some (.inl r), d10, d11, d12] ∧ ws = [(m_a, .inr (.inr (7, [.inr (some m_letters_a), .inr (some m_size_a), .inr (some m_kind_a), .inr (some m_cost_a), .inl m_words, .inr (some m_joins_a), .inr (some m_rules_a), .inr (some m_line_a), .inl m_long1, .inl m_signs, .inr (some m_pad_a), .inl m_readSize, .inl m_readKind, .inl m_readCost, .inr (some m_place_a), .inr (some m_length_a), .inr (some m_sort_a), .inr (some m_price_a), .inr (some m_of_a), .inr (some m_begins_a), .inl m_many, .inr (some m_rowCost_a), .inr (some m_rowNext_a), .inr (some m_rows_a), .inr (some m_ahead_a), .inr (some m_waysTo_a), .inr (some m_image_a), .inr (some m_isKept_a)]))), (m_letters_a, .inl (false, 96, m_letters)), (m_size_a, .inl (false, 16, m_size)), (m_kind_a, .inl (false, 16, m_kind)), (m_cost_a, .inl (false, 16, m_cost)), (m_joins_a, .inl (false, 25, m_joins)), (m_rules_a, .inl (false, 4, m_rules)), (m_line_a, .inl (false, 24, m_line)), (m_pad_a, .inl (false, 40, m_pad)), (m_place_a, .inl (false, 480, m_place)), (m_length_a, .inl (false, 480, m_length)), (m_sort_a, .inl (false, 480, m_sort)), (m_price_a, .inl (false, 480, m_price)), (m_of_a, .inl (false, 480, m_of)), (m_begins_a, .inl (false, 26, m_begins)), (m_rowCost_a, .inl (false, 5760, m_rowCost)), (m_rowNext_a, .inl (false, 5760, m_rowNext)), (m_rows_a, .inl (false, 480, m_rows)), (m_ahead_a, .inl (false, 480, m_ahead)), (m_waysTo_a, .inl (false, 26, m_waysTo)), (m_image_a, .inl (false, 460, m_image)), (m_isKept_a, .inl (true, 2, m_isKept))] ∧ mu_ = ((x + 1) * 10000000 + (12 - m_rows x.toNat) * 100000 + (480 - y) * 100 + (12 - r)).toNat ∧ (0 ≤ m_many ∧ m_many ≤ 480 ∧ LB m_place m_length m_sort m_long1 m_many ∧ NF m_place m_length m_begins m_long1 ∧ BE m_begins m_long1 m_many ∧ m_begins m_long1.toNat = m_many ∧ (0 ≤ x ∧ x < m_many ∧ en = m_place x.toNat + m_length x.toNat ∧ en < m_long1 ∧ mo ≠ 0 ∧ m_begins en.toNat ≤ y ∧ 0 ≤ y ∧ y < m_begins (en + 1).toNat ∧ m_rows x.toNat < 12 ∧ 0 ≤ r ∧ r ≤ 12) ∧ (be < 0 ∨ (x < be / 16 ∧ be / 16 < m_many ∧ be % 16 < m_rows (be / 16).toNat)) ∧ RR m_rows m_rowNext x m_many)) → Z 0 0 142 lv [] ws) := by
    intro mu_
    induction mu_ using Nat.strongRecOn with
    | _ mu_ ih =>
      refine ⟨?_, ?_, ?_, ?_⟩
      · intro lv ws hJ
        obtain ⟨d2, d3, d4, d5, d6, d7, d8, d9, d10, d11, d12, x, m_many, m_place, m_length, m_sort, m_price, m_of, m_begins, m_rows, m_rowCost, m_rowNext, rfl, rfl, rfl, hi⟩ := hJ
        obtain ⟨a1, a2, a3, a4, a5, a6, a7, a8, a9⟩ := hi
        refine B.iload_n (pc := 11) (i := 1) dX7_layRows_11 rfl rfl ?_
        refine B.if_lt (pc := 12) (tgt := 351) dX7_layRows_12 (by decide) (fun c12 => ?_) (fun c12 => ?_)
        · refine B.vreturn (pc := 351) rfl dX7_layRows_351 (Nat.le_refl _) (Nat.le_refl _) (fun rw => ⟨_, _, _, _, _, _, _, _, _, _, rfl, ?_⟩)
          exact ⟨a1, a2, a3, a4, a5, a6, by rw [show (0 : Int) = x + 1 by omega]; exact a9⟩
        · have hl := a3.at (x := x) (by omega) (by omega)
          refine B.aload_n (pc := 15) (i := 0) dX7_layRows_15 rfl rfl ?_
          refine B.getfield (pc := 16) 0 rfl rfl inX7z 23 (by decide) fl_X7_58 rfl dX7_layRows_16 ?_
          refine B.iload_n (pc := 19) (i := 1) dX7_layRows_19 rfl rfl ?_
          refine B.iconst (pc := 20) dX7_layRows_20 ⟨by decide, by decide⟩ ?_
          refine B.iastore (pc := 21) 17 rfl (by omega) (by omega) dX7_layRows_21 ?_
          simp only [List.set_cons_zero, List.set_cons_succ]
          refine B.aload_n (pc := 22) (i := 0) dX7_layRows_22 rfl rfl ?_
          refine B.iload_n (pc := 23) (i := 1) dX7_layRows_23 rfl rfl ?_
          refine B.callVi (pc := 24) 1 (mX7_behind hE _ _ _ _ _ _ _ _ _ _ _ _ _ _ _ _ _ _ _ _ _ _ _ _ _ _ _ _ _ _ _ _ _ _ _ _ _ _ _ _ _ _ _ _ _ _ _ _ _ _ _) 0 rfl rfl ml_X7_130 im_X7_behind se_X7_behind it_X7 co_X7_behind (by decide +kernel) rfl rfl rfl ⟨by decide, by decide⟩ ⟨by decide, by decide⟩ [0, 1, 2, 3, 4, 5, 6, 7, 8, 9, 10, 11, 12, 13, 14, 15, 16, 17, 18, 19, 20, 21] rfl rfl rfl (Nat.le_of_ble_eq_true rfl) dX7_layRows_24 (fun _ => ⟨a3, by omega, by omega, by omega, by omega⟩) (fun zk24 uk24 rzk24 ruk24 rak24 hqk24 => ?_)
          obtain ⟨lzk24, uzk24⟩ := rzk24
          obtain ⟨rfl, hk24⟩ := hqk24
          simp only [zput, List.set_cons_zero, List.set_cons_succ, List.append_nil, Nat.add_zero]
          refine B.istore_n (pc := 27) (i := 2) dX7_layRows_27 rfl (by decide) ?_
          simp only [List.set_cons_zero, List.set_cons_succ]
          refine B.iload_n (pc := 28) (i := 2) dX7_layRows_28 rfl rfl ?_
          refine B.aload_n (pc := 29) (i := 0) dX7_layRows_29 rfl rfl ?_
          refine B.getfield (pc := 30) 0 rfl rfl inX7z 8 (by decide) fl_X7_109 rfl dX7_layRows_30 ?_
          refine B.icmp_ne (pc := 33) (tgt := 88) dX7_layRows_33 (by decide) (fun c33 => ?_) (fun c33 => ?_)
          · refine B.iconst (pc := 88) dX7_layRows_88 ⟨by decide, by decide⟩ ?_
            refine B.istore_n (pc := 89) (i := 3) dX7_layRows_89 rfl (by decide) ?_
            simp only [List.set_cons_zero, List.set_cons_succ]
            refine B.iconst (pc := 90) dX7_layRows_90 ⟨by decide, by decide⟩ ?_
            refine B.istore (pc := 91) (i := 4) dX7_layRows_91 (by decide) ?_
            simp only [List.set_cons_zero, List.set_cons_succ]
            refine B.iconst (pc := 93) dX7_layRows_93 ⟨by decide, by decide⟩ ?_
            refine B.istore (pc := 94) (i := 5) dX7_layRows_94 (by decide) ?_
            simp only [List.set_cons_zero, List.set_cons_succ]
            refine (ih _ ?_).2.1 _ _ ⟨_, _, _, _, _, _, _, _, _, _, _, _, _, _, _, _, _, _, _, _, _, _, rfl, rfl, rfl, ?_⟩
            · first | omega | (rw [zup_eq]; omega)
            · first
                | exact ⟨a1, a2, a3, a4, a5, a6, by omega, a9.zero (by omega)⟩
                | exact ⟨a1, a2, a3, a4, a5, a6, by omega, a9⟩
                | exact ⟨a1, a2, a3, a4, a5, a6, by omega, a9.push (by omega) (by omega) (by omega) (by omega)⟩
          · refine B.aload_n (pc := 36) (i := 0) dX7_layRows_36 rfl rfl ?_
            refine B.getfield (pc := 37) 0 rfl rfl inX7z 21 (by decide) fl_X7_52 rfl dX7_layRows_37 ?_
            refine B.bipush (pc := 40) dX7_layRows_40 ⟨by decide, by decide⟩ ?_
            refine B.iload_n (pc := 42) (i := 1) dX7_layRows_42 rfl rfl ?_
            refine B.imul (pc := 43) dX7_layRows_43 ⟨by omega, by omega⟩ ?_
            refine B.aload_n (pc := 44) (i := 0) dX7_layRows_44 rfl rfl ?_
            refine B.getfield (pc := 45) 0 rfl rfl inX7z 17 (by decide) fl_X7_43 rfl dX7_layRows_45 ?_
            refine B.iload_n (pc := 48) (i := 1) dX7_layRows_48 rfl rfl ?_
            refine B.iaload (pc := 49) 12 rfl (by omega) (by omega) dX7_layRows_49 (fun r49 => ?_)
            obtain ⟨lr49, ur49⟩ := r49
            refine B.aload_n (pc := 50) (i := 0) dX7_layRows_50 rfl rfl ?_
            refine B.getfield (pc := 51) 0 rfl rfl inX7z 5 (by decide) fl_X7_22 rfl dX7_layRows_51 ?_
            refine B.iconst (pc := 54) dX7_layRows_54 ⟨by decide, by decide⟩ ?_
            refine B.aload_n (pc := 55) (i := 0) dX7_layRows_55 rfl rfl ?_
            refine B.getfield (pc := 56) 0 rfl rfl inX7z 16 (by decide) fl_X7_40 rfl dX7_layRows_56 ?_
            refine B.iload_n (pc := 59) (i := 1) dX7_layRows_59 rfl rfl ?_
            refine B.iaload (pc := 60) 11 rfl (by omega) (by omega) dX7_layRows_60 (fun r60 => ?_)
            obtain ⟨lr60, ur60⟩ := r60
            refine B.imul (pc := 61) dX7_layRows_61 ⟨by omega, by omega⟩ ?_
            refine B.iconst (pc := 62) dX7_layRows_62 ⟨by decide, by decide⟩ ?_
            refine B.iadd (pc := 63) dX7_layRows_63 ⟨by omega, by omega⟩ ?_
            refine B.iaload (pc := 64) 5 rfl (by omega) (by omega) dX7_layRows_64 (fun r64 => ?_)
            obtain ⟨lr64, ur64⟩ := r64
            refine B.iaddw (pc := 65) dX7_layRows_65 (fun w65 rw65 ew65 => ?_)
            obtain ⟨lw65, uw65⟩ := rw65
            refine B.iastore (pc := 66) 15 rfl (by omega) (by omega) dX7_layRows_66 ?_
            simp only [List.set_cons_zero, List.set_cons_succ]
            refine B.aload_n (pc := 67) (i := 0) dX7_layRows_67 rfl rfl ?_
            refine B.getfield (pc := 68) 0 rfl rfl inX7z 22 (by decide) fl_X7_55 rfl dX7_layRows_68 ?_
            refine B.bipush (pc := 71) dX7_layRows_71 ⟨by decide, by decide⟩ ?_
            refine B.iload_n (pc := 73) (i := 1) dX7_layRows_73 rfl rfl ?_
            refine B.imul (pc := 74) dX7_layRows_74 ⟨by omega, by omega⟩ ?_
            refine B.bipush (pc := 75) dX7_layRows_75 ⟨by decide, by decide⟩ ?_
            refine B.iastore (pc := 77) 16 rfl (by omega) (by omega) dX7_layRows_77 ?_
            simp only [List.set_cons_zero, List.set_cons_succ]
            refine B.aload_n (pc := 78) (i := 0) dX7_layRows_78 rfl rfl ?_
            refine B.getfield (pc := 79) 0 rfl rfl inX7z 23 (by decide) fl_X7_58 rfl dX7_layRows_79 ?_
            refine B.iload_n (pc := 82) (i := 1) dX7_layRows_82 rfl rfl ?_
            refine B.iconst (pc := 83) dX7_layRows_83 ⟨by decide, by decide⟩ ?_
            refine B.iastore (pc := 84) 17 rfl (by omega) (by omega) dX7_layRows_84 ?_
            simp only [List.set_cons_zero, List.set_cons_succ]
            refine B.goto (pc := 85) (tgt := 345) dX7_layRows_85 (by decide) ?_
            refine B.iinc (pc := 345) dX7_layRows_345 (by decide) rfl ⟨by omega, by omega⟩ ?_
            simp only [List.set_cons_zero, List.set_cons_succ]
            refine B.goto (pc := 348) (tgt := 11) dX7_layRows_348 (by decide) ?_
            refine (ih _ ?_).1 _ _ ⟨_, _, _, _, _, _, _, _, _, _, _, _, _, _, _, _, _, _, _, _, _, _, rfl, rfl, rfl, ?_⟩
            · omega
            · first
                | exact ⟨a1, a2, a3, a4, a5, a6, by omega, by omega, by rw [show x + -1 + 1 = x by omega]; exact a9.one (by omega) (by omega)⟩
                | exact ⟨a1, a2, a3, a4, a5, a6, by omega, by omega, by rw [show x + -1 + 1 = x by omega]; exact a9⟩
      · intro lv ws hJ
        obtain ⟨d6, d7, d8, d9, d10, d11, d12, x, en, mo, lc, la, m_many, m_place, m_length, m_sort, m_price, m_of, m_begins, m_rows, m_rowCost, m_rowNext, rfl, rfl, rfl, hi⟩ := hJ
        obtain ⟨a1, a2, a3, a4, a5, a6, a7, a9⟩ := hi
        have hr := a9.at (x := x) (by omega) (by omega) (by omega)
        have hl := a3.at (x := x) (by omega) (by omega)
        have hb1 := a5.at (x := en) (by omega) (by omega)
        have hb2 := a5.at (x := en + 1) (by omega) (by omega)
        refine B.iload_n (pc := 96) (i := 3) dX7_layRows_96 rfl rfl ?_
        refine B.if_eq (pc := 97) (tgt := 345) dX7_layRows_97 (by decide) (fun c97 => ?_) (fun c97 => ?_)
        · refine B.iinc (pc := 345) dX7_layRows_345 (by decide) rfl ⟨by omega, by omega⟩ ?_
          simp only [List.set_cons_zero, List.set_cons_succ]
          refine B.goto (pc := 348) (tgt := 11) dX7_layRows_348 (by decide) ?_
          refine (ih _ ?_).1 _ _ ⟨_, _, _, _, _, _, _, _, _, _, _, _, _, _, _, _, _, _, _, _, _, _, rfl, rfl, rfl, ?_⟩
          · omega
          · first
              | exact ⟨a1, a2, a3, a4, a5, a6, by omega, by omega, by rw [show x + -1 + 1 = x by omega]; exact a9.one (by omega) (by omega)⟩
              | exact ⟨a1, a2, a3, a4, a5, a6, by omega, by omega, by rw [show x + -1 + 1 = x by omega]; exact a9⟩
        · refine B.aload_n (pc := 100) (i := 0) dX7_layRows_100 rfl rfl ?_
          refine B.getfield (pc := 101) 0 rfl rfl inX7z 23 (by decide) fl_X7_58 rfl dX7_layRows_101 ?_
          refine B.iload_n (pc := 104) (i := 1) dX7_layRows_104 rfl rfl ?_
          refine B.iaload (pc := 105) 17 rfl (by omega) (by omega) dX7_layRows_105 (fun r105 => ?_)
          obtain ⟨lr105, ur105⟩ := r105
          refine B.bipush (pc := 106) dX7_layRows_106 ⟨by decide, by decide⟩ ?_
          refine B.icmp_ge (pc := 108) (tgt := 345) dX7_layRows_108 (by decide) (fun c108 => ?_) (fun c108 => ?_)
          · refine B.iinc (pc := 345) dX7_layRows_345 (by decide) rfl ⟨by omega, by omega⟩ ?_
            simp only [List.set_cons_zero, List.set_cons_succ]
            refine B.goto (pc := 348) (tgt := 11) dX7_layRows_348 (by decide) ?_
            refine (ih _ ?_).1 _ _ ⟨_, _, _, _, _, _, _, _, _, _, _, _, _, _, _, _, _, _, _, _, _, _, rfl, rfl, rfl, ?_⟩
            · omega
            · first
                | exact ⟨a1, a2, a3, a4, a5, a6, by omega, by omega, by rw [show x + -1 + 1 = x by omega]; exact a9.one (by omega) (by omega)⟩
                | exact ⟨a1, a2, a3, a4, a5, a6, by omega, by omega, by rw [show x + -1 + 1 = x by omega]; exact a9⟩
          · refine B.iconst (pc := 111) dX7_layRows_111 ⟨by decide, by decide⟩ ?_
            refine B.istore (pc := 112) (i := 6) dX7_layRows_112 (by decide) ?_
            simp only [List.set_cons_zero, List.set_cons_succ]
            refine B.bipush (pc := 114) dX7_layRows_114 ⟨by decide, by decide⟩ ?_
            refine B.istore (pc := 116) (i := 7) dX7_layRows_116 (by decide) ?_
            simp only [List.set_cons_zero, List.set_cons_succ]
            refine B.aload_n (pc := 118) (i := 0) dX7_layRows_118 rfl rfl ?_
            refine B.getfield (pc := 119) 0 rfl rfl inX7z 19 (by decide) fl_X7_49 rfl dX7_layRows_119 ?_
            refine B.iload_n (pc := 122) (i := 2) dX7_layRows_122 rfl rfl ?_
            refine B.iaload (pc := 123) 14 rfl (by omega) (by omega) dX7_layRows_123 (fun r123 => ?_)
            obtain ⟨lr123, ur123⟩ := r123
            refine B.istore (pc := 124) (i := 8) dX7_layRows_124 (by decide) ?_
            simp only [List.set_cons_zero, List.set_cons_succ]
            refine (ih _ ?_).2.2.1 _ _ ⟨_, _, _, _, _, _, _, _, _, _, _, _, _, _, _, _, _, _, _, _, _, _, rfl, rfl, rfl, ?_⟩
            · omega
            · first | exact ⟨a1, a2, a3, a4, a5, a6, by omega, Or.inl (by decide), a9⟩ | exact ⟨a1, a2, a3, a4, a5, a6, by omega, a8, a9⟩
      · intro lv ws hJ
        obtain ⟨d9, d10, d11, d12, x, en, mo, lc, la, bc, be, y, m_many, m_place, m_length, m_sort, m_price, m_of, m_begins, m_rows, m_rowCost, m_rowNext, rfl, rfl, rfl, hi⟩ := hJ
        obtain ⟨a1, a2, a3, a4, a5, a6, a7, a8, a9⟩ := hi
        have hr := a9.at (x := x) (by omega) (by omega) (by omega)
        have hl := a3.at (x := x) (by omega) (by omega)
        have hb1 := a5.at (x := en) (by omega) (by omega)
        have hb2 := a5.at (x := en + 1) (by omega) (by omega)
        refine B.iload (pc := 126) dX7_layRows_126 rfl ?_
        refine B.aload_n (pc := 128) (i := 0) dX7_layRows_128 rfl rfl ?_
        refine B.getfield (pc := 129) 0 rfl rfl inX7z 19 (by decide) fl_X7_49 rfl dX7_layRows_129 ?_
        refine B.iload_n (pc := 132) (i := 2) dX7_layRows_132 rfl rfl ?_
        refine B.iconst (pc := 133) dX7_layRows_133 ⟨by decide, by decide⟩ ?_
        refine B.iadd (pc := 134) dX7_layRows_134 ⟨by omega, by omega⟩ ?_
        refine B.iaload (pc := 135) 14 rfl (by omega) (by omega) dX7_layRows_135 (fun r135 => ?_)
        obtain ⟨lr135, ur135⟩ := r135
        refine B.icmp_ge (pc := 136) (tgt := 273) dX7_layRows_136 (by decide) (fun c136 => ?_) (fun c136 => ?_)
        · refine B.iload (pc := 273) dX7_layRows_273 rfl ?_
          refine B.if_lt (pc := 275) (tgt := 282) dX7_layRows_275 (by decide) (fun c275 => ?_) (fun c275 => ?_)
          · refine B.iconst (pc := 282) dX7_layRows_282 ⟨by decide, by decide⟩ ?_
            refine B.istore_n (pc := 283) (i := 3) dX7_layRows_283 rfl (by decide) ?_
            simp only [List.set_cons_zero, List.set_cons_succ]
            refine B.iload_n (pc := 284) (i := 3) dX7_layRows_284 rfl rfl ?_
            refine B.if_eq (pc := 285) (tgt := 342) dX7_layRows_285 (by decide) (fun c285 => ?_) (fun c285 => ?_)
            · refine B.goto (pc := 342) (tgt := 96) dX7_layRows_342 (by decide) ?_
              refine (ih _ ?_).2.1 _ _ ⟨_, _, _, _, _, _, _, _, _, _, _, _, _, _, _, _, _, _, _, _, _, _, rfl, rfl, rfl, ?_⟩
              · first | omega | (rw [zup_eq]; omega)
              · first
                  | exact ⟨a1, a2, a3, a4, a5, a6, by omega, a9.zero (by omega)⟩
                  | exact ⟨a1, a2, a3, a4, a5, a6, by omega, a9⟩
                  | exact ⟨a1, a2, a3, a4, a5, a6, by omega, a9.push (by omega) (by omega) (by omega) (by omega)⟩
            · refine B.aload_n (pc := 288) (i := 0) dX7_layRows_288 rfl rfl ?_
              refine B.getfield (pc := 289) 0 rfl rfl inX7z 21 (by decide) fl_X7_52 rfl dX7_layRows_289 ?_
              refine B.bipush (pc := 292) dX7_layRows_292 ⟨by decide, by decide⟩ ?_
              refine B.iload_n (pc := 294) (i := 1) dX7_layRows_294 rfl rfl ?_
              refine B.imul (pc := 295) dX7_layRows_295 ⟨by omega, by omega⟩ ?_
              refine B.aload_n (pc := 296) (i := 0) dX7_layRows_296 rfl rfl ?_
              refine B.getfield (pc := 297) 0 rfl rfl inX7z 23 (by decide) fl_X7_58 rfl dX7_layRows_297 ?_
              refine B.iload_n (pc := 300) (i := 1) dX7_layRows_300 rfl rfl ?_
              refine B.iaload (pc := 301) 17 rfl (by omega) (by omega) dX7_layRows_301 (fun r301 => ?_)
              obtain ⟨lr301, ur301⟩ := r301
              refine B.iadd (pc := 302) dX7_layRows_302 ⟨by omega, by omega⟩ ?_
              refine B.iload (pc := 303) dX7_layRows_303 rfl ?_
              refine B.iastore (pc := 305) 15 rfl (by omega) (by omega) dX7_layRows_305 ?_
              simp only [List.set_cons_zero, List.set_cons_succ]
              refine B.aload_n (pc := 306) (i := 0) dX7_layRows_306 rfl rfl ?_
              refine B.getfield (pc := 307) 0 rfl rfl inX7z 22 (by decide) fl_X7_55 rfl dX7_layRows_307 ?_
              refine B.bipush (pc := 310) dX7_layRows_310 ⟨by decide, by decide⟩ ?_
              refine B.iload_n (pc := 312) (i := 1) dX7_layRows_312 rfl rfl ?_
              refine B.imul (pc := 313) dX7_layRows_313 ⟨by omega, by omega⟩ ?_
              refine B.aload_n (pc := 314) (i := 0) dX7_layRows_314 rfl rfl ?_
              refine B.getfield (pc := 315) 0 rfl rfl inX7z 23 (by decide) fl_X7_58 rfl dX7_layRows_315 ?_
              refine B.iload_n (pc := 318) (i := 1) dX7_layRows_318 rfl rfl ?_
              refine B.iaload (pc := 319) 17 rfl (by omega) (by omega) dX7_layRows_319 (fun r319 => ?_)
              obtain ⟨lr319, ur319⟩ := r319
              refine B.iadd (pc := 320) dX7_layRows_320 ⟨by omega, by omega⟩ ?_
              refine B.iload (pc := 321) dX7_layRows_321 rfl ?_
              refine B.iastore (pc := 323) 16 rfl (by omega) (by omega) dX7_layRows_323 ?_
              simp only [List.set_cons_zero, List.set_cons_succ]
              refine B.aload_n (pc := 324) (i := 0) dX7_layRows_324 rfl rfl ?_
              refine B.getfield (pc := 325) 0 rfl rfl inX7z 23 (by decide) fl_X7_58 rfl dX7_layRows_325 ?_
              refine B.iload_n (pc := 328) (i := 1) dX7_layRows_328 rfl rfl ?_
              refine B.dup2 (pc := 329) dX7_layRows_329 ?_
              refine B.iaload (pc := 330) 17 rfl (by omega) (by omega) dX7_layRows_330 (fun r330 => ?_)
              obtain ⟨lr330, ur330⟩ := r330
              refine B.iconst (pc := 331) dX7_layRows_331 ⟨by decide, by decide⟩ ?_
              refine B.iadd (pc := 332) dX7_layRows_332 ⟨by omega, by omega⟩ ?_
              refine B.iastore (pc := 333) 17 rfl (by omega) (by omega) dX7_layRows_333 ?_
              simp only [List.set_cons_zero, List.set_cons_succ]
              refine B.iload (pc := 334) dX7_layRows_334 rfl ?_
              refine B.istore (pc := 336) (i := 4) dX7_layRows_336 (by decide) ?_
              simp only [List.set_cons_zero, List.set_cons_succ]
              refine B.iload (pc := 338) dX7_layRows_338 rfl ?_
              refine B.istore (pc := 340) (i := 5) dX7_layRows_340 (by decide) ?_
              simp only [List.set_cons_zero, List.set_cons_succ]
              refine B.goto (pc := 342) (tgt := 96) dX7_layRows_342 (by decide) ?_
              refine (ih _ ?_).2.1 _ _ ⟨_, _, _, _, _, _, _, _, _, _, _, _, _, _, _, _, _, _, _, _, _, _, rfl, rfl, rfl, ?_⟩
              · first | omega | (rw [zup_eq]; omega)
              · first
                  | exact ⟨a1, a2, a3, a4, a5, a6, by omega, a9.zero (by omega)⟩
                  | exact ⟨a1, a2, a3, a4, a5, a6, by omega, a9⟩
                  | exact ⟨a1, a2, a3, a4, a5, a6, by omega, a9.push (by omega) (by omega) (by omega) (by omega)⟩
          · refine B.iconst (pc := 278) dX7_layRows_278 ⟨by decide, by decide⟩ ?_
            refine B.goto (pc := 279) (tgt := 283) dX7_layRows_279 (by decide) ?_
            refine B.istore_n (pc := 283) (i := 3) dX7_layRows_283 rfl (by decide) ?_
            simp only [List.set_cons_zero, List.set_cons_succ]
            refine B.iload_n (pc := 284) (i := 3) dX7_layRows_284 rfl rfl ?_
            refine B.if_eq (pc := 285) (tgt := 342) dX7_layRows_285 (by decide) (fun c285 => ?_) (fun c285 => ?_)
            · refine B.goto (pc := 342) (tgt := 96) dX7_layRows_342 (by decide) ?_
              refine (ih _ ?_).2.1 _ _ ⟨_, _, _, _, _, _, _, _, _, _, _, _, _, _, _, _, _, _, _, _, _, _, rfl, rfl, rfl, ?_⟩
              · first | omega | (rw [zup_eq]; omega)
              · first
                  | exact ⟨a1, a2, a3, a4, a5, a6, by omega, a9.zero (by omega)⟩
                  | exact ⟨a1, a2, a3, a4, a5, a6, by omega, a9⟩
                  | exact ⟨a1, a2, a3, a4, a5, a6, by omega, a9.push (by omega) (by omega) (by omega) (by omega)⟩
            · refine B.aload_n (pc := 288) (i := 0) dX7_layRows_288 rfl rfl ?_
              refine B.getfield (pc := 289) 0 rfl rfl inX7z 21 (by decide) fl_X7_52 rfl dX7_layRows_289 ?_
              refine B.bipush (pc := 292) dX7_layRows_292 ⟨by decide, by decide⟩ ?_
              refine B.iload_n (pc := 294) (i := 1) dX7_layRows_294 rfl rfl ?_
              refine B.imul (pc := 295) dX7_layRows_295 ⟨by omega, by omega⟩ ?_
              refine B.aload_n (pc := 296) (i := 0) dX7_layRows_296 rfl rfl ?_
              refine B.getfield (pc := 297) 0 rfl rfl inX7z 23 (by decide) fl_X7_58 rfl dX7_layRows_297 ?_
              refine B.iload_n (pc := 300) (i := 1) dX7_layRows_300 rfl rfl ?_
              refine B.iaload (pc := 301) 17 rfl (by omega) (by omega) dX7_layRows_301 (fun r301 => ?_)
              obtain ⟨lr301, ur301⟩ := r301
              refine B.iadd (pc := 302) dX7_layRows_302 ⟨by omega, by omega⟩ ?_
              refine B.iload (pc := 303) dX7_layRows_303 rfl ?_
              refine B.iastore (pc := 305) 15 rfl (by omega) (by omega) dX7_layRows_305 ?_
              simp only [List.set_cons_zero, List.set_cons_succ]
              refine B.aload_n (pc := 306) (i := 0) dX7_layRows_306 rfl rfl ?_
              refine B.getfield (pc := 307) 0 rfl rfl inX7z 22 (by decide) fl_X7_55 rfl dX7_layRows_307 ?_
              refine B.bipush (pc := 310) dX7_layRows_310 ⟨by decide, by decide⟩ ?_
              refine B.iload_n (pc := 312) (i := 1) dX7_layRows_312 rfl rfl ?_
              refine B.imul (pc := 313) dX7_layRows_313 ⟨by omega, by omega⟩ ?_
              refine B.aload_n (pc := 314) (i := 0) dX7_layRows_314 rfl rfl ?_
              refine B.getfield (pc := 315) 0 rfl rfl inX7z 23 (by decide) fl_X7_58 rfl dX7_layRows_315 ?_
              refine B.iload_n (pc := 318) (i := 1) dX7_layRows_318 rfl rfl ?_
              refine B.iaload (pc := 319) 17 rfl (by omega) (by omega) dX7_layRows_319 (fun r319 => ?_)
              obtain ⟨lr319, ur319⟩ := r319
              refine B.iadd (pc := 320) dX7_layRows_320 ⟨by omega, by omega⟩ ?_
              refine B.iload (pc := 321) dX7_layRows_321 rfl ?_
              refine B.iastore (pc := 323) 16 rfl (by omega) (by omega) dX7_layRows_323 ?_
              simp only [List.set_cons_zero, List.set_cons_succ]
              refine B.aload_n (pc := 324) (i := 0) dX7_layRows_324 rfl rfl ?_
              refine B.getfield (pc := 325) 0 rfl rfl inX7z 23 (by decide) fl_X7_58 rfl dX7_layRows_325 ?_
              refine B.iload_n (pc := 328) (i := 1) dX7_layRows_328 rfl rfl ?_
              refine B.dup2 (pc := 329) dX7_layRows_329 ?_
              refine B.iaload (pc := 330) 17 rfl (by omega) (by omega) dX7_layRows_330 (fun r330 => ?_)
              obtain ⟨lr330, ur330⟩ := r330
              refine B.iconst (pc := 331) dX7_layRows_331 ⟨by decide, by decide⟩ ?_
              refine B.iadd (pc := 332) dX7_layRows_332 ⟨by omega, by omega⟩ ?_
              refine B.iastore (pc := 333) 17 rfl (by omega) (by omega) dX7_layRows_333 ?_
              simp only [List.set_cons_zero, List.set_cons_succ]
              refine B.iload (pc := 334) dX7_layRows_334 rfl ?_
              refine B.istore (pc := 336) (i := 4) dX7_layRows_336 (by decide) ?_
              simp only [List.set_cons_zero, List.set_cons_succ]
              refine B.iload (pc := 338) dX7_layRows_338 rfl ?_
              refine B.istore (pc := 340) (i := 5) dX7_layRows_340 (by decide) ?_
              simp only [List.set_cons_zero, List.set_cons_succ]
              refine B.goto (pc := 342) (tgt := 96) dX7_layRows_342 (by decide) ?_
              refine (ih _ ?_).2.1 _ _ ⟨_, _, _, _, _, _, _, _, _, _, _, _, _, _, _, _, _, _, _, _, _, _, rfl, rfl, rfl, ?_⟩
              · first | omega | (rw [zup_eq]; omega)
              · first
                  | exact ⟨a1, a2, a3, a4, a5, a6, by omega, a9.zero (by omega)⟩
                  | exact ⟨a1, a2, a3, a4, a5, a6, by omega, a9⟩
                  | exact ⟨a1, a2, a3, a4, a5, a6, by omega, a9.push (by omega) (by omega) (by omega) (by omega)⟩
        · refine B.iconst (pc := 139) dX7_layRows_139 ⟨by decide, by decide⟩ ?_
          refine B.istore (pc := 140) (i := 9) dX7_layRows_140 (by decide) ?_
          simp only [List.set_cons_zero, List.set_cons_succ]
          refine (ih _ ?_).2.2.2 _ _ ⟨_, _, _, _, _, _, _, _, _, _, _, _, _, _, _, _, _, _, _, _, _, _, rfl, rfl, rfl, ?_⟩
          · omega
          · first
              | exact ⟨a1, a2, a3, a4, a5, a6, by omega, a8, a9⟩
              | exact ⟨a1, a2, a3, a4, a5, a6, by omega, Or.inr ⟨by omega, by omega, by rw [show (16 * y + r) / 16 = y by omega]; omega⟩, a9⟩
      · intro lv ws hJ
        obtain ⟨d10, d11, d12, x, en, mo, lc, la, bc, be, y, r, m_many, m_place, m_length, m_sort, m_price, m_of, m_begins, m_rows, m_rowCost, m_rowNext, rfl, rfl, rfl, hi⟩ := hJ
        obtain ⟨a1, a2, a3, a4, a5, a6, a7, a8, a9⟩ := hi
        have hr := a9.at (x := x) (by omega) (by omega) (by omega)
        have hl := a3.at (x := x) (by omega) (by omega)
        have hb1 := a5.at (x := en) (by omega) (by omega)
        have hb2 := a5.at (x := en + 1) (by omega) (by omega)
        have hxy := a4.after a6 (x := x) (e := en) (y := y) (by omega) (by omega) (by omega) (by omega) (by omega) (by omega)
        have hry := a9.at (x := y) (by omega) (by omega) (by omega)
        have ey : (16 * y + r) / 16 = y := by omega
        refine B.iload (pc := 142) dX7_layRows_142 rfl ?_
        refine B.aload_n (pc := 144) (i := 0) dX7_layRows_144 rfl rfl ?_
        refine B.getfield (pc := 145) 0 rfl rfl inX7z 23 (by decide) fl_X7_58 rfl dX7_layRows_145 ?_
        refine B.iload (pc := 148) dX7_layRows_148 rfl ?_
        refine B.iaload (pc := 150) 17 rfl (by omega) (by omega) dX7_layRows_150 (fun r150 => ?_)
        obtain ⟨lr150, ur150⟩ := r150
        refine B.icmp_ge (pc := 151) (tgt := 267) dX7_layRows_151 (by decide) (fun c151 => ?_) (fun c151 => ?_)
        · refine B.iinc (pc := 267) dX7_layRows_267 (by decide) rfl ⟨by omega, by omega⟩ ?_
          simp only [List.set_cons_zero, List.set_cons_succ]
          refine B.goto (pc := 270) (tgt := 126) dX7_layRows_270 (by decide) ?_
          refine (ih _ ?_).2.2.1 _ _ ⟨_, _, _, _, _, _, _, _, _, _, _, _, _, _, _, _, _, _, _, _, _, _, rfl, rfl, rfl, ?_⟩
          · omega
          · first | exact ⟨a1, a2, a3, a4, a5, a6, by omega, Or.inl (by decide), a9⟩ | exact ⟨a1, a2, a3, a4, a5, a6, by omega, a8, a9⟩
        · refine B.aload_n (pc := 154) (i := 0) dX7_layRows_154 rfl rfl ?_
          refine B.getfield (pc := 155) 0 rfl rfl inX7z 17 (by decide) fl_X7_43 rfl dX7_layRows_155 ?_
          refine B.iload_n (pc := 158) (i := 1) dX7_layRows_158 rfl rfl ?_
          refine B.iaload (pc := 159) 12 rfl (by omega) (by omega) dX7_layRows_159 (fun r159 => ?_)
          obtain ⟨lr159, ur159⟩ := r159
          refine B.aload_n (pc := 160) (i := 0) dX7_layRows_160 rfl rfl ?_
          refine B.iload_n (pc := 161) (i := 1) dX7_layRows_161 rfl rfl ?_
          refine B.iload (pc := 162) dX7_layRows_162 rfl ?_
          refine B.callVi (pc := 164) 2 (mX7_joinOf hE _ _ _ _ _ _ _ _ _ _ _ _ _ _ _ _ _ _ _ _ _ _ _ _ _ _ _ _ _ _ _ _ _ _ _ _ _ _ _ _ _ _ _ _ _ _ _ _ _ _ _ _) 0 rfl rfl ml_X7_133 im_X7_joinOf se_X7_joinOf it_X7 co_X7_joinOf (by decide +kernel) rfl rfl rfl ⟨by decide, by decide⟩ ⟨by decide, by decide⟩ [0, 1, 2, 3, 4, 5, 6, 7, 8, 9, 10, 11, 12, 13, 14, 15, 16, 17, 18, 19, 20, 21] rfl rfl rfl (Nat.le_of_ble_eq_true rfl) dX7_layRows_164 (fun _ => ⟨a3, by omega, by omega, by omega, by omega, by omega⟩) (fun zk164 uk164 rzk164 ruk164 rak164 hqk164 => ?_)
          obtain ⟨lzk164, uzk164⟩ := rzk164
          obtain ⟨rfl, hk164⟩ := hqk164
          simp only [zput, List.set_cons_zero, List.set_cons_succ, List.append_nil, Nat.add_zero]
          refine B.iaddw (pc := 167) dX7_layRows_167 (fun w167 rw167 ew167 => ?_)
          obtain ⟨lw167, uw167⟩ := rw167
          refine B.aload_n (pc := 168) (i := 0) dX7_layRows_168 rfl rfl ?_
          refine B.getfield (pc := 169) 0 rfl rfl inX7z 21 (by decide) fl_X7_52 rfl dX7_layRows_169 ?_
          refine B.bipush (pc := 172) dX7_layRows_172 ⟨by decide, by decide⟩ ?_
          refine B.iload (pc := 174) dX7_layRows_174 rfl ?_
          refine B.imul (pc := 176) dX7_layRows_176 ⟨by omega, by omega⟩ ?_
          refine B.iload (pc := 177) dX7_layRows_177 rfl ?_
          refine B.iadd (pc := 179) dX7_layRows_179 ⟨by omega, by omega⟩ ?_
          refine B.iaload (pc := 180) 15 rfl (by omega) (by omega) dX7_layRows_180 (fun r180 => ?_)
          obtain ⟨lr180, ur180⟩ := r180
          refine B.iaddw (pc := 181) dX7_layRows_181 (fun w181 rw181 ew181 => ?_)
          obtain ⟨lw181, uw181⟩ := rw181
          refine B.istore (pc := 182) (i := 10) dX7_layRows_182 (by decide) ?_
          simp only [List.set_cons_zero, List.set_cons_succ]
          refine B.bipush (pc := 184) dX7_layRows_184 ⟨by decide, by decide⟩ ?_
          refine B.iload (pc := 186) dX7_layRows_186 rfl ?_
          refine B.imul (pc := 188) dX7_layRows_188 ⟨by omega, by omega⟩ ?_
          refine B.iload (pc := 189) dX7_layRows_189 rfl ?_
          refine B.iadd (pc := 191) dX7_layRows_191 ⟨by omega, by omega⟩ ?_
          refine B.istore (pc := 192) (i := 11) dX7_layRows_192 (by decide) ?_
          simp only [List.set_cons_zero, List.set_cons_succ]
          refine B.iload (pc := 194) dX7_layRows_194 rfl ?_
          refine B.iload (pc := 196) dX7_layRows_196 rfl ?_
          refine B.icmp_gt (pc := 198) (tgt := 215) dX7_layRows_198 (by decide) (fun c198 => ?_) (fun c198 => ?_)
          · refine B.iconst (pc := 215) dX7_layRows_215 ⟨by decide, by decide⟩ ?_
            refine B.goto (pc := 216) (tgt := 220) dX7_layRows_216 (by decide) ?_
            refine B.istore (pc := 220) (i := 12) dX7_layRows_220 (by decide) ?_
            simp only [List.set_cons_zero, List.set_cons_succ]
            refine B.iload (pc := 222) dX7_layRows_222 rfl ?_
            refine B.if_eq (pc := 224) (tgt := 261) dX7_layRows_224 (by decide) (fun c224 => ?_) (fun c224 => ?_)
            · refine B.iinc (pc := 261) dX7_layRows_261 (by decide) rfl ⟨by omega, by omega⟩ ?_
              simp only [List.set_cons_zero, List.set_cons_succ]
              refine B.goto (pc := 264) (tgt := 142) dX7_layRows_264 (by decide) ?_
              refine (ih _ ?_).2.2.2 _ _ ⟨_, _, _, _, _, _, _, _, _, _, _, _, _, _, _, _, _, _, _, _, _, _, rfl, rfl, rfl, ?_⟩
              · omega
              · first
                  | exact ⟨a1, a2, a3, a4, a5, a6, by omega, a8, a9⟩
                  | exact ⟨a1, a2, a3, a4, a5, a6, by omega, Or.inr ⟨by omega, by omega, by rw [show (16 * y + r) / 16 = y by omega]; omega⟩, a9⟩
            · refine B.iload (pc := 227) dX7_layRows_227 rfl ?_
              refine B.if_lt (pc := 229) (tgt := 253) dX7_layRows_229 (by decide) (fun c229 => ?_) (fun c229 => ?_)
              · refine B.iload (pc := 253) dX7_layRows_253 rfl ?_
                refine B.istore (pc := 255) (i := 7) dX7_layRows_255 (by decide) ?_
                simp only [List.set_cons_zero, List.set_cons_succ]
                refine B.iload (pc := 257) dX7_layRows_257 rfl ?_
                refine B.istore (pc := 259) (i := 6) dX7_layRows_259 (by decide) ?_
                simp only [List.set_cons_zero, List.set_cons_succ]
                refine B.iinc (pc := 261) dX7_layRows_261 (by decide) rfl ⟨by omega, by omega⟩ ?_
                simp only [List.set_cons_zero, List.set_cons_succ]
                refine B.goto (pc := 264) (tgt := 142) dX7_layRows_264 (by decide) ?_
                refine (ih _ ?_).2.2.2 _ _ ⟨_, _, _, _, _, _, _, _, _, _, _, _, _, _, _, _, _, _, _, _, _, _, rfl, rfl, rfl, ?_⟩
                · omega
                · first
                    | exact ⟨a1, a2, a3, a4, a5, a6, by omega, a8, a9⟩
                    | exact ⟨a1, a2, a3, a4, a5, a6, by omega, Or.inr ⟨by omega, by omega, by rw [show (16 * y + r) / 16 = y by omega]; omega⟩, a9⟩
              · refine B.iload (pc := 232) dX7_layRows_232 rfl ?_
                refine B.iload (pc := 234) dX7_layRows_234 rfl ?_
                refine B.icmp_lt (pc := 236) (tgt := 253) dX7_layRows_236 (by decide) (fun c236 => ?_) (fun c236 => ?_)
                · refine B.iload (pc := 253) dX7_layRows_253 rfl ?_
                  refine B.istore (pc := 255) (i := 7) dX7_layRows_255 (by decide) ?_
                  simp only [List.set_cons_zero, List.set_cons_succ]
                  refine B.iload (pc := 257) dX7_layRows_257 rfl ?_
                  refine B.istore (pc := 259) (i := 6) dX7_layRows_259 (by decide) ?_
                  simp only [List.set_cons_zero, List.set_cons_succ]
                  refine B.iinc (pc := 261) dX7_layRows_261 (by decide) rfl ⟨by omega, by omega⟩ ?_
                  simp only [List.set_cons_zero, List.set_cons_succ]
                  refine B.goto (pc := 264) (tgt := 142) dX7_layRows_264 (by decide) ?_
                  refine (ih _ ?_).2.2.2 _ _ ⟨_, _, _, _, _, _, _, _, _, _, _, _, _, _, _, _, _, _, _, _, _, _, rfl, rfl, rfl, ?_⟩
                  · omega
                  · first
                      | exact ⟨a1, a2, a3, a4, a5, a6, by omega, a8, a9⟩
                      | exact ⟨a1, a2, a3, a4, a5, a6, by omega, Or.inr ⟨by omega, by omega, by rw [show (16 * y + r) / 16 = y by omega]; omega⟩, a9⟩
                · refine B.iload (pc := 239) dX7_layRows_239 rfl ?_
                  refine B.iload (pc := 241) dX7_layRows_241 rfl ?_
                  refine B.icmp_ne (pc := 243) (tgt := 261) dX7_layRows_243 (by decide) (fun c243 => ?_) (fun c243 => ?_)
                  · refine B.iinc (pc := 261) dX7_layRows_261 (by decide) rfl ⟨by omega, by omega⟩ ?_
                    simp only [List.set_cons_zero, List.set_cons_succ]
                    refine B.goto (pc := 264) (tgt := 142) dX7_layRows_264 (by decide) ?_
                    refine (ih _ ?_).2.2.2 _ _ ⟨_, _, _, _, _, _, _, _, _, _, _, _, _, _, _, _, _, _, _, _, _, _, rfl, rfl, rfl, ?_⟩
                    · omega
                    · first
                        | exact ⟨a1, a2, a3, a4, a5, a6, by omega, a8, a9⟩
                        | exact ⟨a1, a2, a3, a4, a5, a6, by omega, Or.inr ⟨by omega, by omega, by rw [show (16 * y + r) / 16 = y by omega]; omega⟩, a9⟩
                  · refine B.iload (pc := 246) dX7_layRows_246 rfl ?_
                    refine B.iload (pc := 248) dX7_layRows_248 rfl ?_
                    refine B.icmp_ge (pc := 250) (tgt := 261) dX7_layRows_250 (by decide) (fun c250 => ?_) (fun c250 => ?_)
                    · refine B.iinc (pc := 261) dX7_layRows_261 (by decide) rfl ⟨by omega, by omega⟩ ?_
                      simp only [List.set_cons_zero, List.set_cons_succ]
                      refine B.goto (pc := 264) (tgt := 142) dX7_layRows_264 (by decide) ?_
                      refine (ih _ ?_).2.2.2 _ _ ⟨_, _, _, _, _, _, _, _, _, _, _, _, _, _, _, _, _, _, _, _, _, _, rfl, rfl, rfl, ?_⟩
                      · omega
                      · first
                          | exact ⟨a1, a2, a3, a4, a5, a6, by omega, a8, a9⟩
                          | exact ⟨a1, a2, a3, a4, a5, a6, by omega, Or.inr ⟨by omega, by omega, by rw [show (16 * y + r) / 16 = y by omega]; omega⟩, a9⟩
                    · refine B.iload (pc := 253) dX7_layRows_253 rfl ?_
                      refine B.istore (pc := 255) (i := 7) dX7_layRows_255 (by decide) ?_
                      simp only [List.set_cons_zero, List.set_cons_succ]
                      refine B.iload (pc := 257) dX7_layRows_257 rfl ?_
                      refine B.istore (pc := 259) (i := 6) dX7_layRows_259 (by decide) ?_
                      simp only [List.set_cons_zero, List.set_cons_succ]
                      refine B.iinc (pc := 261) dX7_layRows_261 (by decide) rfl ⟨by omega, by omega⟩ ?_
                      simp only [List.set_cons_zero, List.set_cons_succ]
                      refine B.goto (pc := 264) (tgt := 142) dX7_layRows_264 (by decide) ?_
                      refine (ih _ ?_).2.2.2 _ _ ⟨_, _, _, _, _, _, _, _, _, _, _, _, _, _, _, _, _, _, _, _, _, _, rfl, rfl, rfl, ?_⟩
                      · omega
                      · first
                          | exact ⟨a1, a2, a3, a4, a5, a6, by omega, a8, a9⟩
                          | exact ⟨a1, a2, a3, a4, a5, a6, by omega, Or.inr ⟨by omega, by omega, by rw [show (16 * y + r) / 16 = y by omega]; omega⟩, a9⟩
          · refine B.iload (pc := 201) dX7_layRows_201 rfl ?_
            refine B.iload (pc := 203) dX7_layRows_203 rfl ?_
            refine B.icmp_ne (pc := 205) (tgt := 219) dX7_layRows_205 (by decide) (fun c205 => ?_) (fun c205 => ?_)
            · refine B.iconst (pc := 219) dX7_layRows_219 ⟨by decide, by decide⟩ ?_
              refine B.istore (pc := 220) (i := 12) dX7_layRows_220 (by decide) ?_
              simp only [List.set_cons_zero, List.set_cons_succ]
              refine B.iload (pc := 222) dX7_layRows_222 rfl ?_
              refine B.if_eq (pc := 224) (tgt := 261) dX7_layRows_224 (by decide) (fun c224 => ?_) (fun c224 => ?_)
              · refine B.iinc (pc := 261) dX7_layRows_261 (by decide) rfl ⟨by omega, by omega⟩ ?_
                simp only [List.set_cons_zero, List.set_cons_succ]
                refine B.goto (pc := 264) (tgt := 142) dX7_layRows_264 (by decide) ?_
                refine (ih _ ?_).2.2.2 _ _ ⟨_, _, _, _, _, _, _, _, _, _, _, _, _, _, _, _, _, _, _, _, _, _, rfl, rfl, rfl, ?_⟩
                · omega
                · first
                    | exact ⟨a1, a2, a3, a4, a5, a6, by omega, a8, a9⟩
                    | exact ⟨a1, a2, a3, a4, a5, a6, by omega, Or.inr ⟨by omega, by omega, by rw [show (16 * y + r) / 16 = y by omega]; omega⟩, a9⟩
              · refine B.iload (pc := 227) dX7_layRows_227 rfl ?_
                refine B.if_lt (pc := 229) (tgt := 253) dX7_layRows_229 (by decide) (fun c229 => ?_) (fun c229 => ?_)
                · refine B.iload (pc := 253) dX7_layRows_253 rfl ?_
                  refine B.istore (pc := 255) (i := 7) dX7_layRows_255 (by decide) ?_
                  simp only [List.set_cons_zero, List.set_cons_succ]
                  refine B.iload (pc := 257) dX7_layRows_257 rfl ?_
                  refine B.istore (pc := 259) (i := 6) dX7_layRows_259 (by decide) ?_
                  simp only [List.set_cons_zero, List.set_cons_succ]
                  refine B.iinc (pc := 261) dX7_layRows_261 (by decide) rfl ⟨by omega, by omega⟩ ?_
                  simp only [List.set_cons_zero, List.set_cons_succ]
                  refine B.goto (pc := 264) (tgt := 142) dX7_layRows_264 (by decide) ?_
                  refine (ih _ ?_).2.2.2 _ _ ⟨_, _, _, _, _, _, _, _, _, _, _, _, _, _, _, _, _, _, _, _, _, _, rfl, rfl, rfl, ?_⟩
                  · omega
                  · first
                      | exact ⟨a1, a2, a3, a4, a5, a6, by omega, a8, a9⟩
                      | exact ⟨a1, a2, a3, a4, a5, a6, by omega, Or.inr ⟨by omega, by omega, by rw [show (16 * y + r) / 16 = y by omega]; omega⟩, a9⟩
                · refine B.iload (pc := 232) dX7_layRows_232 rfl ?_
                  refine B.iload (pc := 234) dX7_layRows_234 rfl ?_
                  refine B.icmp_lt (pc := 236) (tgt := 253) dX7_layRows_236 (by decide) (fun c236 => ?_) (fun c236 => ?_)
                  · refine B.iload (pc := 253) dX7_layRows_253 rfl ?_
                    refine B.istore (pc := 255) (i := 7) dX7_layRows_255 (by decide) ?_
                    simp only [List.set_cons_zero, List.set_cons_succ]
                    refine B.iload (pc := 257) dX7_layRows_257 rfl ?_
                    refine B.istore (pc := 259) (i := 6) dX7_layRows_259 (by decide) ?_
                    simp only [List.set_cons_zero, List.set_cons_succ]
                    refine B.iinc (pc := 261) dX7_layRows_261 (by decide) rfl ⟨by omega, by omega⟩ ?_
                    simp only [List.set_cons_zero, List.set_cons_succ]
                    refine B.goto (pc := 264) (tgt := 142) dX7_layRows_264 (by decide) ?_
                    refine (ih _ ?_).2.2.2 _ _ ⟨_, _, _, _, _, _, _, _, _, _, _, _, _, _, _, _, _, _, _, _, _, _, rfl, rfl, rfl, ?_⟩
                    · omega
                    · first
                        | exact ⟨a1, a2, a3, a4, a5, a6, by omega, a8, a9⟩
                        | exact ⟨a1, a2, a3, a4, a5, a6, by omega, Or.inr ⟨by omega, by omega, by rw [show (16 * y + r) / 16 = y by omega]; omega⟩, a9⟩
                  · refine B.iload (pc := 239) dX7_layRows_239 rfl ?_
                    refine B.iload (pc := 241) dX7_layRows_241 rfl ?_
                    refine B.icmp_ne (pc := 243) (tgt := 261) dX7_layRows_243 (by decide) (fun c243 => ?_) (fun c243 => ?_)
                    · refine B.iinc (pc := 261) dX7_layRows_261 (by decide) rfl ⟨by omega, by omega⟩ ?_
                      simp only [List.set_cons_zero, List.set_cons_succ]
                      refine B.goto (pc := 264) (tgt := 142) dX7_layRows_264 (by decide) ?_
                      refine (ih _ ?_).2.2.2 _ _ ⟨_, _, _, _, _, _, _, _, _, _, _, _, _, _, _, _, _, _, _, _, _, _, rfl, rfl, rfl, ?_⟩
                      · omega
                      · first
                          | exact ⟨a1, a2, a3, a4, a5, a6, by omega, a8, a9⟩
                          | exact ⟨a1, a2, a3, a4, a5, a6, by omega, Or.inr ⟨by omega, by omega, by rw [show (16 * y + r) / 16 = y by omega]; omega⟩, a9⟩
                    · refine B.iload (pc := 246) dX7_layRows_246 rfl ?_
                      refine B.iload (pc := 248) dX7_layRows_248 rfl ?_
                      refine B.icmp_ge (pc := 250) (tgt := 261) dX7_layRows_250 (by decide) (fun c250 => ?_) (fun c250 => ?_)
                      · refine B.iinc (pc := 261) dX7_layRows_261 (by decide) rfl ⟨by omega, by omega⟩ ?_
                        simp only [List.set_cons_zero, List.set_cons_succ]
                        refine B.goto (pc := 264) (tgt := 142) dX7_layRows_264 (by decide) ?_
                        refine (ih _ ?_).2.2.2 _ _ ⟨_, _, _, _, _, _, _, _, _, _, _, _, _, _, _, _, _, _, _, _, _, _, rfl, rfl, rfl, ?_⟩
                        · omega
                        · first
                            | exact ⟨a1, a2, a3, a4, a5, a6, by omega, a8, a9⟩
                            | exact ⟨a1, a2, a3, a4, a5, a6, by omega, Or.inr ⟨by omega, by omega, by rw [show (16 * y + r) / 16 = y by omega]; omega⟩, a9⟩
                      · refine B.iload (pc := 253) dX7_layRows_253 rfl ?_
                        refine B.istore (pc := 255) (i := 7) dX7_layRows_255 (by decide) ?_
                        simp only [List.set_cons_zero, List.set_cons_succ]
                        refine B.iload (pc := 257) dX7_layRows_257 rfl ?_
                        refine B.istore (pc := 259) (i := 6) dX7_layRows_259 (by decide) ?_
                        simp only [List.set_cons_zero, List.set_cons_succ]
                        refine B.iinc (pc := 261) dX7_layRows_261 (by decide) rfl ⟨by omega, by omega⟩ ?_
                        simp only [List.set_cons_zero, List.set_cons_succ]
                        refine B.goto (pc := 264) (tgt := 142) dX7_layRows_264 (by decide) ?_
                        refine (ih _ ?_).2.2.2 _ _ ⟨_, _, _, _, _, _, _, _, _, _, _, _, _, _, _, _, _, _, _, _, _, _, rfl, rfl, rfl, ?_⟩
                        · omega
                        · first
                            | exact ⟨a1, a2, a3, a4, a5, a6, by omega, a8, a9⟩
                            | exact ⟨a1, a2, a3, a4, a5, a6, by omega, Or.inr ⟨by omega, by omega, by rw [show (16 * y + r) / 16 = y by omega]; omega⟩, a9⟩
            · refine B.iload (pc := 208) dX7_layRows_208 rfl ?_
              refine B.iload (pc := 210) dX7_layRows_210 rfl ?_
              refine B.icmp_le (pc := 212) (tgt := 219) dX7_layRows_212 (by decide) (fun c212 => ?_) (fun c212 => ?_)
              · refine B.iconst (pc := 219) dX7_layRows_219 ⟨by decide, by decide⟩ ?_
                refine B.istore (pc := 220) (i := 12) dX7_layRows_220 (by decide) ?_
                simp only [List.set_cons_zero, List.set_cons_succ]
                refine B.iload (pc := 222) dX7_layRows_222 rfl ?_
                refine B.if_eq (pc := 224) (tgt := 261) dX7_layRows_224 (by decide) (fun c224 => ?_) (fun c224 => ?_)
                · refine B.iinc (pc := 261) dX7_layRows_261 (by decide) rfl ⟨by omega, by omega⟩ ?_
                  simp only [List.set_cons_zero, List.set_cons_succ]
                  refine B.goto (pc := 264) (tgt := 142) dX7_layRows_264 (by decide) ?_
                  refine (ih _ ?_).2.2.2 _ _ ⟨_, _, _, _, _, _, _, _, _, _, _, _, _, _, _, _, _, _, _, _, _, _, rfl, rfl, rfl, ?_⟩
                  · omega
                  · first
                      | exact ⟨a1, a2, a3, a4, a5, a6, by omega, a8, a9⟩
                      | exact ⟨a1, a2, a3, a4, a5, a6, by omega, Or.inr ⟨by omega, by omega, by rw [show (16 * y + r) / 16 = y by omega]; omega⟩, a9⟩
                · refine B.iload (pc := 227) dX7_layRows_227 rfl ?_
                  refine B.if_lt (pc := 229) (tgt := 253) dX7_layRows_229 (by decide) (fun c229 => ?_) (fun c229 => ?_)
                  · refine B.iload (pc := 253) dX7_layRows_253 rfl ?_
                    refine B.istore (pc := 255) (i := 7) dX7_layRows_255 (by decide) ?_
                    simp only [List.set_cons_zero, List.set_cons_succ]
                    refine B.iload (pc := 257) dX7_layRows_257 rfl ?_
                    refine B.istore (pc := 259) (i := 6) dX7_layRows_259 (by decide) ?_
                    simp only [List.set_cons_zero, List.set_cons_succ]
                    refine B.iinc (pc := 261) dX7_layRows_261 (by decide) rfl ⟨by omega, by omega⟩ ?_
                    simp only [List.set_cons_zero, List.set_cons_succ]
                    refine B.goto (pc := 264) (tgt := 142) dX7_layRows_264 (by decide) ?_
                    refine (ih _ ?_).2.2.2 _ _ ⟨_, _, _, _, _, _, _, _, _, _, _, _, _, _, _, _, _, _, _, _, _, _, rfl, rfl, rfl, ?_⟩
                    · omega
                    · first
                        | exact ⟨a1, a2, a3, a4, a5, a6, by omega, a8, a9⟩
                        | exact ⟨a1, a2, a3, a4, a5, a6, by omega, Or.inr ⟨by omega, by omega, by rw [show (16 * y + r) / 16 = y by omega]; omega⟩, a9⟩
                  · refine B.iload (pc := 232) dX7_layRows_232 rfl ?_
                    refine B.iload (pc := 234) dX7_layRows_234 rfl ?_
                    refine B.icmp_lt (pc := 236) (tgt := 253) dX7_layRows_236 (by decide) (fun c236 => ?_) (fun c236 => ?_)
                    · refine B.iload (pc := 253) dX7_layRows_253 rfl ?_
                      refine B.istore (pc := 255) (i := 7) dX7_layRows_255 (by decide) ?_
                      simp only [List.set_cons_zero, List.set_cons_succ]
                      refine B.iload (pc := 257) dX7_layRows_257 rfl ?_
                      refine B.istore (pc := 259) (i := 6) dX7_layRows_259 (by decide) ?_
                      simp only [List.set_cons_zero, List.set_cons_succ]
                      refine B.iinc (pc := 261) dX7_layRows_261 (by decide) rfl ⟨by omega, by omega⟩ ?_
                      simp only [List.set_cons_zero, List.set_cons_succ]
                      refine B.goto (pc := 264) (tgt := 142) dX7_layRows_264 (by decide) ?_
                      refine (ih _ ?_).2.2.2 _ _ ⟨_, _, _, _, _, _, _, _, _, _, _, _, _, _, _, _, _, _, _, _, _, _, rfl, rfl, rfl, ?_⟩
                      · omega
                      · first
                          | exact ⟨a1, a2, a3, a4, a5, a6, by omega, a8, a9⟩
                          | exact ⟨a1, a2, a3, a4, a5, a6, by omega, Or.inr ⟨by omega, by omega, by rw [show (16 * y + r) / 16 = y by omega]; omega⟩, a9⟩
                    · refine B.iload (pc := 239) dX7_layRows_239 rfl ?_
                      refine B.iload (pc := 241) dX7_layRows_241 rfl ?_
                      refine B.icmp_ne (pc := 243) (tgt := 261) dX7_layRows_243 (by decide) (fun c243 => ?_) (fun c243 => ?_)
                      · refine B.iinc (pc := 261) dX7_layRows_261 (by decide) rfl ⟨by omega, by omega⟩ ?_
                        simp only [List.set_cons_zero, List.set_cons_succ]
                        refine B.goto (pc := 264) (tgt := 142) dX7_layRows_264 (by decide) ?_
                        refine (ih _ ?_).2.2.2 _ _ ⟨_, _, _, _, _, _, _, _, _, _, _, _, _, _, _, _, _, _, _, _, _, _, rfl, rfl, rfl, ?_⟩
                        · omega
                        · first
                            | exact ⟨a1, a2, a3, a4, a5, a6, by omega, a8, a9⟩
                            | exact ⟨a1, a2, a3, a4, a5, a6, by omega, Or.inr ⟨by omega, by omega, by rw [show (16 * y + r) / 16 = y by omega]; omega⟩, a9⟩
                      · refine B.iload (pc := 246) dX7_layRows_246 rfl ?_
                        refine B.iload (pc := 248) dX7_layRows_248 rfl ?_
                        refine B.icmp_ge (pc := 250) (tgt := 261) dX7_layRows_250 (by decide) (fun c250 => ?_) (fun c250 => ?_)
                        · refine B.iinc (pc := 261) dX7_layRows_261 (by decide) rfl ⟨by omega, by omega⟩ ?_
                          simp only [List.set_cons_zero, List.set_cons_succ]
                          refine B.goto (pc := 264) (tgt := 142) dX7_layRows_264 (by decide) ?_
                          refine (ih _ ?_).2.2.2 _ _ ⟨_, _, _, _, _, _, _, _, _, _, _, _, _, _, _, _, _, _, _, _, _, _, rfl, rfl, rfl, ?_⟩
                          · omega
                          · first
                              | exact ⟨a1, a2, a3, a4, a5, a6, by omega, a8, a9⟩
                              | exact ⟨a1, a2, a3, a4, a5, a6, by omega, Or.inr ⟨by omega, by omega, by rw [show (16 * y + r) / 16 = y by omega]; omega⟩, a9⟩
                        · refine B.iload (pc := 253) dX7_layRows_253 rfl ?_
                          refine B.istore (pc := 255) (i := 7) dX7_layRows_255 (by decide) ?_
                          simp only [List.set_cons_zero, List.set_cons_succ]
                          refine B.iload (pc := 257) dX7_layRows_257 rfl ?_
                          refine B.istore (pc := 259) (i := 6) dX7_layRows_259 (by decide) ?_
                          simp only [List.set_cons_zero, List.set_cons_succ]
                          refine B.iinc (pc := 261) dX7_layRows_261 (by decide) rfl ⟨by omega, by omega⟩ ?_
                          simp only [List.set_cons_zero, List.set_cons_succ]
                          refine B.goto (pc := 264) (tgt := 142) dX7_layRows_264 (by decide) ?_
                          refine (ih _ ?_).2.2.2 _ _ ⟨_, _, _, _, _, _, _, _, _, _, _, _, _, _, _, _, _, _, _, _, _, _, rfl, rfl, rfl, ?_⟩
                          · omega
                          · first
                              | exact ⟨a1, a2, a3, a4, a5, a6, by omega, a8, a9⟩
                              | exact ⟨a1, a2, a3, a4, a5, a6, by omega, Or.inr ⟨by omega, by omega, by rw [show (16 * y + r) / 16 = y by omega]; omega⟩, a9⟩
              · refine B.iconst (pc := 215) dX7_layRows_215 ⟨by decide, by decide⟩ ?_
                refine B.goto (pc := 216) (tgt := 220) dX7_layRows_216 (by decide) ?_
                refine B.istore (pc := 220) (i := 12) dX7_layRows_220 (by decide) ?_
                simp only [List.set_cons_zero, List.set_cons_succ]
                refine B.iload (pc := 222) dX7_layRows_222 rfl ?_
                refine B.if_eq (pc := 224) (tgt := 261) dX7_layRows_224 (by decide) (fun c224 => ?_) (fun c224 => ?_)
                · refine B.iinc (pc := 261) dX7_layRows_261 (by decide) rfl ⟨by omega, by omega⟩ ?_
                  simp only [List.set_cons_zero, List.set_cons_succ]
                  refine B.goto (pc := 264) (tgt := 142) dX7_layRows_264 (by decide) ?_
                  refine (ih _ ?_).2.2.2 _ _ ⟨_, _, _, _, _, _, _, _, _, _, _, _, _, _, _, _, _, _, _, _, _, _, rfl, rfl, rfl, ?_⟩
                  · omega
                  · first
                      | exact ⟨a1, a2, a3, a4, a5, a6, by omega, a8, a9⟩
                      | exact ⟨a1, a2, a3, a4, a5, a6, by omega, Or.inr ⟨by omega, by omega, by rw [show (16 * y + r) / 16 = y by omega]; omega⟩, a9⟩
                · refine B.iload (pc := 227) dX7_layRows_227 rfl ?_
                  refine B.if_lt (pc := 229) (tgt := 253) dX7_layRows_229 (by decide) (fun c229 => ?_) (fun c229 => ?_)
                  · refine B.iload (pc := 253) dX7_layRows_253 rfl ?_
                    refine B.istore (pc := 255) (i := 7) dX7_layRows_255 (by decide) ?_
                    simp only [List.set_cons_zero, List.set_cons_succ]
                    refine B.iload (pc := 257) dX7_layRows_257 rfl ?_
                    refine B.istore (pc := 259) (i := 6) dX7_layRows_259 (by decide) ?_
                    simp only [List.set_cons_zero, List.set_cons_succ]
                    refine B.iinc (pc := 261) dX7_layRows_261 (by decide) rfl ⟨by omega, by omega⟩ ?_
                    simp only [List.set_cons_zero, List.set_cons_succ]
                    refine B.goto (pc := 264) (tgt := 142) dX7_layRows_264 (by decide) ?_
                    refine (ih _ ?_).2.2.2 _ _ ⟨_, _, _, _, _, _, _, _, _, _, _, _, _, _, _, _, _, _, _, _, _, _, rfl, rfl, rfl, ?_⟩
                    · omega
                    · first
                        | exact ⟨a1, a2, a3, a4, a5, a6, by omega, a8, a9⟩
                        | exact ⟨a1, a2, a3, a4, a5, a6, by omega, Or.inr ⟨by omega, by omega, by rw [show (16 * y + r) / 16 = y by omega]; omega⟩, a9⟩
                  · refine B.iload (pc := 232) dX7_layRows_232 rfl ?_
                    refine B.iload (pc := 234) dX7_layRows_234 rfl ?_
                    refine B.icmp_lt (pc := 236) (tgt := 253) dX7_layRows_236 (by decide) (fun c236 => ?_) (fun c236 => ?_)
                    · refine B.iload (pc := 253) dX7_layRows_253 rfl ?_
                      refine B.istore (pc := 255) (i := 7) dX7_layRows_255 (by decide) ?_
                      simp only [List.set_cons_zero, List.set_cons_succ]
                      refine B.iload (pc := 257) dX7_layRows_257 rfl ?_
                      refine B.istore (pc := 259) (i := 6) dX7_layRows_259 (by decide) ?_
                      simp only [List.set_cons_zero, List.set_cons_succ]
                      refine B.iinc (pc := 261) dX7_layRows_261 (by decide) rfl ⟨by omega, by omega⟩ ?_
                      simp only [List.set_cons_zero, List.set_cons_succ]
                      refine B.goto (pc := 264) (tgt := 142) dX7_layRows_264 (by decide) ?_
                      refine (ih _ ?_).2.2.2 _ _ ⟨_, _, _, _, _, _, _, _, _, _, _, _, _, _, _, _, _, _, _, _, _, _, rfl, rfl, rfl, ?_⟩
                      · omega
                      · first
                          | exact ⟨a1, a2, a3, a4, a5, a6, by omega, a8, a9⟩
                          | exact ⟨a1, a2, a3, a4, a5, a6, by omega, Or.inr ⟨by omega, by omega, by rw [show (16 * y + r) / 16 = y by omega]; omega⟩, a9⟩
                    · refine B.iload (pc := 239) dX7_layRows_239 rfl ?_
                      refine B.iload (pc := 241) dX7_layRows_241 rfl ?_
                      refine B.icmp_ne (pc := 243) (tgt := 261) dX7_layRows_243 (by decide) (fun c243 => ?_) (fun c243 => ?_)
                      · refine B.iinc (pc := 261) dX7_layRows_261 (by decide) rfl ⟨by omega, by omega⟩ ?_
                        simp only [List.set_cons_zero, List.set_cons_succ]
                        refine B.goto (pc := 264) (tgt := 142) dX7_layRows_264 (by decide) ?_
                        refine (ih _ ?_).2.2.2 _ _ ⟨_, _, _, _, _, _, _, _, _, _, _, _, _, _, _, _, _, _, _, _, _, _, rfl, rfl, rfl, ?_⟩
                        · omega
                        · first
                            | exact ⟨a1, a2, a3, a4, a5, a6, by omega, a8, a9⟩
                            | exact ⟨a1, a2, a3, a4, a5, a6, by omega, Or.inr ⟨by omega, by omega, by rw [show (16 * y + r) / 16 = y by omega]; omega⟩, a9⟩
                      · refine B.iload (pc := 246) dX7_layRows_246 rfl ?_
                        refine B.iload (pc := 248) dX7_layRows_248 rfl ?_
                        refine B.icmp_ge (pc := 250) (tgt := 261) dX7_layRows_250 (by decide) (fun c250 => ?_) (fun c250 => ?_)
                        · refine B.iinc (pc := 261) dX7_layRows_261 (by decide) rfl ⟨by omega, by omega⟩ ?_
                          simp only [List.set_cons_zero, List.set_cons_succ]
                          refine B.goto (pc := 264) (tgt := 142) dX7_layRows_264 (by decide) ?_
                          refine (ih _ ?_).2.2.2 _ _ ⟨_, _, _, _, _, _, _, _, _, _, _, _, _, _, _, _, _, _, _, _, _, _, rfl, rfl, rfl, ?_⟩
                          · omega
                          · first
                              | exact ⟨a1, a2, a3, a4, a5, a6, by omega, a8, a9⟩
                              | exact ⟨a1, a2, a3, a4, a5, a6, by omega, Or.inr ⟨by omega, by omega, by rw [show (16 * y + r) / 16 = y by omega]; omega⟩, a9⟩
                        · refine B.iload (pc := 253) dX7_layRows_253 rfl ?_
                          refine B.istore (pc := 255) (i := 7) dX7_layRows_255 (by decide) ?_
                          simp only [List.set_cons_zero, List.set_cons_succ]
                          refine B.iload (pc := 257) dX7_layRows_257 rfl ?_
                          refine B.istore (pc := 259) (i := 6) dX7_layRows_259 (by decide) ?_
                          simp only [List.set_cons_zero, List.set_cons_succ]
                          refine B.iinc (pc := 261) dX7_layRows_261 (by decide) rfl ⟨by omega, by omega⟩ ?_
                          simp only [List.set_cons_zero, List.set_cons_succ]
                          refine B.goto (pc := 264) (tgt := 142) dX7_layRows_264 (by decide) ?_
                          refine (ih _ ?_).2.2.2 _ _ ⟨_, _, _, _, _, _, _, _, _, _, _, _, _, _, _, _, _, _, _, _, _, _, rfl, rfl, rfl, ?_⟩
                          · omega
                          · first
                              | exact ⟨a1, a2, a3, a4, a5, a6, by omega, a8, a9⟩
                              | exact ⟨a1, a2, a3, a4, a5, a6, by omega, Or.inr ⟨by omega, by omega, by rw [show (16 * y + r) / 16 = y by omega]; omega⟩, a9⟩
  show Z 0 0 0 [some (.inr (some m_a)), none, none, none, none, none, none, none, none, none, none, none, none] [] _
  refine B.aload_n (pc := 0) (i := 0) dX7_layRows_0 rfl rfl ?_
  refine B.callVv (pc := 1) 0 (mX7_layPieces hE _ _ _ _ _ _ _ _ _ _ _ _ _ _ _ _ _ _ _ _ _ _ _ _ _ _ _ _ _ _ _ _ _ _ _ _ _ _ _ _ _ _ _ _ _ _ _ _ _ _) 0 rfl rfl ml_X7_127 im_X7_layPieces se_X7_layPieces it_X7 co_X7_layPieces (by decide +kernel) rfl rfl rfl ⟨by decide, by decide⟩ ⟨by decide, by decide⟩ [0, 1, 2, 3, 4, 5, 6, 7, 8, 9, 10, 11, 12, 13, 14, 15, 16, 17, 18, 19, 20, 21] rfl rfl rfl (Nat.le_of_ble_eq_true rfl) dX7_layRows_1 (fun _ => ⟨hD, hB⟩) (fun uk1 ruk1 rak1 hqk1 => ?_)
  obtain ⟨m_many_k1, m_place_k1, m_length_k1, m_sort_k1, m_price_k1, m_of_k1, m_begins_k1, rfl, hk1⟩ := hqk1
  simp only [zput, List.set_cons_zero, List.set_cons_succ, List.append_nil, Nat.add_zero]
  refine B.aload_n (pc := 4) (i := 0) dX7_layRows_4 rfl rfl ?_
  refine B.getfield (pc := 5) 0 rfl rfl inX7z 20 (by decide) fl_X7_112 rfl dX7_layRows_5 ?_
  refine B.iconst (pc := 8) dX7_layRows_8 ⟨by decide, by decide⟩ ?_
  refine B.isub (pc := 9) dX7_layRows_9 ⟨by omega, by omega⟩ ?_
  refine B.istore_n (pc := 10) (i := 1) dX7_layRows_10 rfl (by decide) ?_
  simp only [List.set_cons_zero, List.set_cons_succ]
  refine (key _).1 _ _ ⟨_, _, _, _, _, _, _, _, _, _, _, _, _, _, _, _, _, _, _, _, _, _, rfl, rfl, rfl, ?_⟩
  obtain ⟨a1, a2, a3, a4, a5, a6⟩ := hk1
  exact ⟨a1, a2, a3, a4, a5, a6, by omega, by omega, fun i q1 q2 => by omega⟩
set_option maxHeartbeats 4000000 in
set_option maxRecDepth 100000 in
theorem mX7_cuttingOf {l : Launch} {D : va_G} {k : zK} {E : zE} (hE : zEok E) (m_a m_letters_a m_size_a m_kind_a m_cost_a m_joins_a m_rules_a m_line_a m_pad_a m_place_a m_length_a m_sort_a m_price_a m_of_a m_begins_a m_rowCost_a m_rowNext_a m_rows_a m_ahead_a m_waysTo_a m_image_a m_isKept_a : Nat) (m_words m_long1 m_signs m_readSize m_readKind m_readCost m_many i : Int) (m_letters m_size m_kind m_cost m_joins m_rules m_line m_pad m_place m_length m_sort m_price m_of m_begins m_rowCost m_rowNext m_rows m_ahead m_waysTo m_image m_isKept : Nat → Int) : zMi l D k E yX7_cuttingOf cX7_cuttingOf 12 .int { frames := 0, cells := 0, slots := 0, locals := 0 } 0 0 [.inr (some m_a), .inl i] [(m_a, .inr (.inr (7, [.inr (some m_letters_a), .inr (some m_size_a), .inr (some m_kind_a), .inr (some m_cost_a), .inl m_words, .inr (some m_joins_a), .inr (some m_rules_a), .inr (some m_line_a), .inl m_long1, .inl m_signs, .inr (some m_pad_a), .inl m_readSize, .inl m_readKind, .inl m_readCost, .inr (some m_place_a), .inr (some m_length_a), .inr (some m_sort_a), .inr (some m_price_a), .inr (some m_of_a), .inr (some m_begins_a), .inl m_many, .inr (some m_rowCost_a), .inr (some m_rowNext_a), .inr (some m_rows_a), .inr (some m_ahead_a), .inr (some m_waysTo_a), .inr (some m_image_a), .inr (some m_isKept_a)]))), (m_letters_a, .inl (false, 96, m_letters)), (m_size_a, .inl (false, 16, m_size)), (m_kind_a, .inl (false, 16, m_kind)), (m_cost_a, .inl (false, 16, m_cost)), (m_joins_a, .inl (false, 25, m_joins)), (m_rules_a, .inl (false, 4, m_rules)), (m_line_a, .inl (false, 24, m_line)), (m_pad_a, .inl (false, 40, m_pad)), (m_place_a, .inl (false, 480, m_place)), (m_length_a, .inl (false, 480, m_length)), (m_sort_a, .inl (false, 480, m_sort)), (m_price_a, .inl (false, 480, m_price)), (m_of_a, .inl (false, 480, m_of)), (m_begins_a, .inl (false, 26, m_begins)), (m_rowCost_a, .inl (false, 5760, m_rowCost)), (m_rowNext_a, .inl (false, 5760, m_rowNext)), (m_rows_a, .inl (false, 480, m_rows)), (m_ahead_a, .inl (false, 480, m_ahead)), (m_waysTo_a, .inl (false, 26, m_waysTo)), (m_image_a, .inl (false, 460, m_image)), (m_isKept_a, .inl (true, 2, m_isKept))] (0 ≤ m_many ∧ m_many ≤ 480 ∧ LB m_place m_length m_sort m_long1 m_many ∧ NF m_place m_length m_begins m_long1 ∧ BE m_begins m_long1 m_many ∧ m_begins m_long1.toNat = m_many ∧ RR m_rows m_rowNext 0 m_many ∧ 1 ≤ m_long1 ∧ m_long1 ≤ 24 ∧ 0 ≤ i ∧ i ≤ 11) (fun z u => u = [(m_a, .inr (.inr (7, [.inr (some m_letters_a), .inr (some m_size_a), .inr (some m_kind_a), .inr (some m_cost_a), .inl m_words, .inr (some m_joins_a), .inr (some m_rules_a), .inr (some m_line_a), .inl m_long1, .inl m_signs, .inr (some m_pad_a), .inl m_readSize, .inl m_readKind, .inl m_readCost, .inr (some m_place_a), .inr (some m_length_a), .inr (some m_sort_a), .inr (some m_price_a), .inr (some m_of_a), .inr (some m_begins_a), .inl m_many, .inr (some m_rowCost_a), .inr (some m_rowNext_a), .inr (some m_rows_a), .inr (some m_ahead_a), .inr (some m_waysTo_a), .inr (some m_image_a), .inr (some m_isKept_a)]))), (m_letters_a, .inl (false, 96, m_letters)), (m_size_a, .inl (false, 16, m_size)), (m_kind_a, .inl (false, 16, m_kind)), (m_cost_a, .inl (false, 16, m_cost)), (m_joins_a, .inl (false, 25, m_joins)), (m_rules_a, .inl (false, 4, m_rules)), (m_line_a, .inl (false, 24, m_line)), (m_pad_a, .inl (false, 40, m_pad)), (m_place_a, .inl (false, 480, m_place)), (m_length_a, .inl (false, 480, m_length)), (m_sort_a, .inl (false, 480, m_sort)), (m_price_a, .inl (false, 480, m_price)), (m_of_a, .inl (false, 480, m_of)), (m_begins_a, .inl (false, 26, m_begins)), (m_rowCost_a, .inl (false, 5760, m_rowCost)), (m_rowNext_a, .inl (false, 5760, m_rowNext)), (m_rows_a, .inl (false, 480, m_rows)), (m_ahead_a, .inl (false, 480, m_ahead)), (m_waysTo_a, .inl (false, 26, m_waysTo)), (m_image_a, .inl (false, 460, m_image)), (m_isKept_a, .inl (true, 2, m_isKept))] ∧ ((z < 0 ∨ (0 ≤ z ∧ z / 16 < m_many ∧ z % 16 < m_rows (z / 16).toNat)))) := by
  refine zMi.of RX7 hE (by decide) rfl (by simp) (fun _ _ _ _ => rfl) ?_
  intro Z hP hav hwr B
  obtain ⟨l_i, u_i⟩ : zR i := hav (.inl i) (by simp)
  obtain ⟨l_m_words, u_m_words⟩ : zR m_words := zWr_at hwr (i := 0) rfl (.inl m_words) (by simp)
  obtain ⟨l_m_long1, u_m_long1⟩ : zR m_long1 := zWr_at hwr (i := 0) rfl (.inl m_long1) (by simp)
  obtain ⟨l_m_signs, u_m_signs⟩ : zR m_signs := zWr_at hwr (i := 0) rfl (.inl m_signs) (by simp)
  obtain ⟨l_m_readSize, u_m_readSize⟩ : zR m_readSize := zWr_at hwr (i := 0) rfl (.inl m_readSize) (by simp)
  obtain ⟨l_m_readKind, u_m_readKind⟩ : zR m_readKind := zWr_at hwr (i := 0) rfl (.inl m_readKind) (by simp)
  obtain ⟨l_m_readCost, u_m_readCost⟩ : zR m_readCost := zWr_at hwr (i := 0) rfl (.inl m_readCost) (by simp)
  obtain ⟨l_m_many, u_m_many⟩ : zR m_many := zWr_at hwr (i := 0) rfl (.inl m_many) (by simp)
  obtain ⟨a1, a2, a3, a4, a5, a6, a7, hi0⟩ := hP
  have hb0 := a5.at (x := 0) (by omega) (by omega)
  have hb1 := a5.at (x := 1) (by omega) (by omega)
  have key : ∀ mu_ : Nat, (∀ (lv : List (Option zV)) (ws : zW), (∃ (d6 : Option zV) (d7 : Option zV) (d8 : Option zV) (d9 : Option zV) (d10 : Option zV) (d11 : Option zV) (lc : Int) (la : Int) (be : Int) (n : Int), lv = [some (.inr (some m_a)), some (.inl i), some (.inl lc), some (.inl la), some (.inl be), some (.inl n), d6, d7, d8, d9, d10, d11] ∧ ws = [(m_a, .inr (.inr (7, [.inr (some m_letters_a), .inr (some m_size_a), .inr (some m_kind_a), .inr (some m_cost_a), .inl m_words, .inr (some m_joins_a), .inr (some m_rules_a), .inr (some m_line_a), .inl m_long1, .inl m_signs, .inr (some m_pad_a), .inl m_readSize, .inl m_readKind, .inl m_readCost, .inr (some m_place_a), .inr (some m_length_a), .inr (some m_sort_a), .inr (some m_price_a), .inr (some m_of_a), .inr (some m_begins_a), .inl m_many, .inr (some m_rowCost_a), .inr (some m_rowNext_a), .inr (some m_rows_a), .inr (some m_ahead_a), .inr (some m_waysTo_a), .inr (some m_image_a), .inr (some m_isKept_a)]))), (m_letters_a, .inl (false, 96, m_letters)), (m_size_a, .inl (false, 16, m_size)), (m_kind_a, .inl (false, 16, m_kind)), (m_cost_a, .inl (false, 16, m_cost)), (m_joins_a, .inl (false, 25, m_joins)), (m_rules_a, .inl (false, 4, m_rules)), (m_line_a, .inl (false, 24, m_line)), (m_pad_a, .inl (false, 40, m_pad)), (m_place_a, .inl (false, 480, m_place)), (m_length_a, .inl (false, 480, m_length)), (m_sort_a, .inl (false, 480, m_sort)), (m_price_a, .inl (false, 480, m_price)), (m_of_a, .inl (false, 480, m_of)), (m_begins_a, .inl (false, 26, m_begins)), (m_rowCost_a, .inl (false, 5760, m_rowCost)), (m_rowNext_a, .inl (false, 5760, m_rowNext)), (m_rows_a, .inl (false, 480, m_rows)), (m_ahead_a, .inl (false, 480, m_ahead)), (m_waysTo_a, .inl (false, 26, m_waysTo)), (m_image_a, .inl (false, 460, m_image)), (m_isKept_a, .inl (true, 2, m_isKept))] ∧ mu_ = ((i + 1 - n) * 100000 + 99999).toNat ∧ (0 ≤ n ∧ n ≤ i + 1 ∧ (be < 0 ∨ (0 ≤ be ∧ be / 16 < m_many ∧ be % 16 < m_rows (be / 16).toNat)))) → Z 0 0 11 lv [] ws) ∧ (∀ (lv : List (Option zV)) (ws : zW), (∃ (d8 : Option zV) (d9 : Option zV) (d10 : Option zV) (d11 : Option zV) (lc : Int) (la : Int) (be : Int) (n : Int) (bc : Int) (y : Int), lv = [some (.inr (some m_a)), some (.inl i), some (.inl lc), some (.inl la), some (.inl be), some (.inl n), some (.inl bc), some (.inl y), d8, d9, d10, d11] ∧ ws = [(m_a, .inr (.inr (7, [.inr (some m_letters_a), .inr (some m_size_a), .inr (some m_kind_a), .inr (some m_cost_a), .inl m_words, .inr (some m_joins_a), .inr (some m_rules_a), .inr (some m_line_a), .inl m_long1, .inl m_signs, .inr (some m_pad_a), .inl m_readSize, .inl m_readKind, .inl m_readCost, .inr (some m_place_a), .inr (some m_length_a), .inr (some m_sort_a), .inr (some m_price_a), .inr (some m_of_a), .inr (some m_begins_a), .inl m_many, .inr (some m_rowCost_a), .inr (some m_rowNext_a), .inr (some m_rows_a), .inr (some m_ahead_a), .inr (some m_waysTo_a), .inr (some m_image_a), .inr (some m_isKept_a)]))), (m_letters_a, .inl (false, 96, m_letters)), (m_size_a, .inl (false, 16, m_size)), (m_kind_a, .inl (false, 16, m_kind)), (m_cost_a, .inl (false, 16, m_cost)), (m_joins_a, .inl (false, 25, m_joins)), (m_rules_a, .inl (false, 4, m_rules)), (m_line_a, .inl (false, 24, m_line)), (m_pad_a, .inl (false, 40, m_pad)), (m_place_a, .inl (false, 480, m_place)), (m_length_a, .inl (false, 480, m_length)), (m_sort_a, .inl (false, 480, m_sort)), (m_price_a, .inl (false, 480, m_price)), (m_of_a, .inl (false, 480, m_of)), (m_begins_a, .inl (false, 26, m_begins)), (m_rowCost_a, .inl (false, 5760, m_rowCost)), (m_rowNext_a, .inl (false, 5760, m_rowNext)), (m_rows_a, .inl (false, 480, m_rows)), (m_ahead_a, .inl (false, 480, m_ahead)), (m_waysTo_a, .inl (false, 26, m_waysTo)), (m_image_a, .inl (false, 460, m_image)), (m_isKept_a, .inl (true, 2, m_isKept))] ∧ mu_ = ((i + 1 - n) * 100000 + (480 - y) * 100 + 99).toNat ∧ ((0 ≤ n ∧ n ≤ i) ∧ (0 ≤ y ∧ y ≤ 480) ∧ (be < 0 ∨ (0 ≤ be ∧ be / 16 < m_many ∧ be % 16 < m_rows (be / 16).toNat)))) → Z 0 0 32 lv [] ws) ∧ (∀ (lv : List (Option zV)) (ws : zW), (∃ (d9 : Option zV) (d10 : Option zV) (d11 : Option zV) (lc : Int) (la : Int) (be : Int) (n : Int) (bc : Int) (y : Int) (r : Int), lv = [some (.inr (some m_a)), some (.inl i), some (.inl lc), some (.inl la), some (.inl be), some (.inl n), some (.inl bc), some (.inl y), some (.inl r), d9, d10, d11] ∧ ws = [(m_a, .inr (.inr (7, [.inr (some m_letters_a), .inr (some m_size_a), .inr (some m_kind_a), .inr (some m_cost_a), .inl m_words, .inr (some m_joins_a), .inr (some m_rules_a), .inr (some m_line_a), .inl m_long1, .inl m_signs, .inr (some m_pad_a), .inl m_readSize, .inl m_readKind, .inl m_readCost, .inr (some m_place_a), .inr (some m_length_a), .inr (some m_sort_a), .inr (some m_price_a), .inr (some m_of_a), .inr (some m_begins_a), .inl m_many, .inr (some m_rowCost_a), .inr (some m_rowNext_a), .inr (some m_rows_a), .inr (some m_ahead_a), .inr (some m_waysTo_a), .inr (some m_image_a), .inr (some m_isKept_a)]))), (m_letters_a, .inl (false, 96, m_letters)), (m_size_a, .inl (false, 16, m_size)), (m_kind_a, .inl (false, 16, m_kind)), (m_cost_a, .inl (false, 16, m_cost)), (m_joins_a, .inl (false, 25, m_joins)), (m_rules_a, .inl (false, 4, m_rules)), (m_line_a, .inl (false, 24, m_line)), (m_pad_a, .inl (false, 40, m_pad)), (m_place_a, .inl (false, 480, m_place)), (m_length_a, .inl (false, 480, m_length)), (m_sort_a, .inl (false, 480, m_sort)), (m_price_a, .inl (false, 480, m_price)), (m_of_a, .inl (false, 480, m_of)), (m_begins_a, .inl (false, 26, m_begins)), (m_rowCost_a, .inl (false, 5760, m_rowCost)), (m_rowNext_a, .inl (false, 5760, m_rowNext)), (m_rows_a, .inl (false, 480, m_rows)), (m_ahead_a, .inl (false, 480, m_ahead)), (m_waysTo_a, .inl (false, 26, m_waysTo)), (m_image_a, .inl (false, 460, m_image)), (m_isKept_a, .inl (true, 2, m_isKept))] ∧ mu_ = ((i + 1 - n) * 100000 + (480 - y) * 100 + (12 - r)).toNat ∧ ((0 ≤ n ∧ n ≤ i) ∧ (0 ≤ y ∧ y < m_begins (1 : Int).toNat ∧ 0 ≤ r ∧ r ≤ 12) ∧ (be < 0 ∨ (0 ≤ be ∧ be / 16 < m_many ∧ be % 16 < m_rows (be / 16).toNat)))) → Z 0 0 46 lv [] ws) := by
    intro mu_
    induction mu_ using Nat.strongRecOn with
    | _ mu_ ih =>
      refine ⟨?_, ?_, ?_⟩
      · intro lv ws hJ
        obtain ⟨d6, d7, d8, d9, d10, d11, lc, la, be, n, rfl, rfl, rfl, hi⟩ := hJ
        obtain ⟨c1, c2, c3⟩ := hi
        refine B.iload (pc := 11) dX7_cuttingOf_11 rfl ?_
        refine B.iload_n (pc := 13) (i := 1) dX7_cuttingOf_13 rfl rfl ?_
        refine B.icmp_gt (pc := 14) (tgt := 195) dX7_cuttingOf_14 (by decide) (fun c14 => ?_) (fun c14 => ?_)
        · refine B.iload (pc := 195) dX7_cuttingOf_195 rfl ?_
          refine B.ireturn (pc := 197) (by simp) dX7_cuttingOf_197 (Nat.le_refl _) (Nat.le_refl _) (fun rz rw => ⟨rfl, ?_⟩)
          exact c3
        · refine B.iconst (pc := 17) dX7_cuttingOf_17 ⟨by decide, by decide⟩ ?_
          refine B.istore (pc := 18) (i := 6) dX7_cuttingOf_18 (by decide) ?_
          simp only [List.set_cons_zero, List.set_cons_succ]
          refine B.bipush (pc := 20) dX7_cuttingOf_20 ⟨by decide, by decide⟩ ?_
          refine B.istore (pc := 22) (i := 4) dX7_cuttingOf_22 (by decide) ?_
          simp only [List.set_cons_zero, List.set_cons_succ]
          refine B.aload_n (pc := 24) (i := 0) dX7_cuttingOf_24 rfl rfl ?_
          refine B.getfield (pc := 25) 0 rfl rfl inX7z 19 (by decide) fl_X7_49 rfl dX7_cuttingOf_25 ?_
          refine B.iconst (pc := 28) dX7_cuttingOf_28 ⟨by decide, by decide⟩ ?_
          refine B.iaload (pc := 29) 14 rfl (by omega) (by omega) dX7_cuttingOf_29 (fun r29 => ?_)
          obtain ⟨lr29, ur29⟩ := r29
          refine B.istore (pc := 30) (i := 7) dX7_cuttingOf_30 (by decide) ?_
          simp only [List.set_cons_zero, List.set_cons_succ]
          refine (ih _ ?_).2.1 _ _ ⟨_, _, _, _, _, _, _, _, _, _, rfl, rfl, rfl, ?_⟩
          · omega
          · first | exact ⟨by omega, by omega, Or.inl (by decide)⟩ | exact ⟨by omega, by omega, c3⟩
      · intro lv ws hJ
        obtain ⟨d8, d9, d10, d11, lc, la, be, n, bc, y, rfl, rfl, rfl, hi⟩ := hJ
        obtain ⟨c1, c2, c3⟩ := hi
        refine B.iload (pc := 32) dX7_cuttingOf_32 rfl ?_
        refine B.aload_n (pc := 34) (i := 0) dX7_cuttingOf_34 rfl rfl ?_
        refine B.getfield (pc := 35) 0 rfl rfl inX7z 19 (by decide) fl_X7_49 rfl dX7_cuttingOf_35 ?_
        refine B.iconst (pc := 38) dX7_cuttingOf_38 ⟨by decide, by decide⟩ ?_
        refine B.iaload (pc := 39) 14 rfl (by omega) (by omega) dX7_cuttingOf_39 (fun r39 => ?_)
        obtain ⟨lr39, ur39⟩ := r39
        refine B.icmp_ge (pc := 40) (tgt := 175) dX7_cuttingOf_40 (by decide) (fun c40 => ?_) (fun c40 => ?_)
        · refine B.iload (pc := 175) dX7_cuttingOf_175 rfl ?_
          refine B.if_ge (pc := 177) (tgt := 183) dX7_cuttingOf_177 (by decide) (fun c177 => ?_) (fun c177 => ?_)
          · refine B.iload (pc := 183) dX7_cuttingOf_183 rfl ?_
            refine B.istore_n (pc := 185) (i := 2) dX7_cuttingOf_185 rfl (by decide) ?_
            simp only [List.set_cons_zero, List.set_cons_succ]
            refine B.iload (pc := 186) dX7_cuttingOf_186 rfl ?_
            refine B.istore_n (pc := 188) (i := 3) dX7_cuttingOf_188 rfl (by decide) ?_
            simp only [List.set_cons_zero, List.set_cons_succ]
            refine B.iinc (pc := 189) dX7_cuttingOf_189 (by decide) rfl ⟨by omega, by omega⟩ ?_
            simp only [List.set_cons_zero, List.set_cons_succ]
            refine B.goto (pc := 192) (tgt := 11) dX7_cuttingOf_192 (by decide) ?_
            refine (ih _ ?_).1 _ _ ⟨_, _, _, _, _, _, _, _, _, _, rfl, rfl, rfl, ?_⟩
            · omega
            · exact ⟨by omega, by omega, by omega⟩
          · refine B.bipush (pc := 180) dX7_cuttingOf_180 ⟨by decide, by decide⟩ ?_
            refine B.ireturn (pc := 182) (by simp) dX7_cuttingOf_182 (Nat.le_refl _) (Nat.le_refl _) (fun rz rw => ⟨rfl, ?_⟩)
            exact Or.inl (by decide)
        · refine B.iconst (pc := 43) dX7_cuttingOf_43 ⟨by decide, by decide⟩ ?_
          refine B.istore (pc := 44) (i := 8) dX7_cuttingOf_44 (by decide) ?_
          simp only [List.set_cons_zero, List.set_cons_succ]
          refine (ih _ ?_).2.2 _ _ ⟨_, _, _, _, _, _, _, _, _, _, rfl, rfl, rfl, ?_⟩
          · omega
          · first | exact ⟨by omega, by omega, c3⟩ | exact ⟨by omega, by omega, Or.inr ⟨by omega, by omega, by rw [show (16 * y + r) / 16 = y by omega]; omega⟩⟩
      · intro lv ws hJ
        obtain ⟨d9, d10, d11, lc, la, be, n, bc, y, r, rfl, rfl, rfl, hi⟩ := hJ
        obtain ⟨c1, c2, c3⟩ := hi
        have hl := a3.at (x := y) (by omega) (by omega)
        have hry := a7.at (x := y) (by omega) (by omega) (by omega)
        refine B.iload (pc := 46) dX7_cuttingOf_46 rfl ?_
        refine B.aload_n (pc := 48) (i := 0) dX7_cuttingOf_48 rfl rfl ?_
        refine B.getfield (pc := 49) 0 rfl rfl inX7z 23 (by decide) fl_X7_58 rfl dX7_cuttingOf_49 ?_
        refine B.iload (pc := 52) dX7_cuttingOf_52 rfl ?_
        refine B.iaload (pc := 54) 17 rfl (by omega) (by omega) dX7_cuttingOf_54 (fun r54 => ?_)
        obtain ⟨lr54, ur54⟩ := r54
        refine B.icmp_ge (pc := 55) (tgt := 169) dX7_cuttingOf_55 (by decide) (fun c55 => ?_) (fun c55 => ?_)
        · refine B.iinc (pc := 169) dX7_cuttingOf_169 (by decide) rfl ⟨by omega, by omega⟩ ?_
          simp only [List.set_cons_zero, List.set_cons_succ]
          refine B.goto (pc := 172) (tgt := 32) dX7_cuttingOf_172 (by decide) ?_
          refine (ih _ ?_).2.1 _ _ ⟨_, _, _, _, _, _, _, _, _, _, rfl, rfl, rfl, ?_⟩
          · omega
          · first | exact ⟨by omega, by omega, Or.inl (by decide)⟩ | exact ⟨by omega, by omega, c3⟩
        · refine B.aload_n (pc := 58) (i := 0) dX7_cuttingOf_58 rfl rfl ?_
          refine B.getfield (pc := 59) 0 rfl rfl inX7z 5 (by decide) fl_X7_22 rfl dX7_cuttingOf_59 ?_
          refine B.bipush (pc := 62) dX7_cuttingOf_62 ⟨by decide, by decide⟩ ?_
          refine B.aload_n (pc := 64) (i := 0) dX7_cuttingOf_64 rfl rfl ?_
          refine B.getfield (pc := 65) 0 rfl rfl inX7z 16 (by decide) fl_X7_40 rfl dX7_cuttingOf_65 ?_
          refine B.iload (pc := 68) dX7_cuttingOf_68 rfl ?_
          refine B.iaload (pc := 70) 11 rfl (by omega) (by omega) dX7_cuttingOf_70 (fun r70 => ?_)
          obtain ⟨lr70, ur70⟩ := r70
          refine B.iadd (pc := 71) dX7_cuttingOf_71 ⟨by omega, by omega⟩ ?_
          refine B.iaload (pc := 72) 5 rfl (by omega) (by omega) dX7_cuttingOf_72 (fun r72 => ?_)
          obtain ⟨lr72, ur72⟩ := r72
          refine B.aload_n (pc := 73) (i := 0) dX7_cuttingOf_73 rfl rfl ?_
          refine B.getfield (pc := 74) 0 rfl rfl inX7z 21 (by decide) fl_X7_52 rfl dX7_cuttingOf_74 ?_
          refine B.bipush (pc := 77) dX7_cuttingOf_77 ⟨by decide, by decide⟩ ?_
          refine B.iload (pc := 79) dX7_cuttingOf_79 rfl ?_
          refine B.imul (pc := 81) dX7_cuttingOf_81 ⟨by omega, by omega⟩ ?_
          refine B.iload (pc := 82) dX7_cuttingOf_82 rfl ?_
          refine B.iadd (pc := 84) dX7_cuttingOf_84 ⟨by omega, by omega⟩ ?_
          refine B.iaload (pc := 85) 15 rfl (by omega) (by omega) dX7_cuttingOf_85 (fun r85 => ?_)
          obtain ⟨lr85, ur85⟩ := r85
          refine B.iaddw (pc := 86) dX7_cuttingOf_86 (fun w86 rw86 ew86 => ?_)
          obtain ⟨lw86, uw86⟩ := rw86
          refine B.istore (pc := 87) (i := 9) dX7_cuttingOf_87 (by decide) ?_
          simp only [List.set_cons_zero, List.set_cons_succ]
          refine B.bipush (pc := 89) dX7_cuttingOf_89 ⟨by decide, by decide⟩ ?_
          refine B.iload (pc := 91) dX7_cuttingOf_91 rfl ?_
          refine B.imul (pc := 93) dX7_cuttingOf_93 ⟨by omega, by omega⟩ ?_
          refine B.iload (pc := 94) dX7_cuttingOf_94 rfl ?_
          refine B.iadd (pc := 96) dX7_cuttingOf_96 ⟨by omega, by omega⟩ ?_
          refine B.istore (pc := 97) (i := 10) dX7_cuttingOf_97 (by decide) ?_
          simp only [List.set_cons_zero, List.set_cons_succ]
          refine B.iload (pc := 99) dX7_cuttingOf_99 rfl ?_
          refine B.iload_n (pc := 101) (i := 2) dX7_cuttingOf_101 rfl rfl ?_
          refine B.icmp_gt (pc := 102) (tgt := 117) dX7_cuttingOf_102 (by decide) (fun c102 => ?_) (fun c102 => ?_)
          · refine B.iconst (pc := 117) dX7_cuttingOf_117 ⟨by decide, by decide⟩ ?_
            refine B.goto (pc := 118) (tgt := 122) dX7_cuttingOf_118 (by decide) ?_
            refine B.istore (pc := 122) (i := 11) dX7_cuttingOf_122 (by decide) ?_
            simp only [List.set_cons_zero, List.set_cons_succ]
            refine B.iload (pc := 124) dX7_cuttingOf_124 rfl ?_
            refine B.if_eq (pc := 126) (tgt := 163) dX7_cuttingOf_126 (by decide) (fun c126 => ?_) (fun c126 => ?_)
            · refine B.iinc (pc := 163) dX7_cuttingOf_163 (by decide) rfl ⟨by omega, by omega⟩ ?_
              simp only [List.set_cons_zero, List.set_cons_succ]
              refine B.goto (pc := 166) (tgt := 46) dX7_cuttingOf_166 (by decide) ?_
              refine (ih _ ?_).2.2 _ _ ⟨_, _, _, _, _, _, _, _, _, _, rfl, rfl, rfl, ?_⟩
              · omega
              · first | exact ⟨by omega, by omega, c3⟩ | exact ⟨by omega, by omega, Or.inr ⟨by omega, by omega, by rw [show (16 * y + r) / 16 = y by omega]; omega⟩⟩
            · refine B.iload (pc := 129) dX7_cuttingOf_129 rfl ?_
              refine B.if_lt (pc := 131) (tgt := 155) dX7_cuttingOf_131 (by decide) (fun c131 => ?_) (fun c131 => ?_)
              · refine B.iload (pc := 155) dX7_cuttingOf_155 rfl ?_
                refine B.istore (pc := 157) (i := 4) dX7_cuttingOf_157 (by decide) ?_
                simp only [List.set_cons_zero, List.set_cons_succ]
                refine B.iload (pc := 159) dX7_cuttingOf_159 rfl ?_
                refine B.istore (pc := 161) (i := 6) dX7_cuttingOf_161 (by decide) ?_
                simp only [List.set_cons_zero, List.set_cons_succ]
                refine B.iinc (pc := 163) dX7_cuttingOf_163 (by decide) rfl ⟨by omega, by omega⟩ ?_
                simp only [List.set_cons_zero, List.set_cons_succ]
                refine B.goto (pc := 166) (tgt := 46) dX7_cuttingOf_166 (by decide) ?_
                refine (ih _ ?_).2.2 _ _ ⟨_, _, _, _, _, _, _, _, _, _, rfl, rfl, rfl, ?_⟩
                · omega
                · first | exact ⟨by omega, by omega, c3⟩ | exact ⟨by omega, by omega, Or.inr ⟨by omega, by omega, by rw [show (16 * y + r) / 16 = y by omega]; omega⟩⟩
              · refine B.iload (pc := 134) dX7_cuttingOf_134 rfl ?_
                refine B.iload (pc := 136) dX7_cuttingOf_136 rfl ?_
                refine B.icmp_lt (pc := 138) (tgt := 155) dX7_cuttingOf_138 (by decide) (fun c138 => ?_) (fun c138 => ?_)
                · refine B.iload (pc := 155) dX7_cuttingOf_155 rfl ?_
                  refine B.istore (pc := 157) (i := 4) dX7_cuttingOf_157 (by decide) ?_
                  simp only [List.set_cons_zero, List.set_cons_succ]
                  refine B.iload (pc := 159) dX7_cuttingOf_159 rfl ?_
                  refine B.istore (pc := 161) (i := 6) dX7_cuttingOf_161 (by decide) ?_
                  simp only [List.set_cons_zero, List.set_cons_succ]
                  refine B.iinc (pc := 163) dX7_cuttingOf_163 (by decide) rfl ⟨by omega, by omega⟩ ?_
                  simp only [List.set_cons_zero, List.set_cons_succ]
                  refine B.goto (pc := 166) (tgt := 46) dX7_cuttingOf_166 (by decide) ?_
                  refine (ih _ ?_).2.2 _ _ ⟨_, _, _, _, _, _, _, _, _, _, rfl, rfl, rfl, ?_⟩
                  · omega
                  · first | exact ⟨by omega, by omega, c3⟩ | exact ⟨by omega, by omega, Or.inr ⟨by omega, by omega, by rw [show (16 * y + r) / 16 = y by omega]; omega⟩⟩
                · refine B.iload (pc := 141) dX7_cuttingOf_141 rfl ?_
                  refine B.iload (pc := 143) dX7_cuttingOf_143 rfl ?_
                  refine B.icmp_ne (pc := 145) (tgt := 163) dX7_cuttingOf_145 (by decide) (fun c145 => ?_) (fun c145 => ?_)
                  · refine B.iinc (pc := 163) dX7_cuttingOf_163 (by decide) rfl ⟨by omega, by omega⟩ ?_
                    simp only [List.set_cons_zero, List.set_cons_succ]
                    refine B.goto (pc := 166) (tgt := 46) dX7_cuttingOf_166 (by decide) ?_
                    refine (ih _ ?_).2.2 _ _ ⟨_, _, _, _, _, _, _, _, _, _, rfl, rfl, rfl, ?_⟩
                    · omega
                    · first | exact ⟨by omega, by omega, c3⟩ | exact ⟨by omega, by omega, Or.inr ⟨by omega, by omega, by rw [show (16 * y + r) / 16 = y by omega]; omega⟩⟩
                  · refine B.iload (pc := 148) dX7_cuttingOf_148 rfl ?_
                    refine B.iload (pc := 150) dX7_cuttingOf_150 rfl ?_
                    refine B.icmp_ge (pc := 152) (tgt := 163) dX7_cuttingOf_152 (by decide) (fun c152 => ?_) (fun c152 => ?_)
                    · refine B.iinc (pc := 163) dX7_cuttingOf_163 (by decide) rfl ⟨by omega, by omega⟩ ?_
                      simp only [List.set_cons_zero, List.set_cons_succ]
                      refine B.goto (pc := 166) (tgt := 46) dX7_cuttingOf_166 (by decide) ?_
                      refine (ih _ ?_).2.2 _ _ ⟨_, _, _, _, _, _, _, _, _, _, rfl, rfl, rfl, ?_⟩
                      · omega
                      · first | exact ⟨by omega, by omega, c3⟩ | exact ⟨by omega, by omega, Or.inr ⟨by omega, by omega, by rw [show (16 * y + r) / 16 = y by omega]; omega⟩⟩
                    · refine B.iload (pc := 155) dX7_cuttingOf_155 rfl ?_
                      refine B.istore (pc := 157) (i := 4) dX7_cuttingOf_157 (by decide) ?_
                      simp only [List.set_cons_zero, List.set_cons_succ]
                      refine B.iload (pc := 159) dX7_cuttingOf_159 rfl ?_
                      refine B.istore (pc := 161) (i := 6) dX7_cuttingOf_161 (by decide) ?_
                      simp only [List.set_cons_zero, List.set_cons_succ]
                      refine B.iinc (pc := 163) dX7_cuttingOf_163 (by decide) rfl ⟨by omega, by omega⟩ ?_
                      simp only [List.set_cons_zero, List.set_cons_succ]
                      refine B.goto (pc := 166) (tgt := 46) dX7_cuttingOf_166 (by decide) ?_
                      refine (ih _ ?_).2.2 _ _ ⟨_, _, _, _, _, _, _, _, _, _, rfl, rfl, rfl, ?_⟩
                      · omega
                      · first | exact ⟨by omega, by omega, c3⟩ | exact ⟨by omega, by omega, Or.inr ⟨by omega, by omega, by rw [show (16 * y + r) / 16 = y by omega]; omega⟩⟩
          · refine B.iload (pc := 105) dX7_cuttingOf_105 rfl ?_
            refine B.iload_n (pc := 107) (i := 2) dX7_cuttingOf_107 rfl rfl ?_
            refine B.icmp_ne (pc := 108) (tgt := 121) dX7_cuttingOf_108 (by decide) (fun c108 => ?_) (fun c108 => ?_)
            · refine B.iconst (pc := 121) dX7_cuttingOf_121 ⟨by decide, by decide⟩ ?_
              refine B.istore (pc := 122) (i := 11) dX7_cuttingOf_122 (by decide) ?_
              simp only [List.set_cons_zero, List.set_cons_succ]
              refine B.iload (pc := 124) dX7_cuttingOf_124 rfl ?_
              refine B.if_eq (pc := 126) (tgt := 163) dX7_cuttingOf_126 (by decide) (fun c126 => ?_) (fun c126 => ?_)
              · refine B.iinc (pc := 163) dX7_cuttingOf_163 (by decide) rfl ⟨by omega, by omega⟩ ?_
                simp only [List.set_cons_zero, List.set_cons_succ]
                refine B.goto (pc := 166) (tgt := 46) dX7_cuttingOf_166 (by decide) ?_
                refine (ih _ ?_).2.2 _ _ ⟨_, _, _, _, _, _, _, _, _, _, rfl, rfl, rfl, ?_⟩
                · omega
                · first | exact ⟨by omega, by omega, c3⟩ | exact ⟨by omega, by omega, Or.inr ⟨by omega, by omega, by rw [show (16 * y + r) / 16 = y by omega]; omega⟩⟩
              · refine B.iload (pc := 129) dX7_cuttingOf_129 rfl ?_
                refine B.if_lt (pc := 131) (tgt := 155) dX7_cuttingOf_131 (by decide) (fun c131 => ?_) (fun c131 => ?_)
                · refine B.iload (pc := 155) dX7_cuttingOf_155 rfl ?_
                  refine B.istore (pc := 157) (i := 4) dX7_cuttingOf_157 (by decide) ?_
                  simp only [List.set_cons_zero, List.set_cons_succ]
                  refine B.iload (pc := 159) dX7_cuttingOf_159 rfl ?_
                  refine B.istore (pc := 161) (i := 6) dX7_cuttingOf_161 (by decide) ?_
                  simp only [List.set_cons_zero, List.set_cons_succ]
                  refine B.iinc (pc := 163) dX7_cuttingOf_163 (by decide) rfl ⟨by omega, by omega⟩ ?_
                  simp only [List.set_cons_zero, List.set_cons_succ]
                  refine B.goto (pc := 166) (tgt := 46) dX7_cuttingOf_166 (by decide) ?_
                  refine (ih _ ?_).2.2 _ _ ⟨_, _, _, _, _, _, _, _, _, _, rfl, rfl, rfl, ?_⟩
                  · omega
                  · first | exact ⟨by omega, by omega, c3⟩ | exact ⟨by omega, by omega, Or.inr ⟨by omega, by omega, by rw [show (16 * y + r) / 16 = y by omega]; omega⟩⟩
                · refine B.iload (pc := 134) dX7_cuttingOf_134 rfl ?_
                  refine B.iload (pc := 136) dX7_cuttingOf_136 rfl ?_
                  refine B.icmp_lt (pc := 138) (tgt := 155) dX7_cuttingOf_138 (by decide) (fun c138 => ?_) (fun c138 => ?_)
                  · refine B.iload (pc := 155) dX7_cuttingOf_155 rfl ?_
                    refine B.istore (pc := 157) (i := 4) dX7_cuttingOf_157 (by decide) ?_
                    simp only [List.set_cons_zero, List.set_cons_succ]
                    refine B.iload (pc := 159) dX7_cuttingOf_159 rfl ?_
                    refine B.istore (pc := 161) (i := 6) dX7_cuttingOf_161 (by decide) ?_
                    simp only [List.set_cons_zero, List.set_cons_succ]
                    refine B.iinc (pc := 163) dX7_cuttingOf_163 (by decide) rfl ⟨by omega, by omega⟩ ?_
                    simp only [List.set_cons_zero, List.set_cons_succ]
                    refine B.goto (pc := 166) (tgt := 46) dX7_cuttingOf_166 (by decide) ?_
                    refine (ih _ ?_).2.2 _ _ ⟨_, _, _, _, _, _, _, _, _, _, rfl, rfl, rfl, ?_⟩
                    · omega
                    · first | exact ⟨by omega, by omega, c3⟩ | exact ⟨by omega, by omega, Or.inr ⟨by omega, by omega, by rw [show (16 * y + r) / 16 = y by omega]; omega⟩⟩
                  · refine B.iload (pc := 141) dX7_cuttingOf_141 rfl ?_
                    refine B.iload (pc := 143) dX7_cuttingOf_143 rfl ?_
                    refine B.icmp_ne (pc := 145) (tgt := 163) dX7_cuttingOf_145 (by decide) (fun c145 => ?_) (fun c145 => ?_)
                    · refine B.iinc (pc := 163) dX7_cuttingOf_163 (by decide) rfl ⟨by omega, by omega⟩ ?_
                      simp only [List.set_cons_zero, List.set_cons_succ]
                      refine B.goto (pc := 166) (tgt := 46) dX7_cuttingOf_166 (by decide) ?_
                      refine (ih _ ?_).2.2 _ _ ⟨_, _, _, _, _, _, _, _, _, _, rfl, rfl, rfl, ?_⟩
                      · omega
                      · first | exact ⟨by omega, by omega, c3⟩ | exact ⟨by omega, by omega, Or.inr ⟨by omega, by omega, by rw [show (16 * y + r) / 16 = y by omega]; omega⟩⟩
                    · refine B.iload (pc := 148) dX7_cuttingOf_148 rfl ?_
                      refine B.iload (pc := 150) dX7_cuttingOf_150 rfl ?_
                      refine B.icmp_ge (pc := 152) (tgt := 163) dX7_cuttingOf_152 (by decide) (fun c152 => ?_) (fun c152 => ?_)
                      · refine B.iinc (pc := 163) dX7_cuttingOf_163 (by decide) rfl ⟨by omega, by omega⟩ ?_
                        simp only [List.set_cons_zero, List.set_cons_succ]
                        refine B.goto (pc := 166) (tgt := 46) dX7_cuttingOf_166 (by decide) ?_
                        refine (ih _ ?_).2.2 _ _ ⟨_, _, _, _, _, _, _, _, _, _, rfl, rfl, rfl, ?_⟩
                        · omega
                        · first | exact ⟨by omega, by omega, c3⟩ | exact ⟨by omega, by omega, Or.inr ⟨by omega, by omega, by rw [show (16 * y + r) / 16 = y by omega]; omega⟩⟩
                      · refine B.iload (pc := 155) dX7_cuttingOf_155 rfl ?_
                        refine B.istore (pc := 157) (i := 4) dX7_cuttingOf_157 (by decide) ?_
                        simp only [List.set_cons_zero, List.set_cons_succ]
                        refine B.iload (pc := 159) dX7_cuttingOf_159 rfl ?_
                        refine B.istore (pc := 161) (i := 6) dX7_cuttingOf_161 (by decide) ?_
                        simp only [List.set_cons_zero, List.set_cons_succ]
                        refine B.iinc (pc := 163) dX7_cuttingOf_163 (by decide) rfl ⟨by omega, by omega⟩ ?_
                        simp only [List.set_cons_zero, List.set_cons_succ]
                        refine B.goto (pc := 166) (tgt := 46) dX7_cuttingOf_166 (by decide) ?_
                        refine (ih _ ?_).2.2 _ _ ⟨_, _, _, _, _, _, _, _, _, _, rfl, rfl, rfl, ?_⟩
                        · omega
                        · first | exact ⟨by omega, by omega, c3⟩ | exact ⟨by omega, by omega, Or.inr ⟨by omega, by omega, by rw [show (16 * y + r) / 16 = y by omega]; omega⟩⟩
            · refine B.iload (pc := 111) dX7_cuttingOf_111 rfl ?_
              refine B.iload_n (pc := 113) (i := 3) dX7_cuttingOf_113 rfl rfl ?_
              refine B.icmp_le (pc := 114) (tgt := 121) dX7_cuttingOf_114 (by decide) (fun c114 => ?_) (fun c114 => ?_)
              · refine B.iconst (pc := 121) dX7_cuttingOf_121 ⟨by decide, by decide⟩ ?_
                refine B.istore (pc := 122) (i := 11) dX7_cuttingOf_122 (by decide) ?_
                simp only [List.set_cons_zero, List.set_cons_succ]
                refine B.iload (pc := 124) dX7_cuttingOf_124 rfl ?_
                refine B.if_eq (pc := 126) (tgt := 163) dX7_cuttingOf_126 (by decide) (fun c126 => ?_) (fun c126 => ?_)
                · refine B.iinc (pc := 163) dX7_cuttingOf_163 (by decide) rfl ⟨by omega, by omega⟩ ?_
                  simp only [List.set_cons_zero, List.set_cons_succ]
                  refine B.goto (pc := 166) (tgt := 46) dX7_cuttingOf_166 (by decide) ?_
                  refine (ih _ ?_).2.2 _ _ ⟨_, _, _, _, _, _, _, _, _, _, rfl, rfl, rfl, ?_⟩
                  · omega
                  · first | exact ⟨by omega, by omega, c3⟩ | exact ⟨by omega, by omega, Or.inr ⟨by omega, by omega, by rw [show (16 * y + r) / 16 = y by omega]; omega⟩⟩
                · refine B.iload (pc := 129) dX7_cuttingOf_129 rfl ?_
                  refine B.if_lt (pc := 131) (tgt := 155) dX7_cuttingOf_131 (by decide) (fun c131 => ?_) (fun c131 => ?_)
                  · refine B.iload (pc := 155) dX7_cuttingOf_155 rfl ?_
                    refine B.istore (pc := 157) (i := 4) dX7_cuttingOf_157 (by decide) ?_
                    simp only [List.set_cons_zero, List.set_cons_succ]
                    refine B.iload (pc := 159) dX7_cuttingOf_159 rfl ?_
                    refine B.istore (pc := 161) (i := 6) dX7_cuttingOf_161 (by decide) ?_
                    simp only [List.set_cons_zero, List.set_cons_succ]
                    refine B.iinc (pc := 163) dX7_cuttingOf_163 (by decide) rfl ⟨by omega, by omega⟩ ?_
                    simp only [List.set_cons_zero, List.set_cons_succ]
                    refine B.goto (pc := 166) (tgt := 46) dX7_cuttingOf_166 (by decide) ?_
                    refine (ih _ ?_).2.2 _ _ ⟨_, _, _, _, _, _, _, _, _, _, rfl, rfl, rfl, ?_⟩
                    · omega
                    · first | exact ⟨by omega, by omega, c3⟩ | exact ⟨by omega, by omega, Or.inr ⟨by omega, by omega, by rw [show (16 * y + r) / 16 = y by omega]; omega⟩⟩
                  · refine B.iload (pc := 134) dX7_cuttingOf_134 rfl ?_
                    refine B.iload (pc := 136) dX7_cuttingOf_136 rfl ?_
                    refine B.icmp_lt (pc := 138) (tgt := 155) dX7_cuttingOf_138 (by decide) (fun c138 => ?_) (fun c138 => ?_)
                    · refine B.iload (pc := 155) dX7_cuttingOf_155 rfl ?_
                      refine B.istore (pc := 157) (i := 4) dX7_cuttingOf_157 (by decide) ?_
                      simp only [List.set_cons_zero, List.set_cons_succ]
                      refine B.iload (pc := 159) dX7_cuttingOf_159 rfl ?_
                      refine B.istore (pc := 161) (i := 6) dX7_cuttingOf_161 (by decide) ?_
                      simp only [List.set_cons_zero, List.set_cons_succ]
                      refine B.iinc (pc := 163) dX7_cuttingOf_163 (by decide) rfl ⟨by omega, by omega⟩ ?_
                      simp only [List.set_cons_zero, List.set_cons_succ]
                      refine B.goto (pc := 166) (tgt := 46) dX7_cuttingOf_166 (by decide) ?_
                      refine (ih _ ?_).2.2 _ _ ⟨_, _, _, _, _, _, _, _, _, _, rfl, rfl, rfl, ?_⟩
                      · omega
                      · first | exact ⟨by omega, by omega, c3⟩ | exact ⟨by omega, by omega, Or.inr ⟨by omega, by omega, by rw [show (16 * y + r) / 16 = y by omega]; omega⟩⟩
                    · refine B.iload (pc := 141) dX7_cuttingOf_141 rfl ?_
                      refine B.iload (pc := 143) dX7_cuttingOf_143 rfl ?_
                      refine B.icmp_ne (pc := 145) (tgt := 163) dX7_cuttingOf_145 (by decide) (fun c145 => ?_) (fun c145 => ?_)
                      · refine B.iinc (pc := 163) dX7_cuttingOf_163 (by decide) rfl ⟨by omega, by omega⟩ ?_
                        simp only [List.set_cons_zero, List.set_cons_succ]
                        refine B.goto (pc := 166) (tgt := 46) dX7_cuttingOf_166 (by decide) ?_
                        refine (ih _ ?_).2.2 _ _ ⟨_, _, _, _, _, _, _, _, _, _, rfl, rfl, rfl, ?_⟩
                        · omega
                        · first | exact ⟨by omega, by omega, c3⟩ | exact ⟨by omega, by omega, Or.inr ⟨by omega, by omega, by rw [show (16 * y + r) / 16 = y by omega]; omega⟩⟩
                      · refine B.iload (pc := 148) dX7_cuttingOf_148 rfl ?_
                        refine B.iload (pc := 150) dX7_cuttingOf_150 rfl ?_
                        refine B.icmp_ge (pc := 152) (tgt := 163) dX7_cuttingOf_152 (by decide) (fun c152 => ?_) (fun c152 => ?_)
                        · refine B.iinc (pc := 163) dX7_cuttingOf_163 (by decide) rfl ⟨by omega, by omega⟩ ?_
                          simp only [List.set_cons_zero, List.set_cons_succ]
                          refine B.goto (pc := 166) (tgt := 46) dX7_cuttingOf_166 (by decide) ?_
                          refine (ih _ ?_).2.2 _ _ ⟨_, _, _, _, _, _, _, _, _, _, rfl, rfl, rfl, ?_⟩
                          · omega
                          · first | exact ⟨by omega, by omega, c3⟩ | exact ⟨by omega, by omega, Or.inr ⟨by omega, by omega, by rw [show (16 * y + r) / 16 = y by omega]; omega⟩⟩
                        · refine B.iload (pc := 155) dX7_cuttingOf_155 rfl ?_
                          refine B.istore (pc := 157) (i := 4) dX7_cuttingOf_157 (by decide) ?_
                          simp only [List.set_cons_zero, List.set_cons_succ]
                          refine B.iload (pc := 159) dX7_cuttingOf_159 rfl ?_
                          refine B.istore (pc := 161) (i := 6) dX7_cuttingOf_161 (by decide) ?_
                          simp only [List.set_cons_zero, List.set_cons_succ]
                          refine B.iinc (pc := 163) dX7_cuttingOf_163 (by decide) rfl ⟨by omega, by omega⟩ ?_
                          simp only [List.set_cons_zero, List.set_cons_succ]
                          refine B.goto (pc := 166) (tgt := 46) dX7_cuttingOf_166 (by decide) ?_
                          refine (ih _ ?_).2.2 _ _ ⟨_, _, _, _, _, _, _, _, _, _, rfl, rfl, rfl, ?_⟩
                          · omega
                          · first | exact ⟨by omega, by omega, c3⟩ | exact ⟨by omega, by omega, Or.inr ⟨by omega, by omega, by rw [show (16 * y + r) / 16 = y by omega]; omega⟩⟩
              · refine B.iconst (pc := 117) dX7_cuttingOf_117 ⟨by decide, by decide⟩ ?_
                refine B.goto (pc := 118) (tgt := 122) dX7_cuttingOf_118 (by decide) ?_
                refine B.istore (pc := 122) (i := 11) dX7_cuttingOf_122 (by decide) ?_
                simp only [List.set_cons_zero, List.set_cons_succ]
                refine B.iload (pc := 124) dX7_cuttingOf_124 rfl ?_
                refine B.if_eq (pc := 126) (tgt := 163) dX7_cuttingOf_126 (by decide) (fun c126 => ?_) (fun c126 => ?_)
                · refine B.iinc (pc := 163) dX7_cuttingOf_163 (by decide) rfl ⟨by omega, by omega⟩ ?_
                  simp only [List.set_cons_zero, List.set_cons_succ]
                  refine B.goto (pc := 166) (tgt := 46) dX7_cuttingOf_166 (by decide) ?_
                  refine (ih _ ?_).2.2 _ _ ⟨_, _, _, _, _, _, _, _, _, _, rfl, rfl, rfl, ?_⟩
                  · omega
                  · first | exact ⟨by omega, by omega, c3⟩ | exact ⟨by omega, by omega, Or.inr ⟨by omega, by omega, by rw [show (16 * y + r) / 16 = y by omega]; omega⟩⟩
                · refine B.iload (pc := 129) dX7_cuttingOf_129 rfl ?_
                  refine B.if_lt (pc := 131) (tgt := 155) dX7_cuttingOf_131 (by decide) (fun c131 => ?_) (fun c131 => ?_)
                  · refine B.iload (pc := 155) dX7_cuttingOf_155 rfl ?_
                    refine B.istore (pc := 157) (i := 4) dX7_cuttingOf_157 (by decide) ?_
                    simp only [List.set_cons_zero, List.set_cons_succ]
                    refine B.iload (pc := 159) dX7_cuttingOf_159 rfl ?_
                    refine B.istore (pc := 161) (i := 6) dX7_cuttingOf_161 (by decide) ?_
                    simp only [List.set_cons_zero, List.set_cons_succ]
                    refine B.iinc (pc := 163) dX7_cuttingOf_163 (by decide) rfl ⟨by omega, by omega⟩ ?_
                    simp only [List.set_cons_zero, List.set_cons_succ]
                    refine B.goto (pc := 166) (tgt := 46) dX7_cuttingOf_166 (by decide) ?_
                    refine (ih _ ?_).2.2 _ _ ⟨_, _, _, _, _, _, _, _, _, _, rfl, rfl, rfl, ?_⟩
                    · omega
                    · first | exact ⟨by omega, by omega, c3⟩ | exact ⟨by omega, by omega, Or.inr ⟨by omega, by omega, by rw [show (16 * y + r) / 16 = y by omega]; omega⟩⟩
                  · refine B.iload (pc := 134) dX7_cuttingOf_134 rfl ?_
                    refine B.iload (pc := 136) dX7_cuttingOf_136 rfl ?_
                    refine B.icmp_lt (pc := 138) (tgt := 155) dX7_cuttingOf_138 (by decide) (fun c138 => ?_) (fun c138 => ?_)
                    · refine B.iload (pc := 155) dX7_cuttingOf_155 rfl ?_
                      refine B.istore (pc := 157) (i := 4) dX7_cuttingOf_157 (by decide) ?_
                      simp only [List.set_cons_zero, List.set_cons_succ]
                      refine B.iload (pc := 159) dX7_cuttingOf_159 rfl ?_
                      refine B.istore (pc := 161) (i := 6) dX7_cuttingOf_161 (by decide) ?_
                      simp only [List.set_cons_zero, List.set_cons_succ]
                      refine B.iinc (pc := 163) dX7_cuttingOf_163 (by decide) rfl ⟨by omega, by omega⟩ ?_
                      simp only [List.set_cons_zero, List.set_cons_succ]
                      refine B.goto (pc := 166) (tgt := 46) dX7_cuttingOf_166 (by decide) ?_
                      refine (ih _ ?_).2.2 _ _ ⟨_, _, _, _, _, _, _, _, _, _, rfl, rfl, rfl, ?_⟩
                      · omega
                      · first | exact ⟨by omega, by omega, c3⟩ | exact ⟨by omega, by omega, Or.inr ⟨by omega, by omega, by rw [show (16 * y + r) / 16 = y by omega]; omega⟩⟩
                    · refine B.iload (pc := 141) dX7_cuttingOf_141 rfl ?_
                      refine B.iload (pc := 143) dX7_cuttingOf_143 rfl ?_
                      refine B.icmp_ne (pc := 145) (tgt := 163) dX7_cuttingOf_145 (by decide) (fun c145 => ?_) (fun c145 => ?_)
                      · refine B.iinc (pc := 163) dX7_cuttingOf_163 (by decide) rfl ⟨by omega, by omega⟩ ?_
                        simp only [List.set_cons_zero, List.set_cons_succ]
                        refine B.goto (pc := 166) (tgt := 46) dX7_cuttingOf_166 (by decide) ?_
                        refine (ih _ ?_).2.2 _ _ ⟨_, _, _, _, _, _, _, _, _, _, rfl, rfl, rfl, ?_⟩
                        · omega
                        · first | exact ⟨by omega, by omega, c3⟩ | exact ⟨by omega, by omega, Or.inr ⟨by omega, by omega, by rw [show (16 * y + r) / 16 = y by omega]; omega⟩⟩
                      · refine B.iload (pc := 148) dX7_cuttingOf_148 rfl ?_
                        refine B.iload (pc := 150) dX7_cuttingOf_150 rfl ?_
                        refine B.icmp_ge (pc := 152) (tgt := 163) dX7_cuttingOf_152 (by decide) (fun c152 => ?_) (fun c152 => ?_)
                        · refine B.iinc (pc := 163) dX7_cuttingOf_163 (by decide) rfl ⟨by omega, by omega⟩ ?_
                          simp only [List.set_cons_zero, List.set_cons_succ]
                          refine B.goto (pc := 166) (tgt := 46) dX7_cuttingOf_166 (by decide) ?_
                          refine (ih _ ?_).2.2 _ _ ⟨_, _, _, _, _, _, _, _, _, _, rfl, rfl, rfl, ?_⟩
                          · omega
                          · first | exact ⟨by omega, by omega, c3⟩ | exact ⟨by omega, by omega, Or.inr ⟨by omega, by omega, by rw [show (16 * y + r) / 16 = y by omega]; omega⟩⟩
                        · refine B.iload (pc := 155) dX7_cuttingOf_155 rfl ?_
                          refine B.istore (pc := 157) (i := 4) dX7_cuttingOf_157 (by decide) ?_
                          simp only [List.set_cons_zero, List.set_cons_succ]
                          refine B.iload (pc := 159) dX7_cuttingOf_159 rfl ?_
                          refine B.istore (pc := 161) (i := 6) dX7_cuttingOf_161 (by decide) ?_
                          simp only [List.set_cons_zero, List.set_cons_succ]
                          refine B.iinc (pc := 163) dX7_cuttingOf_163 (by decide) rfl ⟨by omega, by omega⟩ ?_
                          simp only [List.set_cons_zero, List.set_cons_succ]
                          refine B.goto (pc := 166) (tgt := 46) dX7_cuttingOf_166 (by decide) ?_
                          refine (ih _ ?_).2.2 _ _ ⟨_, _, _, _, _, _, _, _, _, _, rfl, rfl, rfl, ?_⟩
                          · omega
                          · first | exact ⟨by omega, by omega, c3⟩ | exact ⟨by omega, by omega, Or.inr ⟨by omega, by omega, by rw [show (16 * y + r) / 16 = y by omega]; omega⟩⟩
  show Z 0 0 0 [some (.inr (some m_a)), some (.inl i), none, none, none, none, none, none, none, none, none, none] [] _
  refine B.iconst (pc := 0) dX7_cuttingOf_0 ⟨by decide, by decide⟩ ?_
  refine B.istore_n (pc := 1) (i := 2) dX7_cuttingOf_1 rfl (by decide) ?_
  simp only [List.set_cons_zero, List.set_cons_succ]
  refine B.iconst (pc := 2) dX7_cuttingOf_2 ⟨by decide, by decide⟩ ?_
  refine B.istore_n (pc := 3) (i := 3) dX7_cuttingOf_3 rfl (by decide) ?_
  simp only [List.set_cons_zero, List.set_cons_succ]
  refine B.bipush (pc := 4) dX7_cuttingOf_4 ⟨by decide, by decide⟩ ?_
  refine B.istore (pc := 6) (i := 4) dX7_cuttingOf_6 (by decide) ?_
  simp only [List.set_cons_zero, List.set_cons_succ]
  refine B.iconst (pc := 8) dX7_cuttingOf_8 ⟨by decide, by decide⟩ ?_
  refine B.istore (pc := 9) (i := 5) dX7_cuttingOf_9 (by decide) ?_
  simp only [List.set_cons_zero, List.set_cons_succ]
  refine (key _).1 _ _ ⟨_, _, _, _, _, _, _, _, _, _, rfl, rfl, rfl, ?_⟩
  exact ⟨by omega, by omega, Or.inl (by decide)⟩
set_option maxHeartbeats 4000000 in
set_option maxRecDepth 100000 in
theorem mX7_costOf {l : Launch} {D : va_G} {k : zK} {E : zE} (hE : zEok E) (m_a m_letters_a m_size_a m_kind_a m_cost_a m_joins_a m_rules_a m_line_a m_pad_a m_place_a m_length_a m_sort_a m_price_a m_of_a m_begins_a m_rowCost_a m_rowNext_a m_rows_a m_ahead_a m_waysTo_a m_image_a m_isKept_a : Nat) (m_words m_long1 m_signs m_readSize m_readKind m_readCost m_many code : Int) (m_letters m_size m_kind m_cost m_joins m_rules m_line m_pad m_place m_length m_sort m_price m_of m_begins m_rowCost m_rowNext m_rows m_ahead m_waysTo m_image m_isKept : Nat → Int) : zMi l D k E yX7_costOf cX7_costOf 2 .int { frames := 0, cells := 0, slots := 0, locals := 0 } 0 0 [.inr (some m_a), .inl code] [(m_a, .inr (.inr (7, [.inr (some m_letters_a), .inr (some m_size_a), .inr (some m_kind_a), .inr (some m_cost_a), .inl m_words, .inr (some m_joins_a), .inr (some m_rules_a), .inr (some m_line_a), .inl m_long1, .inl m_signs, .inr (some m_pad_a), .inl m_readSize, .inl m_readKind, .inl m_readCost, .inr (some m_place_a), .inr (some m_length_a), .inr (some m_sort_a), .inr (some m_price_a), .inr (some m_of_a), .inr (some m_begins_a), .inl m_many, .inr (some m_rowCost_a), .inr (some m_rowNext_a), .inr (some m_rows_a), .inr (some m_ahead_a), .inr (some m_waysTo_a), .inr (some m_image_a), .inr (some m_isKept_a)]))), (m_letters_a, .inl (false, 96, m_letters)), (m_size_a, .inl (false, 16, m_size)), (m_kind_a, .inl (false, 16, m_kind)), (m_cost_a, .inl (false, 16, m_cost)), (m_joins_a, .inl (false, 25, m_joins)), (m_rules_a, .inl (false, 4, m_rules)), (m_line_a, .inl (false, 24, m_line)), (m_pad_a, .inl (false, 40, m_pad)), (m_place_a, .inl (false, 480, m_place)), (m_length_a, .inl (false, 480, m_length)), (m_sort_a, .inl (false, 480, m_sort)), (m_price_a, .inl (false, 480, m_price)), (m_of_a, .inl (false, 480, m_of)), (m_begins_a, .inl (false, 26, m_begins)), (m_rowCost_a, .inl (false, 5760, m_rowCost)), (m_rowNext_a, .inl (false, 5760, m_rowNext)), (m_rows_a, .inl (false, 480, m_rows)), (m_ahead_a, .inl (false, 480, m_ahead)), (m_waysTo_a, .inl (false, 26, m_waysTo)), (m_image_a, .inl (false, 460, m_image)), (m_isKept_a, .inl (true, 2, m_isKept))] (0 ≤ m_many ∧ m_many ≤ 480 ∧ LB m_place m_length m_sort m_long1 m_many ∧ NF m_place m_length m_begins m_long1 ∧ BE m_begins m_long1 m_many ∧ m_begins m_long1.toNat = m_many ∧ RR m_rows m_rowNext 0 m_many ∧ 0 ≤ code ∧ code / 16 < m_many ∧ code % 16 < m_rows (code / 16).toNat) (fun z u => u = [(m_a, .inr (.inr (7, [.inr (some m_letters_a), .inr (some m_size_a), .inr (some m_kind_a), .inr (some m_cost_a), .inl m_words, .inr (some m_joins_a), .inr (some m_rules_a), .inr (some m_line_a), .inl m_long1, .inl m_signs, .inr (some m_pad_a), .inl m_readSize, .inl m_readKind, .inl m_readCost, .inr (some m_place_a), .inr (some m_length_a), .inr (some m_sort_a), .inr (some m_price_a), .inr (some m_of_a), .inr (some m_begins_a), .inl m_many, .inr (some m_rowCost_a), .inr (some m_rowNext_a), .inr (some m_rows_a), .inr (some m_ahead_a), .inr (some m_waysTo_a), .inr (some m_image_a), .inr (some m_isKept_a)]))), (m_letters_a, .inl (false, 96, m_letters)), (m_size_a, .inl (false, 16, m_size)), (m_kind_a, .inl (false, 16, m_kind)), (m_cost_a, .inl (false, 16, m_cost)), (m_joins_a, .inl (false, 25, m_joins)), (m_rules_a, .inl (false, 4, m_rules)), (m_line_a, .inl (false, 24, m_line)), (m_pad_a, .inl (false, 40, m_pad)), (m_place_a, .inl (false, 480, m_place)), (m_length_a, .inl (false, 480, m_length)), (m_sort_a, .inl (false, 480, m_sort)), (m_price_a, .inl (false, 480, m_price)), (m_of_a, .inl (false, 480, m_of)), (m_begins_a, .inl (false, 26, m_begins)), (m_rowCost_a, .inl (false, 5760, m_rowCost)), (m_rowNext_a, .inl (false, 5760, m_rowNext)), (m_rows_a, .inl (false, 480, m_rows)), (m_ahead_a, .inl (false, 480, m_ahead)), (m_waysTo_a, .inl (false, 26, m_waysTo)), (m_image_a, .inl (false, 460, m_image)), (m_isKept_a, .inl (true, 2, m_isKept))] ∧ (True)) := by
  refine zMi.of RX7 hE (by decide) rfl (by simp) (fun _ _ _ _ => rfl) ?_
  intro Z hP hav hwr B
  obtain ⟨l_code, u_code⟩ : zR code := hav (.inl code) (by simp)
  obtain ⟨l_m_words, u_m_words⟩ : zR m_words := zWr_at hwr (i := 0) rfl (.inl m_words) (by simp)
  obtain ⟨l_m_long1, u_m_long1⟩ : zR m_long1 := zWr_at hwr (i := 0) rfl (.inl m_long1) (by simp)
  obtain ⟨l_m_signs, u_m_signs⟩ : zR m_signs := zWr_at hwr (i := 0) rfl (.inl m_signs) (by simp)
  obtain ⟨l_m_readSize, u_m_readSize⟩ : zR m_readSize := zWr_at hwr (i := 0) rfl (.inl m_readSize) (by simp)
  obtain ⟨l_m_readKind, u_m_readKind⟩ : zR m_readKind := zWr_at hwr (i := 0) rfl (.inl m_readKind) (by simp)
  obtain ⟨l_m_readCost, u_m_readCost⟩ : zR m_readCost := zWr_at hwr (i := 0) rfl (.inl m_readCost) (by simp)
  obtain ⟨l_m_many, u_m_many⟩ : zR m_many := zWr_at hwr (i := 0) rfl (.inl m_many) (by simp)
  obtain ⟨a1, a2, a3, a4, a5, a6, a7, hc⟩ := hP
  have hl := a3.at (x := code / 16) (by omega) (by omega)
  have hr := a7.at (x := code / 16) (by omega) (by omega) (by omega)
  show Z 0 0 0 [some (.inr (some m_a)), some (.inl code)] [] _
  refine B.aload_n (pc := 0) (i := 0) dX7_costOf_0 rfl rfl ?_
  refine B.getfield (pc := 1) 0 rfl rfl inX7z 5 (by decide) fl_X7_22 rfl dX7_costOf_1 ?_
  refine B.bipush (pc := 4) dX7_costOf_4 ⟨by decide, by decide⟩ ?_
  refine B.aload_n (pc := 6) (i := 0) dX7_costOf_6 rfl rfl ?_
  refine B.getfield (pc := 7) 0 rfl rfl inX7z 16 (by decide) fl_X7_40 rfl dX7_costOf_7 ?_
  refine B.iload_n (pc := 10) (i := 1) dX7_costOf_10 rfl rfl ?_
  refine B.bipush (pc := 11) dX7_costOf_11 ⟨by decide, by decide⟩ ?_
  refine B.idiv (pc := 13) dX7_costOf_13 (by omega) (by decide) ?_
  refine B.iaload (pc := 14) 11 rfl (by omega) (by omega) dX7_costOf_14 (fun r14 => ?_)
  obtain ⟨lr14, ur14⟩ := r14
  refine B.iadd (pc := 15) dX7_costOf_15 ⟨by omega, by omega⟩ ?_
  refine B.iaload (pc := 16) 5 rfl (by omega) (by omega) dX7_costOf_16 (fun r16 => ?_)
  obtain ⟨lr16, ur16⟩ := r16
  refine B.aload_n (pc := 17) (i := 0) dX7_costOf_17 rfl rfl ?_
  refine B.getfield (pc := 18) 0 rfl rfl inX7z 21 (by decide) fl_X7_52 rfl dX7_costOf_18 ?_
  refine B.bipush (pc := 21) dX7_costOf_21 ⟨by decide, by decide⟩ ?_
  refine B.iload_n (pc := 23) (i := 1) dX7_costOf_23 rfl rfl ?_
  refine B.bipush (pc := 24) dX7_costOf_24 ⟨by decide, by decide⟩ ?_
  refine B.idiv (pc := 26) dX7_costOf_26 (by omega) (by decide) ?_
  refine B.imul (pc := 27) dX7_costOf_27 ⟨by omega, by omega⟩ ?_
  refine B.iload_n (pc := 28) (i := 1) dX7_costOf_28 rfl rfl ?_
  refine B.bipush (pc := 29) dX7_costOf_29 ⟨by decide, by decide⟩ ?_
  refine B.irem (pc := 31) dX7_costOf_31 (by omega) (by decide) ?_
  refine B.iadd (pc := 32) dX7_costOf_32 ⟨by omega, by omega⟩ ?_
  refine B.iaload (pc := 33) 15 rfl (by omega) (by omega) dX7_costOf_33 (fun r33 => ?_)
  obtain ⟨lr33, ur33⟩ := r33
  refine B.iaddw (pc := 34) dX7_costOf_34 (fun w34 rw34 ew34 => ?_)
  obtain ⟨lw34, uw34⟩ := rw34
  refine B.ireturn (pc := 35) (by simp) dX7_costOf_35 (Nat.le_refl _) (Nat.le_refl _) (fun rz rw => ⟨rfl, ?_⟩)
  first | trivial | omega
set_option maxHeartbeats 4000000 in
set_option maxRecDepth 100000 in
theorem mX7_next {l : Launch} {D : va_G} {k : zK} {E : zE} (hE : zEok E) (m_a m_letters_a m_size_a m_kind_a m_cost_a m_joins_a m_rules_a m_line_a m_pad_a m_place_a m_length_a m_sort_a m_price_a m_of_a m_begins_a m_rowCost_a m_rowNext_a m_rows_a m_ahead_a m_waysTo_a m_image_a m_isKept_a : Nat) (m_words m_long1 m_signs m_readSize m_readKind m_readCost m_many code : Int) (m_letters m_size m_kind m_cost m_joins m_rules m_line m_pad m_place m_length m_sort m_price m_of m_begins m_rowCost m_rowNext m_rows m_ahead m_waysTo m_image m_isKept : Nat → Int) : zMi l D k E yX7_next cX7_next 2 .int { frames := 0, cells := 0, slots := 0, locals := 0 } 0 0 [.inr (some m_a), .inl code] [(m_a, .inr (.inr (7, [.inr (some m_letters_a), .inr (some m_size_a), .inr (some m_kind_a), .inr (some m_cost_a), .inl m_words, .inr (some m_joins_a), .inr (some m_rules_a), .inr (some m_line_a), .inl m_long1, .inl m_signs, .inr (some m_pad_a), .inl m_readSize, .inl m_readKind, .inl m_readCost, .inr (some m_place_a), .inr (some m_length_a), .inr (some m_sort_a), .inr (some m_price_a), .inr (some m_of_a), .inr (some m_begins_a), .inl m_many, .inr (some m_rowCost_a), .inr (some m_rowNext_a), .inr (some m_rows_a), .inr (some m_ahead_a), .inr (some m_waysTo_a), .inr (some m_image_a), .inr (some m_isKept_a)]))), (m_letters_a, .inl (false, 96, m_letters)), (m_size_a, .inl (false, 16, m_size)), (m_kind_a, .inl (false, 16, m_kind)), (m_cost_a, .inl (false, 16, m_cost)), (m_joins_a, .inl (false, 25, m_joins)), (m_rules_a, .inl (false, 4, m_rules)), (m_line_a, .inl (false, 24, m_line)), (m_pad_a, .inl (false, 40, m_pad)), (m_place_a, .inl (false, 480, m_place)), (m_length_a, .inl (false, 480, m_length)), (m_sort_a, .inl (false, 480, m_sort)), (m_price_a, .inl (false, 480, m_price)), (m_of_a, .inl (false, 480, m_of)), (m_begins_a, .inl (false, 26, m_begins)), (m_rowCost_a, .inl (false, 5760, m_rowCost)), (m_rowNext_a, .inl (false, 5760, m_rowNext)), (m_rows_a, .inl (false, 480, m_rows)), (m_ahead_a, .inl (false, 480, m_ahead)), (m_waysTo_a, .inl (false, 26, m_waysTo)), (m_image_a, .inl (false, 460, m_image)), (m_isKept_a, .inl (true, 2, m_isKept))] (0 ≤ m_many ∧ m_many ≤ 480 ∧ LB m_place m_length m_sort m_long1 m_many ∧ NF m_place m_length m_begins m_long1 ∧ BE m_begins m_long1 m_many ∧ m_begins m_long1.toNat = m_many ∧ RR m_rows m_rowNext 0 m_many ∧ 0 ≤ code ∧ code / 16 < m_many ∧ code % 16 < m_rows (code / 16).toNat) (fun z u => u = [(m_a, .inr (.inr (7, [.inr (some m_letters_a), .inr (some m_size_a), .inr (some m_kind_a), .inr (some m_cost_a), .inl m_words, .inr (some m_joins_a), .inr (some m_rules_a), .inr (some m_line_a), .inl m_long1, .inl m_signs, .inr (some m_pad_a), .inl m_readSize, .inl m_readKind, .inl m_readCost, .inr (some m_place_a), .inr (some m_length_a), .inr (some m_sort_a), .inr (some m_price_a), .inr (some m_of_a), .inr (some m_begins_a), .inl m_many, .inr (some m_rowCost_a), .inr (some m_rowNext_a), .inr (some m_rows_a), .inr (some m_ahead_a), .inr (some m_waysTo_a), .inr (some m_image_a), .inr (some m_isKept_a)]))), (m_letters_a, .inl (false, 96, m_letters)), (m_size_a, .inl (false, 16, m_size)), (m_kind_a, .inl (false, 16, m_kind)), (m_cost_a, .inl (false, 16, m_cost)), (m_joins_a, .inl (false, 25, m_joins)), (m_rules_a, .inl (false, 4, m_rules)), (m_line_a, .inl (false, 24, m_line)), (m_pad_a, .inl (false, 40, m_pad)), (m_place_a, .inl (false, 480, m_place)), (m_length_a, .inl (false, 480, m_length)), (m_sort_a, .inl (false, 480, m_sort)), (m_price_a, .inl (false, 480, m_price)), (m_of_a, .inl (false, 480, m_of)), (m_begins_a, .inl (false, 26, m_begins)), (m_rowCost_a, .inl (false, 5760, m_rowCost)), (m_rowNext_a, .inl (false, 5760, m_rowNext)), (m_rows_a, .inl (false, 480, m_rows)), (m_ahead_a, .inl (false, 480, m_ahead)), (m_waysTo_a, .inl (false, 26, m_waysTo)), (m_image_a, .inl (false, 460, m_image)), (m_isKept_a, .inl (true, 2, m_isKept))] ∧ (z < 0 ∨ (code / 16 < z / 16 ∧ z / 16 < m_many ∧ z % 16 < m_rows (z / 16).toNat))) := by
  refine zMi.of RX7 hE (by decide) rfl (by simp) (fun _ _ _ _ => rfl) ?_
  intro Z hP hav hwr B
  obtain ⟨l_code, u_code⟩ : zR code := hav (.inl code) (by simp)
  obtain ⟨l_m_words, u_m_words⟩ : zR m_words := zWr_at hwr (i := 0) rfl (.inl m_words) (by simp)
  obtain ⟨l_m_long1, u_m_long1⟩ : zR m_long1 := zWr_at hwr (i := 0) rfl (.inl m_long1) (by simp)
  obtain ⟨l_m_signs, u_m_signs⟩ : zR m_signs := zWr_at hwr (i := 0) rfl (.inl m_signs) (by simp)
  obtain ⟨l_m_readSize, u_m_readSize⟩ : zR m_readSize := zWr_at hwr (i := 0) rfl (.inl m_readSize) (by simp)
  obtain ⟨l_m_readKind, u_m_readKind⟩ : zR m_readKind := zWr_at hwr (i := 0) rfl (.inl m_readKind) (by simp)
  obtain ⟨l_m_readCost, u_m_readCost⟩ : zR m_readCost := zWr_at hwr (i := 0) rfl (.inl m_readCost) (by simp)
  obtain ⟨l_m_many, u_m_many⟩ : zR m_many := zWr_at hwr (i := 0) rfl (.inl m_many) (by simp)
  obtain ⟨a1, a2, a3, a4, a5, a6, a7, hc⟩ := hP
  have hr := a7.at (x := code / 16) (by omega) (by omega) (by omega)
  show Z 0 0 0 [some (.inr (some m_a)), some (.inl code)] [] _
  refine B.aload_n (pc := 0) (i := 0) dX7_next_0 rfl rfl ?_
  refine B.getfield (pc := 1) 0 rfl rfl inX7z 22 (by decide) fl_X7_55 rfl dX7_next_1 ?_
  refine B.bipush (pc := 4) dX7_next_4 ⟨by decide, by decide⟩ ?_
  refine B.iload_n (pc := 6) (i := 1) dX7_next_6 rfl rfl ?_
  refine B.bipush (pc := 7) dX7_next_7 ⟨by decide, by decide⟩ ?_
  refine B.idiv (pc := 9) dX7_next_9 (by omega) (by decide) ?_
  refine B.imul (pc := 10) dX7_next_10 ⟨by omega, by omega⟩ ?_
  refine B.iload_n (pc := 11) (i := 1) dX7_next_11 rfl rfl ?_
  refine B.bipush (pc := 12) dX7_next_12 ⟨by decide, by decide⟩ ?_
  refine B.irem (pc := 14) dX7_next_14 (by omega) (by decide) ?_
  refine B.iadd (pc := 15) dX7_next_15 ⟨by omega, by omega⟩ ?_
  refine B.iaload (pc := 16) 16 rfl (by omega) (by omega) dX7_next_16 (fun r16 => ?_)
  obtain ⟨lr16, ur16⟩ := r16
  refine B.ireturn (pc := 17) (by simp) dX7_next_17 (Nat.le_refl _) (Nat.le_refl _) (fun rz rw => ⟨rfl, ?_⟩)
  exact a7.next hc.1 hc.2.1 hc.2.2 rfl
set_option maxHeartbeats 4000000 in
set_option maxRecDepth 100000 in
theorem mX7_leastOf {l : Launch} {D : va_G} {k : zK} {E : zE} (hE : zEok E) (m_a m_letters_a m_size_a m_kind_a m_cost_a m_joins_a m_rules_a m_line_a m_pad_a m_place_a m_length_a m_sort_a m_price_a m_of_a m_begins_a m_rowCost_a m_rowNext_a m_rows_a m_ahead_a m_waysTo_a m_image_a m_isKept_a : Nat) (m_words m_long1 m_signs m_readSize m_readKind m_readCost m_many x : Int) (m_letters m_size m_kind m_cost m_joins m_rules m_line m_pad m_place m_length m_sort m_price m_of m_begins m_rowCost m_rowNext m_rows m_ahead m_waysTo m_image m_isKept : Nat → Int) : zMi l D k E yX7_leastOf cX7_leastOf 5 .int { frames := 1, cells := 0, slots := 0, locals := 22 } 0 0 [.inr (some m_a), .inl x] [(m_a, .inr (.inr (7, [.inr (some m_letters_a), .inr (some m_size_a), .inr (some m_kind_a), .inr (some m_cost_a), .inl m_words, .inr (some m_joins_a), .inr (some m_rules_a), .inr (some m_line_a), .inl m_long1, .inl m_signs, .inr (some m_pad_a), .inl m_readSize, .inl m_readKind, .inl m_readCost, .inr (some m_place_a), .inr (some m_length_a), .inr (some m_sort_a), .inr (some m_price_a), .inr (some m_of_a), .inr (some m_begins_a), .inl m_many, .inr (some m_rowCost_a), .inr (some m_rowNext_a), .inr (some m_rows_a), .inr (some m_ahead_a), .inr (some m_waysTo_a), .inr (some m_image_a), .inr (some m_isKept_a)]))), (m_letters_a, .inl (false, 96, m_letters)), (m_size_a, .inl (false, 16, m_size)), (m_kind_a, .inl (false, 16, m_kind)), (m_cost_a, .inl (false, 16, m_cost)), (m_joins_a, .inl (false, 25, m_joins)), (m_rules_a, .inl (false, 4, m_rules)), (m_line_a, .inl (false, 24, m_line)), (m_pad_a, .inl (false, 40, m_pad)), (m_place_a, .inl (false, 480, m_place)), (m_length_a, .inl (false, 480, m_length)), (m_sort_a, .inl (false, 480, m_sort)), (m_price_a, .inl (false, 480, m_price)), (m_of_a, .inl (false, 480, m_of)), (m_begins_a, .inl (false, 26, m_begins)), (m_rowCost_a, .inl (false, 5760, m_rowCost)), (m_rowNext_a, .inl (false, 5760, m_rowNext)), (m_rows_a, .inl (false, 480, m_rows)), (m_ahead_a, .inl (false, 480, m_ahead)), (m_waysTo_a, .inl (false, 26, m_waysTo)), (m_image_a, .inl (false, 460, m_image)), (m_isKept_a, .inl (true, 2, m_isKept))] (0 ≤ m_many ∧ m_many ≤ 480 ∧ LB m_place m_length m_sort m_long1 m_many ∧ NF m_place m_length m_begins m_long1 ∧ BE m_begins m_long1 m_many ∧ m_begins m_long1.toNat = m_many ∧ RR m_rows m_rowNext 0 m_many ∧ m_long1 ≤ 24 ∧ 0 ≤ x ∧ x < m_many) (fun z u => ∃ (m_ahead' : Nat → Int), u = [(m_a, .inr (.inr (7, [.inr (some m_letters_a), .inr (some m_size_a), .inr (some m_kind_a), .inr (some m_cost_a), .inl m_words, .inr (some m_joins_a), .inr (some m_rules_a), .inr (some m_line_a), .inl m_long1, .inl m_signs, .inr (some m_pad_a), .inl m_readSize, .inl m_readKind, .inl m_readCost, .inr (some m_place_a), .inr (some m_length_a), .inr (some m_sort_a), .inr (some m_price_a), .inr (some m_of_a), .inr (some m_begins_a), .inl m_many, .inr (some m_rowCost_a), .inr (some m_rowNext_a), .inr (some m_rows_a), .inr (some m_ahead_a), .inr (some m_waysTo_a), .inr (some m_image_a), .inr (some m_isKept_a)]))), (m_letters_a, .inl (false, 96, m_letters)), (m_size_a, .inl (false, 16, m_size)), (m_kind_a, .inl (false, 16, m_kind)), (m_cost_a, .inl (false, 16, m_cost)), (m_joins_a, .inl (false, 25, m_joins)), (m_rules_a, .inl (false, 4, m_rules)), (m_line_a, .inl (false, 24, m_line)), (m_pad_a, .inl (false, 40, m_pad)), (m_place_a, .inl (false, 480, m_place)), (m_length_a, .inl (false, 480, m_length)), (m_sort_a, .inl (false, 480, m_sort)), (m_price_a, .inl (false, 480, m_price)), (m_of_a, .inl (false, 480, m_of)), (m_begins_a, .inl (false, 26, m_begins)), (m_rowCost_a, .inl (false, 5760, m_rowCost)), (m_rowNext_a, .inl (false, 5760, m_rowNext)), (m_rows_a, .inl (false, 480, m_rows)), (m_ahead_a, .inl (false, 480, m_ahead')), (m_waysTo_a, .inl (false, 26, m_waysTo)), (m_image_a, .inl (false, 460, m_image)), (m_isKept_a, .inl (true, 2, m_isKept))] ∧ (True)) := by
  refine zMi.of RX7 hE (by decide) rfl (by simp) (fun _ _ _ _ => rfl) ?_
  intro Z hP hav hwr B
  obtain ⟨l_x, u_x⟩ : zR x := hav (.inl x) (by simp)
  obtain ⟨l_m_words, u_m_words⟩ : zR m_words := zWr_at hwr (i := 0) rfl (.inl m_words) (by simp)
  obtain ⟨l_m_long1, u_m_long1⟩ : zR m_long1 := zWr_at hwr (i := 0) rfl (.inl m_long1) (by simp)
  obtain ⟨l_m_signs, u_m_signs⟩ : zR m_signs := zWr_at hwr (i := 0) rfl (.inl m_signs) (by simp)
  obtain ⟨l_m_readSize, u_m_readSize⟩ : zR m_readSize := zWr_at hwr (i := 0) rfl (.inl m_readSize) (by simp)
  obtain ⟨l_m_readKind, u_m_readKind⟩ : zR m_readKind := zWr_at hwr (i := 0) rfl (.inl m_readKind) (by simp)
  obtain ⟨l_m_readCost, u_m_readCost⟩ : zR m_readCost := zWr_at hwr (i := 0) rfl (.inl m_readCost) (by simp)
  obtain ⟨l_m_many, u_m_many⟩ : zR m_many := zWr_at hwr (i := 0) rfl (.inl m_many) (by simp)
  obtain ⟨a1, a2, a3, a4, a5, a6, a7, hx⟩ := hP
  have key : ∀ mu_ : Nat, (∀ (lv : List (Option zV)) (ws : zW), (∃ (d3 : Option zV) (d4 : Option zV) (y : Int) (m_ahead : Nat → Int), lv = [some (.inr (some m_a)), some (.inl x), some (.inl y), d3, d4] ∧ ws = [(m_a, .inr (.inr (7, [.inr (some m_letters_a), .inr (some m_size_a), .inr (some m_kind_a), .inr (some m_cost_a), .inl m_words, .inr (some m_joins_a), .inr (some m_rules_a), .inr (some m_line_a), .inl m_long1, .inl m_signs, .inr (some m_pad_a), .inl m_readSize, .inl m_readKind, .inl m_readCost, .inr (some m_place_a), .inr (some m_length_a), .inr (some m_sort_a), .inr (some m_price_a), .inr (some m_of_a), .inr (some m_begins_a), .inl m_many, .inr (some m_rowCost_a), .inr (some m_rowNext_a), .inr (some m_rows_a), .inr (some m_ahead_a), .inr (some m_waysTo_a), .inr (some m_image_a), .inr (some m_isKept_a)]))), (m_letters_a, .inl (false, 96, m_letters)), (m_size_a, .inl (false, 16, m_size)), (m_kind_a, .inl (false, 16, m_kind)), (m_cost_a, .inl (false, 16, m_cost)), (m_joins_a, .inl (false, 25, m_joins)), (m_rules_a, .inl (false, 4, m_rules)), (m_line_a, .inl (false, 24, m_line)), (m_pad_a, .inl (false, 40, m_pad)), (m_place_a, .inl (false, 480, m_place)), (m_length_a, .inl (false, 480, m_length)), (m_sort_a, .inl (false, 480, m_sort)), (m_price_a, .inl (false, 480, m_price)), (m_of_a, .inl (false, 480, m_of)), (m_begins_a, .inl (false, 26, m_begins)), (m_rowCost_a, .inl (false, 5760, m_rowCost)), (m_rowNext_a, .inl (false, 5760, m_rowNext)), (m_rows_a, .inl (false, 480, m_rows)), (m_ahead_a, .inl (false, 480, m_ahead)), (m_waysTo_a, .inl (false, 26, m_waysTo)), (m_image_a, .inl (false, 460, m_image)), (m_isKept_a, .inl (true, 2, m_isKept))] ∧ mu_ = ((x + 1 - y) * 1000 + 999).toNat ∧ (0 ≤ y ∧ y ≤ x + 1)) → Z 0 0 2 lv [] ws) ∧ (∀ (lv : List (Option zV)) (ws : zW), (∃ (d4 : Option zV) (y : Int) (s : Int) (m_ahead : Nat → Int), lv = [some (.inr (some m_a)), some (.inl x), some (.inl y), some (.inl s), d4] ∧ ws = [(m_a, .inr (.inr (7, [.inr (some m_letters_a), .inr (some m_size_a), .inr (some m_kind_a), .inr (some m_cost_a), .inl m_words, .inr (some m_joins_a), .inr (some m_rules_a), .inr (some m_line_a), .inl m_long1, .inl m_signs, .inr (some m_pad_a), .inl m_readSize, .inl m_readKind, .inl m_readCost, .inr (some m_place_a), .inr (some m_length_a), .inr (some m_sort_a), .inr (some m_price_a), .inr (some m_of_a), .inr (some m_begins_a), .inl m_many, .inr (some m_rowCost_a), .inr (some m_rowNext_a), .inr (some m_rows_a), .inr (some m_ahead_a), .inr (some m_waysTo_a), .inr (some m_image_a), .inr (some m_isKept_a)]))), (m_letters_a, .inl (false, 96, m_letters)), (m_size_a, .inl (false, 16, m_size)), (m_kind_a, .inl (false, 16, m_kind)), (m_cost_a, .inl (false, 16, m_cost)), (m_joins_a, .inl (false, 25, m_joins)), (m_rules_a, .inl (false, 4, m_rules)), (m_line_a, .inl (false, 24, m_line)), (m_pad_a, .inl (false, 40, m_pad)), (m_place_a, .inl (false, 480, m_place)), (m_length_a, .inl (false, 480, m_length)), (m_sort_a, .inl (false, 480, m_sort)), (m_price_a, .inl (false, 480, m_price)), (m_of_a, .inl (false, 480, m_of)), (m_begins_a, .inl (false, 26, m_begins)), (m_rowCost_a, .inl (false, 5760, m_rowCost)), (m_rowNext_a, .inl (false, 5760, m_rowNext)), (m_rows_a, .inl (false, 480, m_rows)), (m_ahead_a, .inl (false, 480, m_ahead)), (m_waysTo_a, .inl (false, 26, m_waysTo)), (m_image_a, .inl (false, 460, m_image)), (m_isKept_a, .inl (true, 2, m_isKept))] ∧ mu_ = ((x + 1 - y) * 1000 + (y - s)).toNat ∧ (0 ≤ y ∧ y ≤ x ∧ 0 ≤ s ∧ s ≤ y)) → Z 0 0 50 lv [] ws) := by
    intro mu_
    induction mu_ using Nat.strongRecOn with
    | _ mu_ ih =>
      refine ⟨?_, ?_⟩
      · intro lv ws hJ
        obtain ⟨d3, d4, y, m_ahead, rfl, rfl, rfl, hi⟩ := hJ
        refine B.iload_n (pc := 2) (i := 2) dX7_leastOf_2 rfl rfl ?_
        refine B.iload_n (pc := 3) (i := 1) dX7_leastOf_3 rfl rfl ?_
        refine B.icmp_gt (pc := 4) (tgt := 149) dX7_leastOf_4 (by decide) (fun c4 => ?_) (fun c4 => ?_)
        · refine B.aload_n (pc := 149) (i := 0) dX7_leastOf_149 rfl rfl ?_
          refine B.getfield (pc := 150) 0 rfl rfl inX7z 24 (by decide) fl_X7_61 rfl dX7_leastOf_150 ?_
          refine B.iload_n (pc := 153) (i := 1) dX7_leastOf_153 rfl rfl ?_
          refine B.iaload (pc := 154) 18 rfl (by omega) (by omega) dX7_leastOf_154 (fun r154 => ?_)
          obtain ⟨lr154, ur154⟩ := r154
          refine B.if_lt (pc := 155) (tgt := 167) dX7_leastOf_155 (by decide) (fun c155 => ?_) (fun c155 => ?_)
          · refine B.bipush (pc := 167) dX7_leastOf_167 ⟨by decide, by decide⟩ ?_
            refine B.goto (pc := 169) (tgt := 195) dX7_leastOf_169 (by decide) ?_
            refine B.ireturn (pc := 195) (by simp) dX7_leastOf_195 (Nat.le_refl _) (Nat.le_refl _) (fun rz rw => ⟨_, rfl, ?_⟩)
            first | trivial | omega
          · refine B.aload_n (pc := 158) (i := 0) dX7_leastOf_158 rfl rfl ?_
            refine B.getfield (pc := 159) 0 rfl rfl inX7z 23 (by decide) fl_X7_58 rfl dX7_leastOf_159 ?_
            refine B.iload_n (pc := 162) (i := 1) dX7_leastOf_162 rfl rfl ?_
            refine B.iaload (pc := 163) 17 rfl (by omega) (by omega) dX7_leastOf_163 (fun r163 => ?_)
            obtain ⟨lr163, ur163⟩ := r163
            refine B.if_ne (pc := 164) (tgt := 172) dX7_leastOf_164 (by decide) (fun c164 => ?_) (fun c164 => ?_)
            · refine B.aload_n (pc := 172) (i := 0) dX7_leastOf_172 rfl rfl ?_
              refine B.getfield (pc := 173) 0 rfl rfl inX7z 24 (by decide) fl_X7_61 rfl dX7_leastOf_173 ?_
              refine B.iload_n (pc := 176) (i := 1) dX7_leastOf_176 rfl rfl ?_
              refine B.iaload (pc := 177) 18 rfl (by omega) (by omega) dX7_leastOf_177 (fun r177 => ?_)
              obtain ⟨lr177, ur177⟩ := r177
              refine B.aload_n (pc := 178) (i := 0) dX7_leastOf_178 rfl rfl ?_
              refine B.getfield (pc := 179) 0 rfl rfl inX7z 21 (by decide) fl_X7_52 rfl dX7_leastOf_179 ?_
              refine B.bipush (pc := 182) dX7_leastOf_182 ⟨by decide, by decide⟩ ?_
              refine B.iload_n (pc := 184) (i := 1) dX7_leastOf_184 rfl rfl ?_
              refine B.imul (pc := 185) dX7_leastOf_185 ⟨by omega, by omega⟩ ?_
              refine B.iaload (pc := 186) 15 rfl (by omega) (by omega) dX7_leastOf_186 (fun r186 => ?_)
              obtain ⟨lr186, ur186⟩ := r186
              refine B.iaddw (pc := 187) dX7_leastOf_187 (fun w187 rw187 ew187 => ?_)
              obtain ⟨lw187, uw187⟩ := rw187
              refine B.aload_n (pc := 188) (i := 0) dX7_leastOf_188 rfl rfl ?_
              refine B.getfield (pc := 189) 0 rfl rfl inX7z 17 (by decide) fl_X7_43 rfl dX7_leastOf_189 ?_
              refine B.iload_n (pc := 192) (i := 1) dX7_leastOf_192 rfl rfl ?_
              refine B.iaload (pc := 193) 12 rfl (by omega) (by omega) dX7_leastOf_193 (fun r193 => ?_)
              obtain ⟨lr193, ur193⟩ := r193
              refine B.isubw (pc := 194) dX7_leastOf_194 (fun w194 rw194 ew194 => ?_)
              obtain ⟨lw194, uw194⟩ := rw194
              refine B.ireturn (pc := 195) (by simp) dX7_leastOf_195 (Nat.le_refl _) (Nat.le_refl _) (fun rz rw => ⟨_, rfl, ?_⟩)
              first | trivial | omega
            · refine B.bipush (pc := 167) dX7_leastOf_167 ⟨by decide, by decide⟩ ?_
              refine B.goto (pc := 169) (tgt := 195) dX7_leastOf_169 (by decide) ?_
              refine B.ireturn (pc := 195) (by simp) dX7_leastOf_195 (Nat.le_refl _) (Nat.le_refl _) (fun rz rw => ⟨_, rfl, ?_⟩)
              first | trivial | omega
        · have hl := a3.at (x := y) (by omega) (by omega)
          refine B.aload_n (pc := 7) (i := 0) dX7_leastOf_7 rfl rfl ?_
          refine B.getfield (pc := 8) 0 rfl rfl inX7z 24 (by decide) fl_X7_61 rfl dX7_leastOf_8 ?_
          refine B.iload_n (pc := 11) (i := 2) dX7_leastOf_11 rfl rfl ?_
          refine B.aload_n (pc := 12) (i := 0) dX7_leastOf_12 rfl rfl ?_
          refine B.getfield (pc := 13) 0 rfl rfl inX7z 14 (by decide) fl_X7_34 rfl dX7_leastOf_13 ?_
          refine B.iload_n (pc := 16) (i := 2) dX7_leastOf_16 rfl rfl ?_
          refine B.iaload (pc := 17) 9 rfl (by omega) (by omega) dX7_leastOf_17 (fun r17 => ?_)
          obtain ⟨lr17, ur17⟩ := r17
          refine B.if_ne (pc := 18) (tgt := 45) dX7_leastOf_18 (by decide) (fun c18 => ?_) (fun c18 => ?_)
          · refine B.bipush (pc := 45) dX7_leastOf_45 ⟨by decide, by decide⟩ ?_
            refine B.iastore (pc := 47) 18 rfl (by omega) (by omega) dX7_leastOf_47 ?_
            simp only [List.set_cons_zero, List.set_cons_succ]
            refine B.iconst (pc := 48) dX7_leastOf_48 ⟨by decide, by decide⟩ ?_
            refine B.istore_n (pc := 49) (i := 3) dX7_leastOf_49 rfl (by decide) ?_
            simp only [List.set_cons_zero, List.set_cons_succ]
            refine (ih _ ?_).2 _ _ ⟨_, _, _, _, rfl, rfl, rfl, ?_⟩
            · omega
            · omega
          · refine B.aload_n (pc := 21) (i := 0) dX7_leastOf_21 rfl rfl ?_
            refine B.getfield (pc := 22) 0 rfl rfl inX7z 5 (by decide) fl_X7_22 rfl dX7_leastOf_22 ?_
            refine B.bipush (pc := 25) dX7_leastOf_25 ⟨by decide, by decide⟩ ?_
            refine B.aload_n (pc := 27) (i := 0) dX7_leastOf_27 rfl rfl ?_
            refine B.getfield (pc := 28) 0 rfl rfl inX7z 16 (by decide) fl_X7_40 rfl dX7_leastOf_28 ?_
            refine B.iload_n (pc := 31) (i := 2) dX7_leastOf_31 rfl rfl ?_
            refine B.iaload (pc := 32) 11 rfl (by omega) (by omega) dX7_leastOf_32 (fun r32 => ?_)
            obtain ⟨lr32, ur32⟩ := r32
            refine B.iadd (pc := 33) dX7_leastOf_33 ⟨by omega, by omega⟩ ?_
            refine B.iaload (pc := 34) 5 rfl (by omega) (by omega) dX7_leastOf_34 (fun r34 => ?_)
            obtain ⟨lr34, ur34⟩ := r34
            refine B.aload_n (pc := 35) (i := 0) dX7_leastOf_35 rfl rfl ?_
            refine B.getfield (pc := 36) 0 rfl rfl inX7z 17 (by decide) fl_X7_43 rfl dX7_leastOf_36 ?_
            refine B.iload_n (pc := 39) (i := 2) dX7_leastOf_39 rfl rfl ?_
            refine B.iaload (pc := 40) 12 rfl (by omega) (by omega) dX7_leastOf_40 (fun r40 => ?_)
            obtain ⟨lr40, ur40⟩ := r40
            refine B.iaddw (pc := 41) dX7_leastOf_41 (fun w41 rw41 ew41 => ?_)
            obtain ⟨lw41, uw41⟩ := rw41
            refine B.goto (pc := 42) (tgt := 47) dX7_leastOf_42 (by decide) ?_
            refine B.iastore (pc := 47) 18 rfl (by omega) (by omega) dX7_leastOf_47 ?_
            simp only [List.set_cons_zero, List.set_cons_succ]
            refine B.iconst (pc := 48) dX7_leastOf_48 ⟨by decide, by decide⟩ ?_
            refine B.istore_n (pc := 49) (i := 3) dX7_leastOf_49 rfl (by decide) ?_
            simp only [List.set_cons_zero, List.set_cons_succ]
            refine (ih _ ?_).2 _ _ ⟨_, _, _, _, rfl, rfl, rfl, ?_⟩
            · omega
            · omega
      · intro lv ws hJ
        obtain ⟨d4, y, s, m_ahead, rfl, rfl, rfl, hi⟩ := hJ
        refine B.iload_n (pc := 50) (i := 3) dX7_leastOf_50 rfl rfl ?_
        refine B.iload_n (pc := 51) (i := 2) dX7_leastOf_51 rfl rfl ?_
        refine B.icmp_ge (pc := 52) (tgt := 143) dX7_leastOf_52 (by decide) (fun c52 => ?_) (fun c52 => ?_)
        · refine B.iinc (pc := 143) dX7_leastOf_143 (by decide) rfl ⟨by omega, by omega⟩ ?_
          simp only [List.set_cons_zero, List.set_cons_succ]
          refine B.goto (pc := 146) (tgt := 2) dX7_leastOf_146 (by decide) ?_
          refine (ih _ ?_).1 _ _ ⟨_, _, _, _, rfl, rfl, rfl, ?_⟩
          · omega
          · omega
        · have hl := a3.at (x := y) (by omega) (by omega)
          refine B.aload_n (pc := 55) (i := 0) dX7_leastOf_55 rfl rfl ?_
          refine B.iload_n (pc := 56) (i := 3) dX7_leastOf_56 rfl rfl ?_
          refine B.callVi (pc := 57) 1 (mX7_behind hE _ _ _ _ _ _ _ _ _ _ _ _ _ _ _ _ _ _ _ _ _ _ _ _ _ _ _ _ _ _ _ _ _ _ _ _ _ _ _ _ _ _ _ _ _ _ _ _ _ _ _) 0 rfl rfl ml_X7_130 im_X7_behind se_X7_behind it_X7 co_X7_behind (by decide +kernel) rfl rfl rfl ⟨by decide, by decide⟩ ⟨by decide, by decide⟩ [0, 1, 2, 3, 4, 5, 6, 7, 8, 9, 10, 11, 12, 13, 14, 15, 16, 17, 18, 19, 20, 21] rfl rfl rfl (Nat.le_of_ble_eq_true rfl) dX7_leastOf_57 (fun _ => ⟨a3, by omega, by omega, by omega, by omega⟩) (fun zk57 uk57 rzk57 ruk57 rak57 hqk57 => ?_)
          obtain ⟨lzk57, uzk57⟩ := rzk57
          obtain ⟨rfl, hk57⟩ := hqk57
          simp only [zput, List.set_cons_zero, List.set_cons_succ, List.append_nil, Nat.add_zero]
          refine B.aload_n (pc := 60) (i := 0) dX7_leastOf_60 rfl rfl ?_
          refine B.getfield (pc := 61) 0 rfl rfl inX7z 14 (by decide) fl_X7_34 rfl dX7_leastOf_61 ?_
          refine B.iload_n (pc := 64) (i := 2) dX7_leastOf_64 rfl rfl ?_
          refine B.iaload (pc := 65) 9 rfl (by omega) (by omega) dX7_leastOf_65 (fun r65 => ?_)
          obtain ⟨lr65, ur65⟩ := r65
          refine B.icmp_ne (pc := 66) (tgt := 137) dX7_leastOf_66 (by decide) (fun c66 => ?_) (fun c66 => ?_)
          · refine B.iinc (pc := 137) dX7_leastOf_137 (by decide) rfl ⟨by omega, by omega⟩ ?_
            simp only [List.set_cons_zero, List.set_cons_succ]
            refine B.goto (pc := 140) (tgt := 50) dX7_leastOf_140 (by decide) ?_
            refine (ih _ ?_).2 _ _ ⟨_, _, _, _, rfl, rfl, rfl, ?_⟩
            · omega
            · omega
          · refine B.aload_n (pc := 69) (i := 0) dX7_leastOf_69 rfl rfl ?_
            refine B.getfield (pc := 70) 0 rfl rfl inX7z 24 (by decide) fl_X7_61 rfl dX7_leastOf_70 ?_
            refine B.iload_n (pc := 73) (i := 3) dX7_leastOf_73 rfl rfl ?_
            refine B.iaload (pc := 74) 18 rfl (by omega) (by omega) dX7_leastOf_74 (fun r74 => ?_)
            obtain ⟨lr74, ur74⟩ := r74
            refine B.if_lt (pc := 75) (tgt := 137) dX7_leastOf_75 (by decide) (fun c75 => ?_) (fun c75 => ?_)
            · refine B.iinc (pc := 137) dX7_leastOf_137 (by decide) rfl ⟨by omega, by omega⟩ ?_
              simp only [List.set_cons_zero, List.set_cons_succ]
              refine B.goto (pc := 140) (tgt := 50) dX7_leastOf_140 (by decide) ?_
              refine (ih _ ?_).2 _ _ ⟨_, _, _, _, rfl, rfl, rfl, ?_⟩
              · omega
              · omega
            · refine B.aload_n (pc := 78) (i := 0) dX7_leastOf_78 rfl rfl ?_
              refine B.getfield (pc := 79) 0 rfl rfl inX7z 24 (by decide) fl_X7_61 rfl dX7_leastOf_79 ?_
              refine B.iload_n (pc := 82) (i := 3) dX7_leastOf_82 rfl rfl ?_
              refine B.iaload (pc := 83) 18 rfl (by omega) (by omega) dX7_leastOf_83 (fun r83 => ?_)
              obtain ⟨lr83, ur83⟩ := r83
              refine B.aload_n (pc := 84) (i := 0) dX7_leastOf_84 rfl rfl ?_
              refine B.iload_n (pc := 85) (i := 3) dX7_leastOf_85 rfl rfl ?_
              refine B.iload_n (pc := 86) (i := 2) dX7_leastOf_86 rfl rfl ?_
              refine B.callVi (pc := 87) 2 (mX7_joinOf hE _ _ _ _ _ _ _ _ _ _ _ _ _ _ _ _ _ _ _ _ _ _ _ _ _ _ _ _ _ _ _ _ _ _ _ _ _ _ _ _ _ _ _ _ _ _ _ _ _ _ _ _) 0 rfl rfl ml_X7_133 im_X7_joinOf se_X7_joinOf it_X7 co_X7_joinOf (by decide +kernel) rfl rfl rfl ⟨by decide, by decide⟩ ⟨by decide, by decide⟩ [0, 1, 2, 3, 4, 5, 6, 7, 8, 9, 10, 11, 12, 13, 14, 15, 16, 17, 18, 19, 20, 21] rfl rfl rfl (Nat.le_of_ble_eq_true rfl) dX7_leastOf_87 (fun _ => ⟨a3, by omega, by omega, by omega, by omega, by omega⟩) (fun zk87 uk87 rzk87 ruk87 rak87 hqk87 => ?_)
              obtain ⟨lzk87, uzk87⟩ := rzk87
              obtain ⟨rfl, hk87⟩ := hqk87
              simp only [zput, List.set_cons_zero, List.set_cons_succ, List.append_nil, Nat.add_zero]
              refine B.iaddw (pc := 90) dX7_leastOf_90 (fun w90 rw90 ew90 => ?_)
              obtain ⟨lw90, uw90⟩ := rw90
              refine B.aload_n (pc := 91) (i := 0) dX7_leastOf_91 rfl rfl ?_
              refine B.getfield (pc := 92) 0 rfl rfl inX7z 17 (by decide) fl_X7_43 rfl dX7_leastOf_92 ?_
              refine B.iload_n (pc := 95) (i := 2) dX7_leastOf_95 rfl rfl ?_
              refine B.iaload (pc := 96) 12 rfl (by omega) (by omega) dX7_leastOf_96 (fun r96 => ?_)
              obtain ⟨lr96, ur96⟩ := r96
              refine B.iaddw (pc := 97) dX7_leastOf_97 (fun w97 rw97 ew97 => ?_)
              obtain ⟨lw97, uw97⟩ := rw97
              refine B.istore (pc := 98) (i := 4) dX7_leastOf_98 (by decide) ?_
              simp only [List.set_cons_zero, List.set_cons_succ]
              refine B.aload_n (pc := 100) (i := 0) dX7_leastOf_100 rfl rfl ?_
              refine B.getfield (pc := 101) 0 rfl rfl inX7z 24 (by decide) fl_X7_61 rfl dX7_leastOf_101 ?_
              refine B.iload_n (pc := 104) (i := 2) dX7_leastOf_104 rfl rfl ?_
              refine B.aload_n (pc := 105) (i := 0) dX7_leastOf_105 rfl rfl ?_
              refine B.getfield (pc := 106) 0 rfl rfl inX7z 24 (by decide) fl_X7_61 rfl dX7_leastOf_106 ?_
              refine B.iload_n (pc := 109) (i := 2) dX7_leastOf_109 rfl rfl ?_
              refine B.iaload (pc := 110) 18 rfl (by omega) (by omega) dX7_leastOf_110 (fun r110 => ?_)
              obtain ⟨lr110, ur110⟩ := r110
              refine B.if_lt (pc := 111) (tgt := 125) dX7_leastOf_111 (by decide) (fun c111 => ?_) (fun c111 => ?_)
              · refine B.iload (pc := 125) dX7_leastOf_125 rfl ?_
                refine B.goto (pc := 127) (tgt := 136) dX7_leastOf_127 (by decide) ?_
                refine B.iastore (pc := 136) 18 rfl (by omega) (by omega) dX7_leastOf_136 ?_
                simp only [List.set_cons_zero, List.set_cons_succ]
                refine B.iinc (pc := 137) dX7_leastOf_137 (by decide) rfl ⟨by omega, by omega⟩ ?_
                simp only [List.set_cons_zero, List.set_cons_succ]
                refine B.goto (pc := 140) (tgt := 50) dX7_leastOf_140 (by decide) ?_
                refine (ih _ ?_).2 _ _ ⟨_, _, _, _, rfl, rfl, rfl, ?_⟩
                · omega
                · omega
              · refine B.iload (pc := 114) dX7_leastOf_114 rfl ?_
                refine B.aload_n (pc := 116) (i := 0) dX7_leastOf_116 rfl rfl ?_
                refine B.getfield (pc := 117) 0 rfl rfl inX7z 24 (by decide) fl_X7_61 rfl dX7_leastOf_117 ?_
                refine B.iload_n (pc := 120) (i := 2) dX7_leastOf_120 rfl rfl ?_
                refine B.iaload (pc := 121) 18 rfl (by omega) (by omega) dX7_leastOf_121 (fun r121 => ?_)
                obtain ⟨lr121, ur121⟩ := r121
                refine B.icmp_ge (pc := 122) (tgt := 130) dX7_leastOf_122 (by decide) (fun c122 => ?_) (fun c122 => ?_)
                · refine B.aload_n (pc := 130) (i := 0) dX7_leastOf_130 rfl rfl ?_
                  refine B.getfield (pc := 131) 0 rfl rfl inX7z 24 (by decide) fl_X7_61 rfl dX7_leastOf_131 ?_
                  refine B.iload_n (pc := 134) (i := 2) dX7_leastOf_134 rfl rfl ?_
                  refine B.iaload (pc := 135) 18 rfl (by omega) (by omega) dX7_leastOf_135 (fun r135 => ?_)
                  obtain ⟨lr135, ur135⟩ := r135
                  refine B.iastore (pc := 136) 18 rfl (by omega) (by omega) dX7_leastOf_136 ?_
                  simp only [List.set_cons_zero, List.set_cons_succ]
                  refine B.iinc (pc := 137) dX7_leastOf_137 (by decide) rfl ⟨by omega, by omega⟩ ?_
                  simp only [List.set_cons_zero, List.set_cons_succ]
                  refine B.goto (pc := 140) (tgt := 50) dX7_leastOf_140 (by decide) ?_
                  refine (ih _ ?_).2 _ _ ⟨_, _, _, _, rfl, rfl, rfl, ?_⟩
                  · omega
                  · omega
                · refine B.iload (pc := 125) dX7_leastOf_125 rfl ?_
                  refine B.goto (pc := 127) (tgt := 136) dX7_leastOf_127 (by decide) ?_
                  refine B.iastore (pc := 136) 18 rfl (by omega) (by omega) dX7_leastOf_136 ?_
                  simp only [List.set_cons_zero, List.set_cons_succ]
                  refine B.iinc (pc := 137) dX7_leastOf_137 (by decide) rfl ⟨by omega, by omega⟩ ?_
                  simp only [List.set_cons_zero, List.set_cons_succ]
                  refine B.goto (pc := 140) (tgt := 50) dX7_leastOf_140 (by decide) ?_
                  refine (ih _ ?_).2 _ _ ⟨_, _, _, _, rfl, rfl, rfl, ?_⟩
                  · omega
                  · omega
  show Z 0 0 0 [some (.inr (some m_a)), some (.inl x), none, none, none] [] _
  refine B.iconst (pc := 0) dX7_leastOf_0 ⟨by decide, by decide⟩ ?_
  refine B.istore_n (pc := 1) (i := 2) dX7_leastOf_1 rfl (by decide) ?_
  simp only [List.set_cons_zero, List.set_cons_succ]
  refine (key _).1 _ _ ⟨_, _, _, _, rfl, rfl, rfl, ?_⟩
  omega
set_option maxHeartbeats 4000000 in
set_option maxRecDepth 100000 in
theorem mX7_pieces {l : Launch} {D : va_G} {k : zK} {E : zE} (hE : zEok E) (m_a m_letters_a m_size_a m_kind_a m_cost_a m_joins_a m_rules_a m_line_a m_pad_a m_place_a m_length_a m_sort_a m_price_a m_of_a m_begins_a m_rowCost_a m_rowNext_a m_rows_a m_ahead_a m_waysTo_a m_image_a m_isKept_a : Nat) (m_words m_long1 m_signs m_readSize m_readKind m_readCost m_many : Int) (m_letters m_size m_kind m_cost m_joins m_rules m_line m_pad m_place m_length m_sort m_price m_of m_begins m_rowCost m_rowNext m_rows m_ahead m_waysTo m_image m_isKept : Nat → Int) : zMi l D k E yX7_pieces cX7_pieces 1 .int { frames := 2, cells := 0, slots := 0, locals := 52 } 0 0 [.inr (some m_a)] [(m_a, .inr (.inr (7, [.inr (some m_letters_a), .inr (some m_size_a), .inr (some m_kind_a), .inr (some m_cost_a), .inl m_words, .inr (some m_joins_a), .inr (some m_rules_a), .inr (some m_line_a), .inl m_long1, .inl m_signs, .inr (some m_pad_a), .inl m_readSize, .inl m_readKind, .inl m_readCost, .inr (some m_place_a), .inr (some m_length_a), .inr (some m_sort_a), .inr (some m_price_a), .inr (some m_of_a), .inr (some m_begins_a), .inl m_many, .inr (some m_rowCost_a), .inr (some m_rowNext_a), .inr (some m_rows_a), .inr (some m_ahead_a), .inr (some m_waysTo_a), .inr (some m_image_a), .inr (some m_isKept_a)]))), (m_letters_a, .inl (false, 96, m_letters)), (m_size_a, .inl (false, 16, m_size)), (m_kind_a, .inl (false, 16, m_kind)), (m_cost_a, .inl (false, 16, m_cost)), (m_joins_a, .inl (false, 25, m_joins)), (m_rules_a, .inl (false, 4, m_rules)), (m_line_a, .inl (false, 24, m_line)), (m_pad_a, .inl (false, 40, m_pad)), (m_place_a, .inl (false, 480, m_place)), (m_length_a, .inl (false, 480, m_length)), (m_sort_a, .inl (false, 480, m_sort)), (m_price_a, .inl (false, 480, m_price)), (m_of_a, .inl (false, 480, m_of)), (m_begins_a, .inl (false, 26, m_begins)), (m_rowCost_a, .inl (false, 5760, m_rowCost)), (m_rowNext_a, .inl (false, 5760, m_rowNext)), (m_rows_a, .inl (false, 480, m_rows)), (m_ahead_a, .inl (false, 480, m_ahead)), (m_waysTo_a, .inl (false, 26, m_waysTo)), (m_image_a, .inl (false, 460, m_image)), (m_isKept_a, .inl (true, 2, m_isKept))] (MI m_words m_size m_kind m_cost m_joins m_rules m_long1 m_signs m_image m_isKept) (fun z u => ∃ (m_many' : Int) (m_place' : Nat → Int) (m_length' : Nat → Int) (m_sort' : Nat → Int) (m_price' : Nat → Int) (m_of' : Nat → Int) (m_begins' : Nat → Int), u = [(m_a, .inr (.inr (7, [.inr (some m_letters_a), .inr (some m_size_a), .inr (some m_kind_a), .inr (some m_cost_a), .inl m_words, .inr (some m_joins_a), .inr (some m_rules_a), .inr (some m_line_a), .inl m_long1, .inl m_signs, .inr (some m_pad_a), .inl m_readSize, .inl m_readKind, .inl m_readCost, .inr (some m_place_a), .inr (some m_length_a), .inr (some m_sort_a), .inr (some m_price_a), .inr (some m_of_a), .inr (some m_begins_a), .inl m_many', .inr (some m_rowCost_a), .inr (some m_rowNext_a), .inr (some m_rows_a), .inr (some m_ahead_a), .inr (some m_waysTo_a), .inr (some m_image_a), .inr (some m_isKept_a)]))), (m_letters_a, .inl (false, 96, m_letters)), (m_size_a, .inl (false, 16, m_size)), (m_kind_a, .inl (false, 16, m_kind)), (m_cost_a, .inl (false, 16, m_cost)), (m_joins_a, .inl (false, 25, m_joins)), (m_rules_a, .inl (false, 4, m_rules)), (m_line_a, .inl (false, 24, m_line)), (m_pad_a, .inl (false, 40, m_pad)), (m_place_a, .inl (false, 480, m_place')), (m_length_a, .inl (false, 480, m_length')), (m_sort_a, .inl (false, 480, m_sort')), (m_price_a, .inl (false, 480, m_price')), (m_of_a, .inl (false, 480, m_of')), (m_begins_a, .inl (false, 26, m_begins')), (m_rowCost_a, .inl (false, 5760, m_rowCost)), (m_rowNext_a, .inl (false, 5760, m_rowNext)), (m_rows_a, .inl (false, 480, m_rows)), (m_ahead_a, .inl (false, 480, m_ahead)), (m_waysTo_a, .inl (false, 26, m_waysTo)), (m_image_a, .inl (false, 460, m_image)), (m_isKept_a, .inl (true, 2, m_isKept))] ∧ (True)) := by
  refine zMi.of RX7 hE (by decide) rfl (by simp) (fun _ _ _ _ => rfl) ?_
  intro Z hP hav hwr B
  obtain ⟨l_m_words, u_m_words⟩ : zR m_words := zWr_at hwr (i := 0) rfl (.inl m_words) (by simp)
  obtain ⟨l_m_long1, u_m_long1⟩ : zR m_long1 := zWr_at hwr (i := 0) rfl (.inl m_long1) (by simp)
  obtain ⟨l_m_signs, u_m_signs⟩ : zR m_signs := zWr_at hwr (i := 0) rfl (.inl m_signs) (by simp)
  obtain ⟨l_m_readSize, u_m_readSize⟩ : zR m_readSize := zWr_at hwr (i := 0) rfl (.inl m_readSize) (by simp)
  obtain ⟨l_m_readKind, u_m_readKind⟩ : zR m_readKind := zWr_at hwr (i := 0) rfl (.inl m_readKind) (by simp)
  obtain ⟨l_m_readCost, u_m_readCost⟩ : zR m_readCost := zWr_at hwr (i := 0) rfl (.inl m_readCost) (by simp)
  obtain ⟨l_m_many, u_m_many⟩ : zR m_many := zWr_at hwr (i := 0) rfl (.inl m_many) (by simp)
  obtain ⟨h1, h2, h3, h4, h5⟩ := id hP
  obtain ⟨h1a, h1b, h1c⟩ := id h1
  obtain ⟨h2a, h2b⟩ := id h2
  show Z 0 0 0 [some (.inr (some m_a))] [] _
  refine B.aload_n (pc := 0) (i := 0) dX7_pieces_0 rfl rfl ?_
  refine B.getfield (pc := 1) 0 rfl rfl inX7z 8 (by decide) fl_X7_109 rfl dX7_pieces_1 ?_
  refine B.if_ne (pc := 4) (tgt := 10) dX7_pieces_4 (by decide) (fun c4 => ?_) (fun c4 => ?_)
  · refine B.aload_n (pc := 10) (i := 0) dX7_pieces_10 rfl rfl ?_
    refine B.callVv (pc := 11) 0 (mX7_layPieces hE _ _ _ _ _ _ _ _ _ _ _ _ _ _ _ _ _ _ _ _ _ _ _ _ _ _ _ _ _ _ _ _ _ _ _ _ _ _ _ _ _ _ _ _ _ _ _ _ _ _) 0 rfl rfl ml_X7_127 im_X7_layPieces se_X7_layPieces it_X7 co_X7_layPieces (by decide +kernel) rfl rfl rfl ⟨by decide, by decide⟩ ⟨by decide, by decide⟩ [0, 1, 2, 3, 4, 5, 6, 7, 8, 9, 10, 11, 12, 13, 14, 15, 16, 17, 18, 19, 20, 21] rfl rfl rfl (Nat.le_of_ble_eq_true rfl) dX7_pieces_11 (fun _ => ⟨h1, h2⟩) (fun uk11 ruk11 rak11 hqk11 => ?_)
    obtain ⟨m_many_k11, m_place_k11, m_length_k11, m_sort_k11, m_price_k11, m_of_k11, m_begins_k11, rfl, hk11⟩ := hqk11
    simp only [zput, List.set_cons_zero, List.set_cons_succ, List.append_nil, Nat.add_zero]
    refine B.aload_n (pc := 14) (i := 0) dX7_pieces_14 rfl rfl ?_
    refine B.getfield (pc := 15) 0 rfl rfl inX7z 20 (by decide) fl_X7_112 rfl dX7_pieces_15 ?_
    refine B.ireturn (pc := 18) (by simp) dX7_pieces_18 (Nat.le_refl _) (Nat.le_refl _) (fun rz rw => ⟨_, _, _, _, _, _, _, rfl, ?_⟩)
    trivial
  · refine B.bipush (pc := 7) dX7_pieces_7 ⟨by decide, by decide⟩ ?_
    refine B.ireturn (pc := 9) (by simp) dX7_pieces_9 (Nat.le_refl _) (Nat.le_refl _) (fun rz rw => ⟨_, _, _, _, _, _, _, rfl, ?_⟩)
    trivial
set_option maxHeartbeats 4000000 in
set_option maxRecDepth 100000 in
theorem mX7_ways {l : Launch} {D : va_G} {k : zK} {E : zE} (hE : zEok E) (m_a m_letters_a m_size_a m_kind_a m_cost_a m_joins_a m_rules_a m_line_a m_pad_a m_place_a m_length_a m_sort_a m_price_a m_of_a m_begins_a m_rowCost_a m_rowNext_a m_rows_a m_ahead_a m_waysTo_a m_image_a m_isKept_a : Nat) (m_words m_long1 m_signs m_readSize m_readKind m_readCost m_many : Int) (m_letters m_size m_kind m_cost m_joins m_rules m_line m_pad m_place m_length m_sort m_price m_of m_begins m_rowCost m_rowNext m_rows m_ahead m_waysTo m_image m_isKept : Nat → Int) : zMi l D k E yX7_ways cX7_ways 3 .int { frames := 2, cells := 0, slots := 0, locals := 52 } 0 0 [.inr (some m_a)] [(m_a, .inr (.inr (7, [.inr (some m_letters_a), .inr (some m_size_a), .inr (some m_kind_a), .inr (some m_cost_a), .inl m_words, .inr (some m_joins_a), .inr (some m_rules_a), .inr (some m_line_a), .inl m_long1, .inl m_signs, .inr (some m_pad_a), .inl m_readSize, .inl m_readKind, .inl m_readCost, .inr (some m_place_a), .inr (some m_length_a), .inr (some m_sort_a), .inr (some m_price_a), .inr (some m_of_a), .inr (some m_begins_a), .inl m_many, .inr (some m_rowCost_a), .inr (some m_rowNext_a), .inr (some m_rows_a), .inr (some m_ahead_a), .inr (some m_waysTo_a), .inr (some m_image_a), .inr (some m_isKept_a)]))), (m_letters_a, .inl (false, 96, m_letters)), (m_size_a, .inl (false, 16, m_size)), (m_kind_a, .inl (false, 16, m_kind)), (m_cost_a, .inl (false, 16, m_cost)), (m_joins_a, .inl (false, 25, m_joins)), (m_rules_a, .inl (false, 4, m_rules)), (m_line_a, .inl (false, 24, m_line)), (m_pad_a, .inl (false, 40, m_pad)), (m_place_a, .inl (false, 480, m_place)), (m_length_a, .inl (false, 480, m_length)), (m_sort_a, .inl (false, 480, m_sort)), (m_price_a, .inl (false, 480, m_price)), (m_of_a, .inl (false, 480, m_of)), (m_begins_a, .inl (false, 26, m_begins)), (m_rowCost_a, .inl (false, 5760, m_rowCost)), (m_rowNext_a, .inl (false, 5760, m_rowNext)), (m_rows_a, .inl (false, 480, m_rows)), (m_ahead_a, .inl (false, 480, m_ahead)), (m_waysTo_a, .inl (false, 26, m_waysTo)), (m_image_a, .inl (false, 460, m_image)), (m_isKept_a, .inl (true, 2, m_isKept))] (MI m_words m_size m_kind m_cost m_joins m_rules m_long1 m_signs m_image m_isKept) (fun z u => ∃ (m_many' : Int) (m_place' : Nat → Int) (m_length' : Nat → Int) (m_sort' : Nat → Int) (m_price' : Nat → Int) (m_of' : Nat → Int) (m_begins' : Nat → Int) (m_waysTo' : Nat → Int), u = [(m_a, .inr (.inr (7, [.inr (some m_letters_a), .inr (some m_size_a), .inr (some m_kind_a), .inr (some m_cost_a), .inl m_words, .inr (some m_joins_a), .inr (some m_rules_a), .inr (some m_line_a), .inl m_long1, .inl m_signs, .inr (some m_pad_a), .inl m_readSize, .inl m_readKind, .inl m_readCost, .inr (some m_place_a), .inr (some m_length_a), .inr (some m_sort_a), .inr (some m_price_a), .inr (some m_of_a), .inr (some m_begins_a), .inl m_many', .inr (some m_rowCost_a), .inr (some m_rowNext_a), .inr (some m_rows_a), .inr (some m_ahead_a), .inr (some m_waysTo_a), .inr (some m_image_a), .inr (some m_isKept_a)]))), (m_letters_a, .inl (false, 96, m_letters)), (m_size_a, .inl (false, 16, m_size)), (m_kind_a, .inl (false, 16, m_kind)), (m_cost_a, .inl (false, 16, m_cost)), (m_joins_a, .inl (false, 25, m_joins)), (m_rules_a, .inl (false, 4, m_rules)), (m_line_a, .inl (false, 24, m_line)), (m_pad_a, .inl (false, 40, m_pad)), (m_place_a, .inl (false, 480, m_place')), (m_length_a, .inl (false, 480, m_length')), (m_sort_a, .inl (false, 480, m_sort')), (m_price_a, .inl (false, 480, m_price')), (m_of_a, .inl (false, 480, m_of')), (m_begins_a, .inl (false, 26, m_begins')), (m_rowCost_a, .inl (false, 5760, m_rowCost)), (m_rowNext_a, .inl (false, 5760, m_rowNext)), (m_rows_a, .inl (false, 480, m_rows)), (m_ahead_a, .inl (false, 480, m_ahead)), (m_waysTo_a, .inl (false, 26, m_waysTo')), (m_image_a, .inl (false, 460, m_image)), (m_isKept_a, .inl (true, 2, m_isKept))] ∧ (True)) := by
  refine zMi.of RX7 hE (by decide) rfl (by simp) (fun _ _ _ _ => rfl) ?_
  intro Z hP hav hwr B
  obtain ⟨l_m_words, u_m_words⟩ : zR m_words := zWr_at hwr (i := 0) rfl (.inl m_words) (by simp)
  obtain ⟨l_m_long1, u_m_long1⟩ : zR m_long1 := zWr_at hwr (i := 0) rfl (.inl m_long1) (by simp)
  obtain ⟨l_m_signs, u_m_signs⟩ : zR m_signs := zWr_at hwr (i := 0) rfl (.inl m_signs) (by simp)
  obtain ⟨l_m_readSize, u_m_readSize⟩ : zR m_readSize := zWr_at hwr (i := 0) rfl (.inl m_readSize) (by simp)
  obtain ⟨l_m_readKind, u_m_readKind⟩ : zR m_readKind := zWr_at hwr (i := 0) rfl (.inl m_readKind) (by simp)
  obtain ⟨l_m_readCost, u_m_readCost⟩ : zR m_readCost := zWr_at hwr (i := 0) rfl (.inl m_readCost) (by simp)
  obtain ⟨l_m_many, u_m_many⟩ : zR m_many := zWr_at hwr (i := 0) rfl (.inl m_many) (by simp)
  obtain ⟨h1, h2, h3, h4, h5⟩ := id hP
  obtain ⟨h1a, h1b, h1c⟩ := id h1
  obtain ⟨h2a, h2b⟩ := id h2
  have key : ∀ mu_ : Nat, (∀ (lv : List (Option zV)) (ws : zW), (∃ (d2 : Option zV) (t : Int) (m_waysTo : Nat → Int) (m_many : Int) (m_place : Nat → Int) (m_length : Nat → Int) (m_sort : Nat → Int) (m_price : Nat → Int) (m_of : Nat → Int) (m_begins : Nat → Int), lv = [some (.inr (some m_a)), some (.inl t), d2] ∧ ws = [(m_a, .inr (.inr (7, [.inr (some m_letters_a), .inr (some m_size_a), .inr (some m_kind_a), .inr (some m_cost_a), .inl m_words, .inr (some m_joins_a), .inr (some m_rules_a), .inr (some m_line_a), .inl m_long1, .inl m_signs, .inr (some m_pad_a), .inl m_readSize, .inl m_readKind, .inl m_readCost, .inr (some m_place_a), .inr (some m_length_a), .inr (some m_sort_a), .inr (some m_price_a), .inr (some m_of_a), .inr (some m_begins_a), .inl m_many, .inr (some m_rowCost_a), .inr (some m_rowNext_a), .inr (some m_rows_a), .inr (some m_ahead_a), .inr (some m_waysTo_a), .inr (some m_image_a), .inr (some m_isKept_a)]))), (m_letters_a, .inl (false, 96, m_letters)), (m_size_a, .inl (false, 16, m_size)), (m_kind_a, .inl (false, 16, m_kind)), (m_cost_a, .inl (false, 16, m_cost)), (m_joins_a, .inl (false, 25, m_joins)), (m_rules_a, .inl (false, 4, m_rules)), (m_line_a, .inl (false, 24, m_line)), (m_pad_a, .inl (false, 40, m_pad)), (m_place_a, .inl (false, 480, m_place)), (m_length_a, .inl (false, 480, m_length)), (m_sort_a, .inl (false, 480, m_sort)), (m_price_a, .inl (false, 480, m_price)), (m_of_a, .inl (false, 480, m_of)), (m_begins_a, .inl (false, 26, m_begins)), (m_rowCost_a, .inl (false, 5760, m_rowCost)), (m_rowNext_a, .inl (false, 5760, m_rowNext)), (m_rows_a, .inl (false, 480, m_rows)), (m_ahead_a, .inl (false, 480, m_ahead)), (m_waysTo_a, .inl (false, 26, m_waysTo)), (m_image_a, .inl (false, 460, m_image)), (m_isKept_a, .inl (true, 2, m_isKept))] ∧ mu_ = ((25 - t) * 1000 + 999).toNat ∧ (0 ≤ t ∧ t ≤ m_long1 + 1 ∧ m_many ≤ 480 ∧ LB m_place m_length m_sort m_long1 m_many)) → Z 0 0 16 lv [] ws) ∧ (∀ (lv : List (Option zV)) (ws : zW), (∃ (t : Int) (x : Int) (m_waysTo : Nat → Int) (m_many : Int) (m_place : Nat → Int) (m_length : Nat → Int) (m_sort : Nat → Int) (m_price : Nat → Int) (m_of : Nat → Int) (m_begins : Nat → Int), lv = [some (.inr (some m_a)), some (.inl t), some (.inl x)] ∧ ws = [(m_a, .inr (.inr (7, [.inr (some m_letters_a), .inr (some m_size_a), .inr (some m_kind_a), .inr (some m_cost_a), .inl m_words, .inr (some m_joins_a), .inr (some m_rules_a), .inr (some m_line_a), .inl m_long1, .inl m_signs, .inr (some m_pad_a), .inl m_readSize, .inl m_readKind, .inl m_readCost, .inr (some m_place_a), .inr (some m_length_a), .inr (some m_sort_a), .inr (some m_price_a), .inr (some m_of_a), .inr (some m_begins_a), .inl m_many, .inr (some m_rowCost_a), .inr (some m_rowNext_a), .inr (some m_rows_a), .inr (some m_ahead_a), .inr (some m_waysTo_a), .inr (some m_image_a), .inr (some m_isKept_a)]))), (m_letters_a, .inl (false, 96, m_letters)), (m_size_a, .inl (false, 16, m_size)), (m_kind_a, .inl (false, 16, m_kind)), (m_cost_a, .inl (false, 16, m_cost)), (m_joins_a, .inl (false, 25, m_joins)), (m_rules_a, .inl (false, 4, m_rules)), (m_line_a, .inl (false, 24, m_line)), (m_pad_a, .inl (false, 40, m_pad)), (m_place_a, .inl (false, 480, m_place)), (m_length_a, .inl (false, 480, m_length)), (m_sort_a, .inl (false, 480, m_sort)), (m_price_a, .inl (false, 480, m_price)), (m_of_a, .inl (false, 480, m_of)), (m_begins_a, .inl (false, 26, m_begins)), (m_rowCost_a, .inl (false, 5760, m_rowCost)), (m_rowNext_a, .inl (false, 5760, m_rowNext)), (m_rows_a, .inl (false, 480, m_rows)), (m_ahead_a, .inl (false, 480, m_ahead)), (m_waysTo_a, .inl (false, 26, m_waysTo)), (m_image_a, .inl (false, 460, m_image)), (m_isKept_a, .inl (true, 2, m_isKept))] ∧ mu_ = ((25 - t) * 1000 + (480 - x)).toNat ∧ ((0 ≤ t ∧ t ≤ m_long1 ∧ 0 ≤ x ∧ x ≤ 480) ∧ m_many ≤ 480 ∧ LB m_place m_length m_sort m_long1 m_many)) → Z 0 0 41 lv [] ws) := by
    intro mu_
    induction mu_ using Nat.strongRecOn with
    | _ mu_ ih =>
      refine ⟨?_, ?_⟩
      · intro lv ws hJ
        obtain ⟨d2, t, m_waysTo, m_many, m_place, m_length, m_sort, m_price, m_of, m_begins, rfl, rfl, rfl, hi⟩ := hJ
        obtain ⟨j0, j1, j2, j3⟩ := hi
        refine B.iload_n (pc := 16) (i := 1) dX7_ways_16 rfl rfl ?_
        refine B.aload_n (pc := 17) (i := 0) dX7_ways_17 rfl rfl ?_
        refine B.getfield (pc := 18) 0 rfl rfl inX7z 8 (by decide) fl_X7_109 rfl dX7_ways_18 ?_
        refine B.icmp_gt (pc := 21) (tgt := 106) dX7_ways_21 (by decide) (fun c21 => ?_) (fun c21 => ?_)
        · refine B.aload_n (pc := 106) (i := 0) dX7_ways_106 rfl rfl ?_
          refine B.getfield (pc := 107) 0 rfl rfl inX7z 25 (by decide) fl_X7_64 rfl dX7_ways_107 ?_
          refine B.aload_n (pc := 110) (i := 0) dX7_ways_110 rfl rfl ?_
          refine B.getfield (pc := 111) 0 rfl rfl inX7z 8 (by decide) fl_X7_109 rfl dX7_ways_111 ?_
          refine B.iaload (pc := 114) 19 rfl (by omega) (by omega) dX7_ways_114 (fun r114 => ?_)
          obtain ⟨lr114, ur114⟩ := r114
          refine B.ireturn (pc := 115) (by simp) dX7_ways_115 (Nat.le_refl _) (Nat.le_refl _) (fun rz rw => ⟨_, _, _, _, _, _, _, _, rfl, ?_⟩)
          trivial
        · refine B.aload_n (pc := 24) (i := 0) dX7_ways_24 rfl rfl ?_
          refine B.getfield (pc := 25) 0 rfl rfl inX7z 25 (by decide) fl_X7_64 rfl dX7_ways_25 ?_
          refine B.iload_n (pc := 28) (i := 1) dX7_ways_28 rfl rfl ?_
          refine B.iload_n (pc := 29) (i := 1) dX7_ways_29 rfl rfl ?_
          refine B.if_ne (pc := 30) (tgt := 37) dX7_ways_30 (by decide) (fun c30 => ?_) (fun c30 => ?_)
          · refine B.iconst (pc := 37) dX7_ways_37 ⟨by decide, by decide⟩ ?_
            refine B.iastore (pc := 38) 19 rfl (by omega) (by omega) dX7_ways_38 ?_
            simp only [List.set_cons_zero, List.set_cons_succ]
            refine B.iconst (pc := 39) dX7_ways_39 ⟨by decide, by decide⟩ ?_
            refine B.istore_n (pc := 40) (i := 2) dX7_ways_40 rfl (by decide) ?_
            simp only [List.set_cons_zero, List.set_cons_succ]
            refine (ih _ ?_).2 _ _ ⟨_, _, _, _, _, _, _, _, _, _, rfl, rfl, rfl, ?_⟩
            · omega
            · exact ⟨by omega, j2, j3⟩
          · refine B.iconst (pc := 33) dX7_ways_33 ⟨by decide, by decide⟩ ?_
            refine B.goto (pc := 34) (tgt := 38) dX7_ways_34 (by decide) ?_
            refine B.iastore (pc := 38) 19 rfl (by omega) (by omega) dX7_ways_38 ?_
            simp only [List.set_cons_zero, List.set_cons_succ]
            refine B.iconst (pc := 39) dX7_ways_39 ⟨by decide, by decide⟩ ?_
            refine B.istore_n (pc := 40) (i := 2) dX7_ways_40 rfl (by decide) ?_
            simp only [List.set_cons_zero, List.set_cons_succ]
            refine (ih _ ?_).2 _ _ ⟨_, _, _, _, _, _, _, _, _, _, rfl, rfl, rfl, ?_⟩
            · omega
            · exact ⟨by omega, j2, j3⟩
      · intro lv ws hJ
        obtain ⟨t, x, m_waysTo, m_many, m_place, m_length, m_sort, m_price, m_of, m_begins, rfl, rfl, rfl, hi⟩ := hJ
        obtain ⟨j1, j2, j3⟩ := hi
        refine B.iload_n (pc := 41) (i := 2) dX7_ways_41 rfl rfl ?_
        refine B.aload_n (pc := 42) (i := 0) dX7_ways_42 rfl rfl ?_
        refine B.getfield (pc := 43) 0 rfl rfl inX7z 20 (by decide) fl_X7_112 rfl dX7_ways_43 ?_
        refine B.icmp_ge (pc := 46) (tgt := 100) dX7_ways_46 (by decide) (fun c46 => ?_) (fun c46 => ?_)
        · refine B.iinc (pc := 100) dX7_ways_100 (by decide) rfl ⟨by omega, by omega⟩ ?_
          simp only [List.set_cons_zero, List.set_cons_succ]
          refine B.goto (pc := 103) (tgt := 16) dX7_ways_103 (by decide) ?_
          refine (ih _ ?_).1 _ _ ⟨_, _, _, _, _, _, _, _, _, _, rfl, rfl, rfl, ?_⟩
          · omega
          · exact ⟨by omega, by omega, j2, j3⟩
        · have hl := j3.at (x := x) (by omega) (by omega)
          refine B.aload_n (pc := 49) (i := 0) dX7_ways_49 rfl rfl ?_
          refine B.getfield (pc := 50) 0 rfl rfl inX7z 25 (by decide) fl_X7_64 rfl dX7_ways_50 ?_
          refine B.iload_n (pc := 53) (i := 1) dX7_ways_53 rfl rfl ?_
          refine B.aload_n (pc := 54) (i := 0) dX7_ways_54 rfl rfl ?_
          refine B.iload_n (pc := 55) (i := 2) dX7_ways_55 rfl rfl ?_
          refine B.callVi (pc := 56) 1 (mX7_behind hE _ _ _ _ _ _ _ _ _ _ _ _ _ _ _ _ _ _ _ _ _ _ _ _ _ _ _ _ _ _ _ _ _ _ _ _ _ _ _ _ _ _ _ _ _ _ _ _ _ _ _) 0 rfl rfl ml_X7_130 im_X7_behind se_X7_behind it_X7 co_X7_behind (by decide +kernel) rfl rfl rfl ⟨by decide, by decide⟩ ⟨by decide, by decide⟩ [0, 1, 2, 3, 4, 5, 6, 7, 8, 9, 10, 11, 12, 13, 14, 15, 16, 17, 18, 19, 20, 21] rfl rfl rfl (Nat.le_of_ble_eq_true rfl) dX7_ways_56 (fun _ => ⟨j3, by omega, by omega, by omega, by omega⟩) (fun zk56 uk56 rzk56 ruk56 rak56 hqk56 => ?_)
          obtain ⟨lzk56, uzk56⟩ := rzk56
          obtain ⟨rfl, hk56⟩ := hqk56
          simp only [zput, List.set_cons_zero, List.set_cons_succ, List.append_nil, Nat.add_zero]
          refine B.iload_n (pc := 59) (i := 1) dX7_ways_59 rfl rfl ?_
          refine B.icmp_ne (pc := 60) (tgt := 87) dX7_ways_60 (by decide) (fun c60 => ?_) (fun c60 => ?_)
          · refine B.aload_n (pc := 87) (i := 0) dX7_ways_87 rfl rfl ?_
            refine B.getfield (pc := 88) 0 rfl rfl inX7z 25 (by decide) fl_X7_64 rfl dX7_ways_88 ?_
            refine B.iload_n (pc := 91) (i := 1) dX7_ways_91 rfl rfl ?_
            refine B.iaload (pc := 92) 19 rfl (by omega) (by omega) dX7_ways_92 (fun r92 => ?_)
            obtain ⟨lr92, ur92⟩ := r92
            refine B.iastore (pc := 93) 19 rfl (by omega) (by omega) dX7_ways_93 ?_
            simp only [List.set_cons_zero, List.set_cons_succ]
            refine B.iinc (pc := 94) dX7_ways_94 (by decide) rfl ⟨by omega, by omega⟩ ?_
            simp only [List.set_cons_zero, List.set_cons_succ]
            refine B.goto (pc := 97) (tgt := 41) dX7_ways_97 (by decide) ?_
            refine (ih _ ?_).2 _ _ ⟨_, _, _, _, _, _, _, _, _, _, rfl, rfl, rfl, ?_⟩
            · omega
            · exact ⟨by omega, j2, j3⟩
          · refine B.aload_n (pc := 63) (i := 0) dX7_ways_63 rfl rfl ?_
            refine B.getfield (pc := 64) 0 rfl rfl inX7z 25 (by decide) fl_X7_64 rfl dX7_ways_64 ?_
            refine B.iload_n (pc := 67) (i := 1) dX7_ways_67 rfl rfl ?_
            refine B.iaload (pc := 68) 19 rfl (by omega) (by omega) dX7_ways_68 (fun r68 => ?_)
            obtain ⟨lr68, ur68⟩ := r68
            refine B.aload_n (pc := 69) (i := 0) dX7_ways_69 rfl rfl ?_
            refine B.getfield (pc := 70) 0 rfl rfl inX7z 25 (by decide) fl_X7_64 rfl dX7_ways_70 ?_
            refine B.aload_n (pc := 73) (i := 0) dX7_ways_73 rfl rfl ?_
            refine B.getfield (pc := 74) 0 rfl rfl inX7z 14 (by decide) fl_X7_34 rfl dX7_ways_74 ?_
            refine B.iload_n (pc := 77) (i := 2) dX7_ways_77 rfl rfl ?_
            refine B.iaload (pc := 78) 9 rfl (by omega) (by omega) dX7_ways_78 (fun r78 => ?_)
            obtain ⟨lr78, ur78⟩ := r78
            refine B.iaload (pc := 79) 19 rfl (by omega) (by omega) dX7_ways_79 (fun r79 => ?_)
            obtain ⟨lr79, ur79⟩ := r79
            refine B.iaddw (pc := 80) dX7_ways_80 (fun w80 rw80 ew80 => ?_)
            obtain ⟨lw80, uw80⟩ := rw80
            refine B.ldc (pc := 81) (n := 1000003) dX7_ways_81 cn_X7_142 ⟨by decide, by decide⟩ ?_
            refine B.iremw (pc := 83) dX7_ways_83 (by decide) (fun w83 rw83 ew83 => ?_)
            obtain ⟨lw83, uw83⟩ := rw83
            refine B.goto (pc := 84) (tgt := 93) dX7_ways_84 (by decide) ?_
            refine B.iastore (pc := 93) 19 rfl (by omega) (by omega) dX7_ways_93 ?_
            simp only [List.set_cons_zero, List.set_cons_succ]
            refine B.iinc (pc := 94) dX7_ways_94 (by decide) rfl ⟨by omega, by omega⟩ ?_
            simp only [List.set_cons_zero, List.set_cons_succ]
            refine B.goto (pc := 97) (tgt := 41) dX7_ways_97 (by decide) ?_
            refine (ih _ ?_).2 _ _ ⟨_, _, _, _, _, _, _, _, _, _, rfl, rfl, rfl, ?_⟩
            · omega
            · exact ⟨by omega, j2, j3⟩
  show Z 0 0 0 [some (.inr (some m_a)), none, none] [] _
  refine B.aload_n (pc := 0) (i := 0) dX7_ways_0 rfl rfl ?_
  refine B.getfield (pc := 1) 0 rfl rfl inX7z 8 (by decide) fl_X7_109 rfl dX7_ways_1 ?_
  refine B.if_ne (pc := 4) (tgt := 10) dX7_ways_4 (by decide) (fun c4 => ?_) (fun c4 => ?_)
  · refine B.aload_n (pc := 10) (i := 0) dX7_ways_10 rfl rfl ?_
    refine B.callVv (pc := 11) 0 (mX7_layPieces hE _ _ _ _ _ _ _ _ _ _ _ _ _ _ _ _ _ _ _ _ _ _ _ _ _ _ _ _ _ _ _ _ _ _ _ _ _ _ _ _ _ _ _ _ _ _ _ _ _ _) 0 rfl rfl ml_X7_127 im_X7_layPieces se_X7_layPieces it_X7 co_X7_layPieces (by decide +kernel) rfl rfl rfl ⟨by decide, by decide⟩ ⟨by decide, by decide⟩ [0, 1, 2, 3, 4, 5, 6, 7, 8, 9, 10, 11, 12, 13, 14, 15, 16, 17, 18, 19, 20, 21] rfl rfl rfl (Nat.le_of_ble_eq_true rfl) dX7_ways_11 (fun _ => ⟨h1, h2⟩) (fun uk11 ruk11 rak11 hqk11 => ?_)
    obtain ⟨m_many_k11, m_place_k11, m_length_k11, m_sort_k11, m_price_k11, m_of_k11, m_begins_k11, rfl, hk11⟩ := hqk11
    simp only [zput, List.set_cons_zero, List.set_cons_succ, List.append_nil, Nat.add_zero]
    refine B.iconst (pc := 14) dX7_ways_14 ⟨by decide, by decide⟩ ?_
    refine B.istore_n (pc := 15) (i := 1) dX7_ways_15 rfl (by decide) ?_
    simp only [List.set_cons_zero, List.set_cons_succ]
    refine (key _).1 _ _ ⟨_, _, _, _, _, _, _, _, _, _, rfl, rfl, rfl, ?_⟩
    exact ⟨by omega, by omega, hk11.2.1, hk11.2.2.1⟩
  · refine B.bipush (pc := 7) dX7_ways_7 ⟨by decide, by decide⟩ ?_
    refine B.ireturn (pc := 9) (by simp) dX7_ways_9 (Nat.le_refl _) (Nat.le_refl _) (fun rz rw => ⟨_, _, _, _, _, _, _, _, rfl, ?_⟩)
    trivial
set_option maxHeartbeats 4000000 in
set_option maxRecDepth 100000 in
theorem mX7_piece {l : Launch} {D : va_G} {k : zK} {E : zE} (hE : zEok E) (m_a m_letters_a m_size_a m_kind_a m_cost_a m_joins_a m_rules_a m_line_a m_pad_a m_place_a m_length_a m_sort_a m_price_a m_of_a m_begins_a m_rowCost_a m_rowNext_a m_rows_a m_ahead_a m_waysTo_a m_image_a m_isKept_a : Nat) (m_words m_long1 m_signs m_readSize m_readKind m_readCost m_many i what : Int) (m_letters m_size m_kind m_cost m_joins m_rules m_line m_pad m_place m_length m_sort m_price m_of m_begins m_rowCost m_rowNext m_rows m_ahead m_waysTo m_image m_isKept : Nat → Int) : zMi l D k E yX7_piece cX7_piece 3 .int { frames := 3, cells := 0, slots := 0, locals := 84 } 0 0 [.inr (some m_a), .inl i, .inl what] [(m_a, .inr (.inr (7, [.inr (some m_letters_a), .inr (some m_size_a), .inr (some m_kind_a), .inr (some m_cost_a), .inl m_words, .inr (some m_joins_a), .inr (some m_rules_a), .inr (some m_line_a), .inl m_long1, .inl m_signs, .inr (some m_pad_a), .inl m_readSize, .inl m_readKind, .inl m_readCost, .inr (some m_place_a), .inr (some m_length_a), .inr (some m_sort_a), .inr (some m_price_a), .inr (some m_of_a), .inr (some m_begins_a), .inl m_many, .inr (some m_rowCost_a), .inr (some m_rowNext_a), .inr (some m_rows_a), .inr (some m_ahead_a), .inr (some m_waysTo_a), .inr (some m_image_a), .inr (some m_isKept_a)]))), (m_letters_a, .inl (false, 96, m_letters)), (m_size_a, .inl (false, 16, m_size)), (m_kind_a, .inl (false, 16, m_kind)), (m_cost_a, .inl (false, 16, m_cost)), (m_joins_a, .inl (false, 25, m_joins)), (m_rules_a, .inl (false, 4, m_rules)), (m_line_a, .inl (false, 24, m_line)), (m_pad_a, .inl (false, 40, m_pad)), (m_place_a, .inl (false, 480, m_place)), (m_length_a, .inl (false, 480, m_length)), (m_sort_a, .inl (false, 480, m_sort)), (m_price_a, .inl (false, 480, m_price)), (m_of_a, .inl (false, 480, m_of)), (m_begins_a, .inl (false, 26, m_begins)), (m_rowCost_a, .inl (false, 5760, m_rowCost)), (m_rowNext_a, .inl (false, 5760, m_rowNext)), (m_rows_a, .inl (false, 480, m_rows)), (m_ahead_a, .inl (false, 480, m_ahead)), (m_waysTo_a, .inl (false, 26, m_waysTo)), (m_image_a, .inl (false, 460, m_image)), (m_isKept_a, .inl (true, 2, m_isKept))] (MI m_words m_size m_kind m_cost m_joins m_rules m_long1 m_signs m_image m_isKept) (fun z u => ∃ (m_many' : Int) (m_place' : Nat → Int) (m_length' : Nat → Int) (m_sort' : Nat → Int) (m_price' : Nat → Int) (m_of' : Nat → Int) (m_begins' : Nat → Int) (m_rows' : Nat → Int) (m_rowCost' : Nat → Int) (m_rowNext' : Nat → Int) (m_ahead' : Nat → Int), u = [(m_a, .inr (.inr (7, [.inr (some m_letters_a), .inr (some m_size_a), .inr (some m_kind_a), .inr (some m_cost_a), .inl m_words, .inr (some m_joins_a), .inr (some m_rules_a), .inr (some m_line_a), .inl m_long1, .inl m_signs, .inr (some m_pad_a), .inl m_readSize, .inl m_readKind, .inl m_readCost, .inr (some m_place_a), .inr (some m_length_a), .inr (some m_sort_a), .inr (some m_price_a), .inr (some m_of_a), .inr (some m_begins_a), .inl m_many', .inr (some m_rowCost_a), .inr (some m_rowNext_a), .inr (some m_rows_a), .inr (some m_ahead_a), .inr (some m_waysTo_a), .inr (some m_image_a), .inr (some m_isKept_a)]))), (m_letters_a, .inl (false, 96, m_letters)), (m_size_a, .inl (false, 16, m_size)), (m_kind_a, .inl (false, 16, m_kind)), (m_cost_a, .inl (false, 16, m_cost)), (m_joins_a, .inl (false, 25, m_joins)), (m_rules_a, .inl (false, 4, m_rules)), (m_line_a, .inl (false, 24, m_line)), (m_pad_a, .inl (false, 40, m_pad)), (m_place_a, .inl (false, 480, m_place')), (m_length_a, .inl (false, 480, m_length')), (m_sort_a, .inl (false, 480, m_sort')), (m_price_a, .inl (false, 480, m_price')), (m_of_a, .inl (false, 480, m_of')), (m_begins_a, .inl (false, 26, m_begins')), (m_rowCost_a, .inl (false, 5760, m_rowCost')), (m_rowNext_a, .inl (false, 5760, m_rowNext')), (m_rows_a, .inl (false, 480, m_rows')), (m_ahead_a, .inl (false, 480, m_ahead')), (m_waysTo_a, .inl (false, 26, m_waysTo)), (m_image_a, .inl (false, 460, m_image)), (m_isKept_a, .inl (true, 2, m_isKept))] ∧ (True)) := by
  refine zMi.of RX7 hE (by decide) rfl (by simp) (fun _ _ _ _ => rfl) ?_
  intro Z hP hav hwr B
  obtain ⟨l_i, u_i⟩ : zR i := hav (.inl i) (by simp)
  obtain ⟨l_what, u_what⟩ : zR what := hav (.inl what) (by simp)
  obtain ⟨l_m_words, u_m_words⟩ : zR m_words := zWr_at hwr (i := 0) rfl (.inl m_words) (by simp)
  obtain ⟨l_m_long1, u_m_long1⟩ : zR m_long1 := zWr_at hwr (i := 0) rfl (.inl m_long1) (by simp)
  obtain ⟨l_m_signs, u_m_signs⟩ : zR m_signs := zWr_at hwr (i := 0) rfl (.inl m_signs) (by simp)
  obtain ⟨l_m_readSize, u_m_readSize⟩ : zR m_readSize := zWr_at hwr (i := 0) rfl (.inl m_readSize) (by simp)
  obtain ⟨l_m_readKind, u_m_readKind⟩ : zR m_readKind := zWr_at hwr (i := 0) rfl (.inl m_readKind) (by simp)
  obtain ⟨l_m_readCost, u_m_readCost⟩ : zR m_readCost := zWr_at hwr (i := 0) rfl (.inl m_readCost) (by simp)
  obtain ⟨l_m_many, u_m_many⟩ : zR m_many := zWr_at hwr (i := 0) rfl (.inl m_many) (by simp)
  obtain ⟨h1, h2, h3, h4, h5⟩ := id hP
  obtain ⟨h1a, h1b, h1c⟩ := id h1
  obtain ⟨h2a, h2b⟩ := id h2
  show Z 0 0 0 [some (.inr (some m_a)), some (.inl i), some (.inl what)] [] _
  refine B.aload_n (pc := 0) (i := 0) dX7_piece_0 rfl rfl ?_
  refine B.getfield (pc := 1) 0 rfl rfl inX7z 8 (by decide) fl_X7_109 rfl dX7_piece_1 ?_
  refine B.if_ne (pc := 4) (tgt := 10) dX7_piece_4 (by decide) (fun c4 => ?_) (fun c4 => ?_)
  · refine B.aload_n (pc := 10) (i := 0) dX7_piece_10 rfl rfl ?_
    refine B.callVv (pc := 11) 0 (mX7_layRows hE _ _ _ _ _ _ _ _ _ _ _ _ _ _ _ _ _ _ _ _ _ _ _ _ _ _ _ _ _ _ _ _ _ _ _ _ _ _ _ _ _ _ _ _ _ _ _ _ _ _) 0 rfl rfl ml_X7_136 im_X7_layRows se_X7_layRows it_X7 co_X7_layRows (by decide +kernel) rfl rfl rfl ⟨by decide, by decide⟩ ⟨by decide, by decide⟩ [0, 1, 2, 3, 4, 5, 6, 7, 8, 9, 10, 11, 12, 13, 14, 15, 16, 17, 18, 19, 20, 21] rfl rfl rfl (Nat.le_of_ble_eq_true rfl) dX7_piece_11 (fun _ => ⟨h1, h2⟩) (fun uk11 ruk11 rak11 hqk11 => ?_)
    obtain ⟨m_many_k11, m_place_k11, m_length_k11, m_sort_k11, m_price_k11, m_of_k11, m_begins_k11, m_rows_k11, m_rowCost_k11, m_rowNext_k11, rfl, hk11⟩ := hqk11
    simp only [zput, List.set_cons_zero, List.set_cons_succ, List.append_nil, Nat.add_zero]
    obtain ⟨a1, a2, a3, a4, a5, a6, a7⟩ := hk11
    refine B.iload_n (pc := 14) (i := 1) dX7_piece_14 rfl rfl ?_
    refine B.iconst (pc := 15) dX7_piece_15 ⟨by decide, by decide⟩ ?_
    refine B.aload_n (pc := 16) (i := 0) dX7_piece_16 rfl rfl ?_
    refine B.getfield (pc := 17) 0 rfl rfl inX7z 20 (by decide) fl_X7_112 rfl dX7_piece_17 ?_
    refine B.iconst (pc := 20) dX7_piece_20 ⟨by decide, by decide⟩ ?_
    refine B.isub (pc := 21) dX7_piece_21 ⟨by omega, by omega⟩ ?_
    refine B.callSi (pc := 22) 3 (mX7_in hE _ _ _) ml_X7_74 sm_X7_in it_X7 co_X7_in (by decide +kernel) rfl rfl rfl ⟨by decide, by decide⟩ ⟨by decide, by decide⟩ [] rfl rfl rfl (Nat.le_of_ble_eq_true rfl) dX7_piece_22 (fun _ => trivial) (fun zk22 uk22 rzk22 ruk22 rak22 hqk22 => ?_)
    obtain ⟨lzk22, uzk22⟩ := rzk22
    obtain ⟨rfl, hk22⟩ := hqk22
    simp only [zput, List.append_nil, Nat.add_zero]
    refine B.if_ne (pc := 25) (tgt := 30) dX7_piece_25 (by decide) (fun c25 => ?_) (fun c25 => ?_)
    · refine B.iload_n (pc := 30) (i := 2) dX7_piece_30 rfl rfl ?_
      refine zsplitE (X := fun v => Z _ _ 31 _ (.inl v :: _) _) (0) (fun e31_0 => ?_) (fun c31_0 => ?_)
      · refine B.tsIn (pc := 31) (tgt := 64) dX7_piece_31 (by decide) (by decide) rfl (by decide) ?_
        refine B.aload_n (pc := 64) (i := 0) dX7_piece_64 rfl rfl ?_
        refine B.getfield (pc := 65) 0 rfl rfl inX7z 14 (by decide) fl_X7_34 rfl dX7_piece_65 ?_
        refine B.iload_n (pc := 68) (i := 1) dX7_piece_68 rfl rfl ?_
        refine B.iaload (pc := 69) 9 rfl (by omega) (by omega) dX7_piece_69 (fun r69 => ?_)
        obtain ⟨lr69, ur69⟩ := r69
        refine B.ireturn (pc := 70) (by simp) dX7_piece_70 (Nat.le_refl _) (Nat.le_refl _) (fun rz rw => ⟨_, _, _, _, _, _, _, _, _, _, _, rfl, ?_⟩)
        trivial
      refine zsplitE (X := fun v => Z _ _ 31 _ (.inl v :: _) _) (1) (fun e31_1 => ?_) (fun c31_1 => ?_)
      · refine B.tsIn (pc := 31) (tgt := 71) dX7_piece_31 (by decide) (by decide) rfl (by decide) ?_
        refine B.aload_n (pc := 71) (i := 0) dX7_piece_71 rfl rfl ?_
        refine B.getfield (pc := 72) 0 rfl rfl inX7z 15 (by decide) fl_X7_37 rfl dX7_piece_72 ?_
        refine B.iload_n (pc := 75) (i := 1) dX7_piece_75 rfl rfl ?_
        refine B.iaload (pc := 76) 10 rfl (by omega) (by omega) dX7_piece_76 (fun r76 => ?_)
        obtain ⟨lr76, ur76⟩ := r76
        refine B.ireturn (pc := 77) (by simp) dX7_piece_77 (Nat.le_refl _) (Nat.le_refl _) (fun rz rw => ⟨_, _, _, _, _, _, _, _, _, _, _, rfl, ?_⟩)
        trivial
      refine zsplitE (X := fun v => Z _ _ 31 _ (.inl v :: _) _) (2) (fun e31_2 => ?_) (fun c31_2 => ?_)
      · refine B.tsIn (pc := 31) (tgt := 78) dX7_piece_31 (by decide) (by decide) rfl (by decide) ?_
        refine B.aload_n (pc := 78) (i := 0) dX7_piece_78 rfl rfl ?_
        refine B.getfield (pc := 79) 0 rfl rfl inX7z 16 (by decide) fl_X7_40 rfl dX7_piece_79 ?_
        refine B.iload_n (pc := 82) (i := 1) dX7_piece_82 rfl rfl ?_
        refine B.iaload (pc := 83) 11 rfl (by omega) (by omega) dX7_piece_83 (fun r83 => ?_)
        obtain ⟨lr83, ur83⟩ := r83
        refine B.ireturn (pc := 84) (by simp) dX7_piece_84 (Nat.le_refl _) (Nat.le_refl _) (fun rz rw => ⟨_, _, _, _, _, _, _, _, _, _, _, rfl, ?_⟩)
        trivial
      refine zsplitE (X := fun v => Z _ _ 31 _ (.inl v :: _) _) (3) (fun e31_3 => ?_) (fun c31_3 => ?_)
      · refine B.tsIn (pc := 31) (tgt := 85) dX7_piece_31 (by decide) (by decide) rfl (by decide) ?_
        refine B.aload_n (pc := 85) (i := 0) dX7_piece_85 rfl rfl ?_
        refine B.getfield (pc := 86) 0 rfl rfl inX7z 17 (by decide) fl_X7_43 rfl dX7_piece_86 ?_
        refine B.iload_n (pc := 89) (i := 1) dX7_piece_89 rfl rfl ?_
        refine B.iaload (pc := 90) 12 rfl (by omega) (by omega) dX7_piece_90 (fun r90 => ?_)
        obtain ⟨lr90, ur90⟩ := r90
        refine B.ireturn (pc := 91) (by simp) dX7_piece_91 (Nat.le_refl _) (Nat.le_refl _) (fun rz rw => ⟨_, _, _, _, _, _, _, _, _, _, _, rfl, ?_⟩)
        trivial
      refine zsplitE (X := fun v => Z _ _ 31 _ (.inl v :: _) _) (4) (fun e31_4 => ?_) (fun c31_4 => ?_)
      · refine B.tsIn (pc := 31) (tgt := 92) dX7_piece_31 (by decide) (by decide) rfl (by decide) ?_
        refine B.aload_n (pc := 92) (i := 0) dX7_piece_92 rfl rfl ?_
        refine B.getfield (pc := 93) 0 rfl rfl inX7z 18 (by decide) fl_X7_46 rfl dX7_piece_93 ?_
        refine B.iload_n (pc := 96) (i := 1) dX7_piece_96 rfl rfl ?_
        refine B.iaload (pc := 97) 13 rfl (by omega) (by omega) dX7_piece_97 (fun r97 => ?_)
        obtain ⟨lr97, ur97⟩ := r97
        refine B.ireturn (pc := 98) (by simp) dX7_piece_98 (Nat.le_refl _) (Nat.le_refl _) (fun rz rw => ⟨_, _, _, _, _, _, _, _, _, _, _, rfl, ?_⟩)
        trivial
      refine B.tsOut (pc := 31) (tgt := 99) dX7_piece_31 (by omega) (by decide) ?_
      refine B.iload_n (pc := 99) (i := 2) dX7_piece_99 rfl rfl ?_
      refine B.iconst (pc := 100) dX7_piece_100 ⟨by decide, by decide⟩ ?_
      refine B.icmp_ne (pc := 101) (tgt := 112) dX7_piece_101 (by decide) (fun c101 => ?_) (fun c101 => ?_)
      · refine B.bipush (pc := 112) dX7_piece_112 ⟨by decide, by decide⟩ ?_
        refine B.ireturn (pc := 114) (by simp) dX7_piece_114 (Nat.le_refl _) (Nat.le_refl _) (fun rz rw => ⟨_, _, _, _, _, _, _, _, _, _, _, rfl, ?_⟩)
        trivial
      · refine B.aload_n (pc := 104) (i := 0) dX7_piece_104 rfl rfl ?_
        refine B.iload_n (pc := 105) (i := 1) dX7_piece_105 rfl rfl ?_
        refine B.callVi (pc := 106) 1 (mX7_leastOf hE _ _ _ _ _ _ _ _ _ _ _ _ _ _ _ _ _ _ _ _ _ _ _ _ _ _ _ _ _ _ _ _ _ _ _ _ _ _ _ _ _ _ _ _ _ _ _ _ _ _ _) 0 rfl rfl ml_X7_139 im_X7_leastOf se_X7_leastOf it_X7 co_X7_leastOf (by decide +kernel) rfl rfl rfl ⟨by decide, by decide⟩ ⟨by decide, by decide⟩ [0, 1, 2, 3, 4, 5, 6, 7, 8, 9, 10, 11, 12, 13, 14, 15, 16, 17, 18, 19, 20, 21] rfl rfl rfl (Nat.le_of_ble_eq_true rfl) dX7_piece_106 (fun _ => ⟨a1, a2, a3, a4, a5, a6, a7, by omega, by omega, by omega⟩) (fun zk106 uk106 rzk106 ruk106 rak106 hqk106 => ?_)
        obtain ⟨lzk106, uzk106⟩ := rzk106
        obtain ⟨m_ahead_k106, rfl, hk106⟩ := hqk106
        simp only [zput, List.set_cons_zero, List.set_cons_succ, List.append_nil, Nat.add_zero]
        refine B.goto (pc := 109) (tgt := 114) dX7_piece_109 (by decide) ?_
        refine B.ireturn (pc := 114) (by simp) dX7_piece_114 (Nat.le_refl _) (Nat.le_refl _) (fun rz rw => ⟨_, _, _, _, _, _, _, _, _, _, _, rfl, ?_⟩)
        trivial
    · refine B.iconst (pc := 28) dX7_piece_28 ⟨by decide, by decide⟩ ?_
      refine B.ireturn (pc := 29) (by simp) dX7_piece_29 (Nat.le_refl _) (Nat.le_refl _) (fun rz rw => ⟨_, _, _, _, _, _, _, _, _, _, _, rfl, ?_⟩)
      trivial
  · refine B.bipush (pc := 7) dX7_piece_7 ⟨by decide, by decide⟩ ?_
    refine B.ireturn (pc := 9) (by simp) dX7_piece_9 (Nat.le_refl _) (Nat.le_refl _) (fun rz rw => ⟨_, _, _, _, _, _, _, _, _, _, _, rfl, ?_⟩)
    trivial
