set_option maxHeartbeats 4000000 in
set_option maxRecDepth 100000 in
theorem mX7_layPieces {l : Launch} {D : va_G} {k : zK} {E : zE} (hE : zEok E) (m_a m_letters_a m_size_a m_kind_a m_cost_a m_joins_a m_rules_a m_line_a m_pad_a m_place_a m_length_a m_sort_a m_price_a m_of_a m_begins_a m_rowCost_a m_rowNext_a m_rows_a m_ahead_a m_waysTo_a m_image_a m_isKept_a : Nat) (m_words m_long1 m_signs m_readSize m_readKind m_readCost m_many : Int) (m_letters m_size m_kind m_cost m_joins m_rules m_line m_pad m_place m_length m_sort m_price m_of m_begins m_rowCost m_rowNext m_rows m_ahead m_waysTo m_image m_isKept : Nat → Int) : zMv l D k E yX7_layPieces cX7_layPieces 8 { frames := 1, cells := 0, slots := 0, locals := 25 } 0 0 [.inr (some m_a)] [(m_a, .inr (.inr (7, [.inr (some m_letters_a), .inr (some m_size_a), .inr (some m_kind_a), .inr (some m_cost_a), .inl m_words, .inr (some m_joins_a), .inr (some m_rules_a), .inr (some m_line_a), .inl m_long1, .inl m_signs, .inr (some m_pad_a), .inl m_readSize, .inl m_readKind, .inl m_readCost, .inr (some m_place_a), .inr (some m_length_a), .inr (some m_sort_a), .inr (some m_price_a), .inr (some m_of_a), .inr (some m_begins_a), .inl m_many, .inr (some m_rowCost_a), .inr (some m_rowNext_a), .inr (some m_rows_a), .inr (some m_ahead_a), .inr (some m_waysTo_a), .inr (some m_image_a), .inr (some m_isKept_a)]))), (m_letters_a, .inl (false, 96, m_letters)), (m_size_a, .inl (false, 16, m_size)), (m_kind_a, .inl (false, 16, m_kind)), (m_cost_a, .inl (false, 16, m_cost)), (m_joins_a, .inl (false, 25, m_joins)), (m_rules_a, .inl (false, 4, m_rules)), (m_line_a, .inl (false, 24, m_line)), (m_pad_a, .inl (false, 40, m_pad)), (m_place_a, .inl (false, 480, m_place)), (m_length_a, .inl (false, 480, m_length)), (m_sort_a, .inl (false, 480, m_sort)), (m_price_a, .inl (false, 480, m_price)), (m_of_a, .inl (false, 480, m_of)), (m_begins_a, .inl (false, 26, m_begins)), (m_rowCost_a, .inl (false, 5760, m_rowCost)), (m_rowNext_a, .inl (false, 5760, m_rowNext)), (m_rows_a, .inl (false, 480, m_rows)), (m_ahead_a, .inl (false, 480, m_ahead)), (m_waysTo_a, .inl (false, 26, m_waysTo)), (m_image_a, .inl (false, 460, m_image)), (m_isKept_a, .inl (true, 2, m_isKept))] (DI m_words m_size m_kind m_cost ∧ BI m_joins m_rules m_long1) (fun z u => ∃ (m_many' : Int) (m_place' : Nat → Int) (m_length' : Nat → Int) (m_sort' : Nat → Int) (m_price' : Nat → Int) (m_of' : Nat → Int) (m_begins' : Nat → Int), u = [(m_a, .inr (.inr (7, [.inr (some m_letters_a), .inr (some m_size_a), .inr (some m_kind_a), .inr (some m_cost_a), .inl m_words, .inr (some m_joins_a), .inr (some m_rules_a), .inr (some m_line_a), .inl m_long1, .inl m_signs, .inr (some m_pad_a), .inl m_readSize, .inl m_readKind, .inl m_readCost, .inr (some m_place_a), .inr (some m_length_a), .inr (some m_sort_a), .inr (some m_price_a), .inr (some m_of_a), .inr (some m_begins_a), .inl m_many', .inr (some m_rowCost_a), .inr (some m_rowNext_a), .inr (some m_rows_a), .inr (some m_ahead_a), .inr (some m_waysTo_a), .inr (some m_image_a), .inr (some m_isKept_a)]))), (m_letters_a, .inl (false, 96, m_letters)), (m_size_a, .inl (false, 16, m_size)), (m_kind_a, .inl (false, 16, m_kind)), (m_cost_a, .inl (false, 16, m_cost)), (m_joins_a, .inl (false, 25, m_joins)), (m_rules_a, .inl (false, 4, m_rules)), (m_line_a, .inl (false, 24, m_line)), (m_pad_a, .inl (false, 40, m_pad)), (m_place_a, .inl (false, 480, m_place')), (m_length_a, .inl (false, 480, m_length')), (m_sort_a, .inl (false, 480, m_sort')), (m_price_a, .inl (false, 480, m_price')), (m_of_a, .inl (false, 480, m_of')), (m_begins_a, .inl (false, 26, m_begins')), (m_rowCost_a, .inl (false, 5760, m_rowCost)), (m_rowNext_a, .inl (false, 5760, m_rowNext)), (m_rows_a, .inl (false, 480, m_rows)), (m_ahead_a, .inl (false, 480, m_ahead)), (m_waysTo_a, .inl (false, 26, m_waysTo)), (m_image_a, .inl (false, 460, m_image)), (m_isKept_a, .inl (true, 2, m_isKept))] ∧ (0 ≤ m_many' ∧ m_many' ≤ 480 ∧ LB m_place' m_length' m_sort' m_long1 m_many' ∧ NF m_place' m_length' m_begins' m_long1 ∧ BE m_begins' m_long1 m_many' ∧ m_begins' m_long1.toNat = m_many')) := by
  refine zMv.of RX7 hE (by decide) rfl (by simp) ?_
  intro Z hP hav hwr B
  obtain ⟨l_m_words, u_m_words⟩ : zR m_words := zWr_at hwr (i := 0) rfl (.inl m_words) (by simp)
  obtain ⟨l_m_long1, u_m_long1⟩ : zR m_long1 := zWr_at hwr (i := 0) rfl (.inl m_long1) (by simp)
  obtain ⟨l_m_signs, u_m_signs⟩ : zR m_signs := zWr_at hwr (i := 0) rfl (.inl m_signs) (by simp)
  obtain ⟨l_m_readSize, u_m_readSize⟩ : zR m_readSize := zWr_at hwr (i := 0) rfl (.inl m_readSize) (by simp)
  obtain ⟨l_m_readKind, u_m_readKind⟩ : zR m_readKind := zWr_at hwr (i := 0) rfl (.inl m_readKind) (by simp)
  obtain ⟨l_m_readCost, u_m_readCost⟩ : zR m_readCost := zWr_at hwr (i := 0) rfl (.inl m_readCost) (by simp)
  obtain ⟨l_m_many, u_m_many⟩ : zR m_many := zWr_at hwr (i := 0) rfl (.inl m_many) (by simp)
  obtain ⟨hD, hB⟩ := hP
  obtain ⟨hD1, hD2, hD3⟩ := id hD
  obtain ⟨hB0, hB1⟩ := id hB
  have er0 : m_rules (0 : Int).toNat = m_rules 0 := rfl
  have er1 : m_rules (1 : Int).toNat = m_rules 1 := rfl
  have er2 : m_rules (2 : Int).toNat = m_rules 2 := rfl
  have er3 : m_rules (3 : Int).toNat = m_rules 3 := rfl
  have key : ∀ mu_ : Nat, (∀ (lv : List (Option zV)) (ws : zW), (∃ (d2 : Option zV) (d3 : Option zV) (d4 : Option zV) (d5 : Option zV) (d6 : Option zV) (d7 : Option zV) (t : Int) (m_many : Int) (m_place : Nat → Int) (m_length : Nat → Int) (m_sort : Nat → Int) (m_price : Nat → Int) (m_of : Nat → Int) (m_begins : Nat → Int), lv = [some (.inr (some m_a)), some (.inl t), d2, d3, d4, d5, d6, d7] ∧ ws = [(m_a, .inr (.inr (7, [.inr (some m_letters_a), .inr (some m_size_a), .inr (some m_kind_a), .inr (some m_cost_a), .inl m_words, .inr (some m_joins_a), .inr (some m_rules_a), .inr (some m_line_a), .inl m_long1, .inl m_signs, .inr (some m_pad_a), .inl m_readSize, .inl m_readKind, .inl m_readCost, .inr (some m_place_a), .inr (some m_length_a), .inr (some m_sort_a), .inr (some m_price_a), .inr (some m_of_a), .inr (some m_begins_a), .inl m_many, .inr (some m_rowCost_a), .inr (some m_rowNext_a), .inr (some m_rows_a), .inr (some m_ahead_a), .inr (some m_waysTo_a), .inr (some m_image_a), .inr (some m_isKept_a)]))), (m_letters_a, .inl (false, 96, m_letters)), (m_size_a, .inl (false, 16, m_size)), (m_kind_a, .inl (false, 16, m_kind)), (m_cost_a, .inl (false, 16, m_cost)), (m_joins_a, .inl (false, 25, m_joins)), (m_rules_a, .inl (false, 4, m_rules)), (m_line_a, .inl (false, 24, m_line)), (m_pad_a, .inl (false, 40, m_pad)), (m_place_a, .inl (false, 480, m_place)), (m_length_a, .inl (false, 480, m_length)), (m_sort_a, .inl (false, 480, m_sort)), (m_price_a, .inl (false, 480, m_price)), (m_of_a, .inl (false, 480, m_of)), (m_begins_a, .inl (false, 26, m_begins)), (m_rowCost_a, .inl (false, 5760, m_rowCost)), (m_rowNext_a, .inl (false, 5760, m_rowNext)), (m_rows_a, .inl (false, 480, m_rows)), (m_ahead_a, .inl (false, 480, m_ahead)), (m_waysTo_a, .inl (false, 26, m_waysTo)), (m_image_a, .inl (false, 460, m_image)), (m_isKept_a, .inl (true, 2, m_isKept))] ∧ mu_ = ((m_long1 - t) * 100000 + 99999).toNat ∧ (NP m_place m_length m_begins t m_many ∧ LB m_place m_length m_sort m_long1 m_many ∧ 0 ≤ t ∧ t ≤ m_long1 ∧ 0 ≤ m_many ∧ m_many ≤ 20 * t)) → Z 0 0 7 lv [] ws) ∧ (∀ (lv : List (Option zV)) (ws : zW), (∃ (d3 : Option zV) (d4 : Option zV) (d5 : Option zV) (d6 : Option zV) (d7 : Option zV) (t : Int) (run : Int) (m_many : Int) (m_place : Nat → Int) (m_length : Nat → Int) (m_sort : Nat → Int) (m_price : Nat → Int) (m_of : Nat → Int) (m_begins : Nat → Int), lv = [some (.inr (some m_a)), some (.inl t), some (.inl run), d3, d4, d5, d6, d7] ∧ ws = [(m_a, .inr (.inr (7, [.inr (some m_letters_a), .inr (some m_size_a), .inr (some m_kind_a), .inr (some m_cost_a), .inl m_words, .inr (some m_joins_a), .inr (some m_rules_a), .inr (some m_line_a), .inl m_long1, .inl m_signs, .inr (some m_pad_a), .inl m_readSize, .inl m_readKind, .inl m_readCost, .inr (some m_place_a), .inr (some m_length_a), .inr (some m_sort_a), .inr (some m_price_a), .inr (some m_of_a), .inr (some m_begins_a), .inl m_many, .inr (some m_rowCost_a), .inr (some m_rowNext_a), .inr (some m_rows_a), .inr (some m_ahead_a), .inr (some m_waysTo_a), .inr (some m_image_a), .inr (some m_isKept_a)]))), (m_letters_a, .inl (false, 96, m_letters)), (m_size_a, .inl (false, 16, m_size)), (m_kind_a, .inl (false, 16, m_kind)), (m_cost_a, .inl (false, 16, m_cost)), (m_joins_a, .inl (false, 25, m_joins)), (m_rules_a, .inl (false, 4, m_rules)), (m_line_a, .inl (false, 24, m_line)), (m_pad_a, .inl (false, 40, m_pad)), (m_place_a, .inl (false, 480, m_place)), (m_length_a, .inl (false, 480, m_length)), (m_sort_a, .inl (false, 480, m_sort)), (m_price_a, .inl (false, 480, m_price)), (m_of_a, .inl (false, 480, m_of)), (m_begins_a, .inl (false, 26, m_begins)), (m_rowCost_a, .inl (false, 5760, m_rowCost)), (m_rowNext_a, .inl (false, 5760, m_rowNext)), (m_rows_a, .inl (false, 480, m_rows)), (m_ahead_a, .inl (false, 480, m_ahead)), (m_waysTo_a, .inl (false, 26, m_waysTo)), (m_image_a, .inl (false, 460, m_image)), (m_isKept_a, .inl (true, 2, m_isKept))] ∧ mu_ = ((m_long1 - t) * 100000 + 90000 + (6 - run)).toNat ∧ (NP m_place m_length m_begins (t + 1) m_many ∧ LB m_place m_length m_sort m_long1 m_many ∧ 0 ≤ m_begins t.toNat ∧ m_begins t.toNat ≤ 20 * t ∧ 0 ≤ t ∧ t < m_long1 ∧ 0 ≤ m_many ∧ m_many ≤ m_begins t.toNat ∧ 1 ≤ run ∧ run ≤ 6 ∧ t + run ≤ m_long1)) → Z 0 0 27 lv [] ws) ∧ (∀ (lv : List (Option zV)) (ws : zW), (∃ (d5 : Option zV) (d6 : Option zV) (d7 : Option zV) (t : Int) (run : Int) (any : Int) (w : Int) (m_many : Int) (m_place : Nat → Int) (m_length : Nat → Int) (m_sort : Nat → Int) (m_price : Nat → Int) (m_of : Nat → Int) (m_begins : Nat → Int), lv = [some (.inr (some m_a)), some (.inl t), some (.inl run), some (.inl any), some (.inl w), d5, d6, d7] ∧ ws = [(m_a, .inr (.inr (7, [.inr (some m_letters_a), .inr (some m_size_a), .inr (some m_kind_a), .inr (some m_cost_a), .inl m_words, .inr (some m_joins_a), .inr (some m_rules_a), .inr (some m_line_a), .inl m_long1, .inl m_signs, .inr (some m_pad_a), .inl m_readSize, .inl m_readKind, .inl m_readCost, .inr (some m_place_a), .inr (some m_length_a), .inr (some m_sort_a), .inr (some m_price_a), .inr (some m_of_a), .inr (some m_begins_a), .inl m_many, .inr (some m_rowCost_a), .inr (some m_rowNext_a), .inr (some m_rows_a), .inr (some m_ahead_a), .inr (some m_waysTo_a), .inr (some m_image_a), .inr (some m_isKept_a)]))), (m_letters_a, .inl (false, 96, m_letters)), (m_size_a, .inl (false, 16, m_size)), (m_kind_a, .inl (false, 16, m_kind)), (m_cost_a, .inl (false, 16, m_cost)), (m_joins_a, .inl (false, 25, m_joins)), (m_rules_a, .inl (false, 4, m_rules)), (m_line_a, .inl (false, 24, m_line)), (m_pad_a, .inl (false, 40, m_pad)), (m_place_a, .inl (false, 480, m_place)), (m_length_a, .inl (false, 480, m_length)), (m_sort_a, .inl (false, 480, m_sort)), (m_price_a, .inl (false, 480, m_price)), (m_of_a, .inl (false, 480, m_of)), (m_begins_a, .inl (false, 26, m_begins)), (m_rowCost_a, .inl (false, 5760, m_rowCost)), (m_rowNext_a, .inl (false, 5760, m_rowNext)), (m_rows_a, .inl (false, 480, m_rows)), (m_ahead_a, .inl (false, 480, m_ahead)), (m_waysTo_a, .inl (false, 26, m_waysTo)), (m_image_a, .inl (false, 460, m_image)), (m_isKept_a, .inl (true, 2, m_isKept))] ∧ mu_ = ((m_long1 - t) * 100000 + 80000 + (m_words - w)).toNat ∧ (NP m_place m_length m_begins (t + 1) m_many ∧ LB m_place m_length m_sort m_long1 m_many ∧ 0 ≤ m_begins t.toNat ∧ m_begins t.toNat ≤ 20 * t ∧ 0 ≤ t ∧ t < m_long1 ∧ 0 ≤ m_many ∧ m_many ≤ m_begins t.toNat ∧ 1 ≤ run ∧ run ≤ 6 ∧ t + run ≤ m_long1 ∧ (any = 0 ∨ any = 1) ∧ 0 ≤ w ∧ w ≤ m_words)) → Z 0 0 77 lv [] ws) ∧ (∀ (lv : List (Option zV)) (ws : zW), (∃ (d6 : Option zV) (d7 : Option zV) (t : Int) (run : Int) (any : Int) (wi : Int) (n : Int) (m_many : Int) (m_place : Nat → Int) (m_length : Nat → Int) (m_sort : Nat → Int) (m_price : Nat → Int) (m_of : Nat → Int) (m_begins : Nat → Int), lv = [some (.inr (some m_a)), some (.inl t), some (.inl run), some (.inl any), some (.inl wi), some (.inl n), d6, d7] ∧ ws = [(m_a, .inr (.inr (7, [.inr (some m_letters_a), .inr (some m_size_a), .inr (some m_kind_a), .inr (some m_cost_a), .inl m_words, .inr (some m_joins_a), .inr (some m_rules_a), .inr (some m_line_a), .inl m_long1, .inl m_signs, .inr (some m_pad_a), .inl m_readSize, .inl m_readKind, .inl m_readCost, .inr (some m_place_a), .inr (some m_length_a), .inr (some m_sort_a), .inr (some m_price_a), .inr (some m_of_a), .inr (some m_begins_a), .inl m_many, .inr (some m_rowCost_a), .inr (some m_rowNext_a), .inr (some m_rows_a), .inr (some m_ahead_a), .inr (some m_waysTo_a), .inr (some m_image_a), .inr (some m_isKept_a)]))), (m_letters_a, .inl (false, 96, m_letters)), (m_size_a, .inl (false, 16, m_size)), (m_kind_a, .inl (false, 16, m_kind)), (m_cost_a, .inl (false, 16, m_cost)), (m_joins_a, .inl (false, 25, m_joins)), (m_rules_a, .inl (false, 4, m_rules)), (m_line_a, .inl (false, 24, m_line)), (m_pad_a, .inl (false, 40, m_pad)), (m_place_a, .inl (false, 480, m_place)), (m_length_a, .inl (false, 480, m_length)), (m_sort_a, .inl (false, 480, m_sort)), (m_price_a, .inl (false, 480, m_price)), (m_of_a, .inl (false, 480, m_of)), (m_begins_a, .inl (false, 26, m_begins)), (m_rowCost_a, .inl (false, 5760, m_rowCost)), (m_rowNext_a, .inl (false, 5760, m_rowNext)), (m_rows_a, .inl (false, 480, m_rows)), (m_ahead_a, .inl (false, 480, m_ahead)), (m_waysTo_a, .inl (false, 26, m_waysTo)), (m_image_a, .inl (false, 460, m_image)), (m_isKept_a, .inl (true, 2, m_isKept))] ∧ mu_ = ((m_long1 - t) * 100000 + (7 - n) * 1000 + 999).toNat ∧ (NP m_place m_length m_begins (t + 1) m_many ∧ LB m_place m_length m_sort m_long1 m_many ∧ 0 ≤ m_begins t.toNat ∧ m_begins t.toNat ≤ 20 * t ∧ 0 ≤ t ∧ t < m_long1 ∧ 0 ≤ m_many ∧ (1 ≤ run ∧ run ≤ 6 ∧ t + run ≤ m_long1 ∧ 1 ≤ n ∧ n ≤ 7) ∧ ∃ wc : Int, m_many ≤ m_begins t.toNat + ct m_size m_kind m_words n 0 0 + wc ∧ 0 ≤ wc ∧ wc ≤ 4 ∧ wc ≤ n - 1 ∧ (n ≤ run → wc ≤ 3))) → Z 0 0 145 lv [] ws) ∧ (∀ (lv : List (Option zV)) (ws : zW), (∃ (d7 : Option zV) (t : Int) (run : Int) (any : Int) (wi : Int) (n : Int) (q : Int) (m_many : Int) (m_place : Nat → Int) (m_length : Nat → Int) (m_sort : Nat → Int) (m_price : Nat → Int) (m_of : Nat → Int) (m_begins : Nat → Int), lv = [some (.inr (some m_a)), some (.inl t), some (.inl run), some (.inl any), some (.inl wi), some (.inl n), some (.inl q), d7] ∧ ws = [(m_a, .inr (.inr (7, [.inr (some m_letters_a), .inr (some m_size_a), .inr (some m_kind_a), .inr (some m_cost_a), .inl m_words, .inr (some m_joins_a), .inr (some m_rules_a), .inr (some m_line_a), .inl m_long1, .inl m_signs, .inr (some m_pad_a), .inl m_readSize, .inl m_readKind, .inl m_readCost, .inr (some m_place_a), .inr (some m_length_a), .inr (some m_sort_a), .inr (some m_price_a), .inr (some m_of_a), .inr (some m_begins_a), .inl m_many, .inr (some m_rowCost_a), .inr (some m_rowNext_a), .inr (some m_rows_a), .inr (some m_ahead_a), .inr (some m_waysTo_a), .inr (some m_image_a), .inr (some m_isKept_a)]))), (m_letters_a, .inl (false, 96, m_letters)), (m_size_a, .inl (false, 16, m_size)), (m_kind_a, .inl (false, 16, m_kind)), (m_cost_a, .inl (false, 16, m_cost)), (m_joins_a, .inl (false, 25, m_joins)), (m_rules_a, .inl (false, 4, m_rules)), (m_line_a, .inl (false, 24, m_line)), (m_pad_a, .inl (false, 40, m_pad)), (m_place_a, .inl (false, 480, m_place)), (m_length_a, .inl (false, 480, m_length)), (m_sort_a, .inl (false, 480, m_sort)), (m_price_a, .inl (false, 480, m_price)), (m_of_a, .inl (false, 480, m_of)), (m_begins_a, .inl (false, 26, m_begins)), (m_rowCost_a, .inl (false, 5760, m_rowCost)), (m_rowNext_a, .inl (false, 5760, m_rowNext)), (m_rows_a, .inl (false, 480, m_rows)), (m_ahead_a, .inl (false, 480, m_ahead)), (m_waysTo_a, .inl (false, 26, m_waysTo)), (m_image_a, .inl (false, 460, m_image)), (m_isKept_a, .inl (true, 2, m_isKept))] ∧ mu_ = ((m_long1 - t) * 100000 + (7 - n) * 1000 + (3 - q) * 100 + 99).toNat ∧ (NP m_place m_length m_begins (t + 1) m_many ∧ LB m_place m_length m_sort m_long1 m_many ∧ 0 ≤ m_begins t.toNat ∧ m_begins t.toNat ≤ 20 * t ∧ 0 ≤ t ∧ t < m_long1 ∧ 0 ≤ m_many ∧ (1 ≤ run ∧ run ≤ 6 ∧ t + run ≤ m_long1 ∧ 1 ≤ n ∧ n ≤ 6 ∧ 0 ≤ q ∧ q ≤ 3) ∧ ∃ wc : Int, m_many ≤ m_begins t.toNat + ct m_size m_kind m_words n q 0 + wc ∧ 0 ≤ wc ∧ wc ≤ 4 ∧ wc ≤ n - 1 ∧ (n ≤ run → wc ≤ 3))) → Z 0 0 155 lv [] ws) ∧ (∀ (lv : List (Option zV)) (ws : zW), (∃ (t : Int) (run : Int) (any : Int) (wi : Int) (n : Int) (q : Int) (w : Int) (m_many : Int) (m_place : Nat → Int) (m_length : Nat → Int) (m_sort : Nat → Int) (m_price : Nat → Int) (m_of : Nat → Int) (m_begins : Nat → Int), lv = [some (.inr (some m_a)), some (.inl t), some (.inl run), some (.inl any), some (.inl wi), some (.inl n), some (.inl q), some (.inl w)] ∧ ws = [(m_a, .inr (.inr (7, [.inr (some m_letters_a), .inr (some m_size_a), .inr (some m_kind_a), .inr (some m_cost_a), .inl m_words, .inr (some m_joins_a), .inr (some m_rules_a), .inr (some m_line_a), .inl m_long1, .inl m_signs, .inr (some m_pad_a), .inl m_readSize, .inl m_readKind, .inl m_readCost, .inr (some m_place_a), .inr (some m_length_a), .inr (some m_sort_a), .inr (some m_price_a), .inr (some m_of_a), .inr (some m_begins_a), .inl m_many, .inr (some m_rowCost_a), .inr (some m_rowNext_a), .inr (some m_rows_a), .inr (some m_ahead_a), .inr (some m_waysTo_a), .inr (some m_image_a), .inr (some m_isKept_a)]))), (m_letters_a, .inl (false, 96, m_letters)), (m_size_a, .inl (false, 16, m_size)), (m_kind_a, .inl (false, 16, m_kind)), (m_cost_a, .inl (false, 16, m_cost)), (m_joins_a, .inl (false, 25, m_joins)), (m_rules_a, .inl (false, 4, m_rules)), (m_line_a, .inl (false, 24, m_line)), (m_pad_a, .inl (false, 40, m_pad)), (m_place_a, .inl (false, 480, m_place)), (m_length_a, .inl (false, 480, m_length)), (m_sort_a, .inl (false, 480, m_sort)), (m_price_a, .inl (false, 480, m_price)), (m_of_a, .inl (false, 480, m_of)), (m_begins_a, .inl (false, 26, m_begins)), (m_rowCost_a, .inl (false, 5760, m_rowCost)), (m_rowNext_a, .inl (false, 5760, m_rowNext)), (m_rows_a, .inl (false, 480, m_rows)), (m_ahead_a, .inl (false, 480, m_ahead)), (m_waysTo_a, .inl (false, 26, m_waysTo)), (m_image_a, .inl (false, 460, m_image)), (m_isKept_a, .inl (true, 2, m_isKept))] ∧ mu_ = ((m_long1 - t) * 100000 + (7 - n) * 1000 + (3 - q) * 100 + (m_words - w)).toNat ∧ (NP m_place m_length m_begins (t + 1) m_many ∧ LB m_place m_length m_sort m_long1 m_many ∧ 0 ≤ m_begins t.toNat ∧ m_begins t.toNat ≤ 20 * t ∧ 0 ≤ t ∧ t < m_long1 ∧ 0 ≤ m_many ∧ (1 ≤ run ∧ run ≤ 6 ∧ t + run ≤ m_long1 ∧ 1 ≤ n ∧ n ≤ 6 ∧ 0 ≤ q ∧ q < 3 ∧ 0 ≤ w ∧ w ≤ m_words) ∧ ∃ wc : Int, m_many ≤ m_begins t.toNat + ct m_size m_kind m_words n q w + wc ∧ 0 ≤ wc ∧ wc ≤ 4 ∧ wc ≤ n - 1 ∧ (n ≤ run → wc ≤ 3))) → Z 0 0 164 lv [] ws) := by
    intro mu_
    induction mu_ using Nat.strongRecOn with
    | _ mu_ ih =>
      refine ⟨?_, ?_, ?_, ?_, ?_, ?_⟩
      · intro lv ws hJ
        obtain ⟨d2, d3, d4, d5, d6, d7, t, m_many, m_place, m_length, m_sort, m_price, m_of, m_begins, rfl, rfl, rfl, hi⟩ := hJ
        obtain ⟨i1, i2, i3, i4, i5, i6⟩ := hi
        refine B.iload_n (pc := 7) (i := 1) dX7_layPieces_7 rfl rfl ?_
        refine B.aload_n (pc := 8) (i := 0) dX7_layPieces_8 rfl rfl ?_
        refine B.getfield (pc := 9) 0 rfl rfl inX7z 8 (by decide) fl_X7_109 rfl dX7_layPieces_9 ?_
        refine B.icmp_ge (pc := 12) (tgt := 303) dX7_layPieces_12 (by decide) (fun c12 => ?_) (fun c12 => ?_)
        · refine B.aload_n (pc := 303) (i := 0) dX7_layPieces_303 rfl rfl ?_
          refine B.getfield (pc := 304) 0 rfl rfl inX7z 19 (by decide) fl_X7_49 rfl dX7_layPieces_304 ?_
          refine B.aload_n (pc := 307) (i := 0) dX7_layPieces_307 rfl rfl ?_
          refine B.getfield (pc := 308) 0 rfl rfl inX7z 8 (by decide) fl_X7_109 rfl dX7_layPieces_308 ?_
          refine B.aload_n (pc := 311) (i := 0) dX7_layPieces_311 rfl rfl ?_
          refine B.getfield (pc := 312) 0 rfl rfl inX7z 20 (by decide) fl_X7_112 rfl dX7_layPieces_312 ?_
          refine B.iastore (pc := 315) 14 rfl (by omega) (by omega) dX7_layPieces_315 ?_
          simp only [List.set_cons_zero, List.set_cons_succ]
          refine B.vreturn (pc := 316) rfl dX7_layPieces_316 (Nat.le_refl _) (Nat.le_refl _) (fun rw => ⟨_, _, _, _, _, _, _, rfl, ?_⟩)
          have hpe : t = m_long1 := by omega
          subst hpe
          exact ⟨i5, by omega, i2, i1.done i3, i1.be i3 i5, zup_eq⟩
        · refine B.aload_n (pc := 15) (i := 0) dX7_layPieces_15 rfl rfl ?_
          refine B.getfield (pc := 16) 0 rfl rfl inX7z 19 (by decide) fl_X7_49 rfl dX7_layPieces_16 ?_
          refine B.iload_n (pc := 19) (i := 1) dX7_layPieces_19 rfl rfl ?_
          refine B.aload_n (pc := 20) (i := 0) dX7_layPieces_20 rfl rfl ?_
          refine B.getfield (pc := 21) 0 rfl rfl inX7z 20 (by decide) fl_X7_112 rfl dX7_layPieces_21 ?_
          refine B.iastore (pc := 24) 14 rfl (by omega) (by omega) dX7_layPieces_24 ?_
          simp only [List.set_cons_zero, List.set_cons_succ]
          refine B.iconst (pc := 25) dX7_layPieces_25 ⟨by decide, by decide⟩ ?_
          refine B.istore_n (pc := 26) (i := 2) dX7_layPieces_26 rfl (by decide) ?_
          simp only [List.set_cons_zero, List.set_cons_succ]
          refine (ih _ ?_).2.1 _ _ ⟨_, _, _, _, _, _, _, _, _, _, _, _, _, _, rfl, rfl, rfl, ?_⟩
          · omega
          · first | exact ⟨i1, i2, i3, i4, i5, i6, i7, by omega, by omega, by omega, by omega⟩ | exact ⟨i1.begin_ i3 i5, i2, by rw [zup_eq]; omega, by rw [zup_eq]; omega, by omega, by omega, by omega, by rw [zup_eq]; omega, by omega, by omega, by omega⟩
      · intro lv ws hJ
        obtain ⟨d3, d4, d5, d6, d7, t, run, m_many, m_place, m_length, m_sort, m_price, m_of, m_begins, rfl, rfl, rfl, hi⟩ := hJ
        obtain ⟨i1, i2, i3, i4, i5, i6, i7, i8⟩ := hi
        
        refine B.iload_n (pc := 27) (i := 2) dX7_layPieces_27 rfl rfl ?_
        refine B.bipush (pc := 28) dX7_layPieces_28 ⟨by decide, by decide⟩ ?_
        refine B.icmp_ge (pc := 30) (tgt := 72) dX7_layPieces_30 (by decide) (fun c30 => ?_) (fun c30 => ?_)
        · refine B.iconst (pc := 72) dX7_layPieces_72 ⟨by decide, by decide⟩ ?_
          refine B.istore_n (pc := 73) (i := 3) dX7_layPieces_73 rfl (by decide) ?_
          simp only [List.set_cons_zero, List.set_cons_succ]
          refine B.iconst (pc := 74) dX7_layPieces_74 ⟨by decide, by decide⟩ ?_
          refine B.istore (pc := 75) (i := 4) dX7_layPieces_75 (by decide) ?_
          simp only [List.set_cons_zero, List.set_cons_succ]
          refine (ih _ ?_).2.2.1 _ _ ⟨_, _, _, _, _, _, _, _, _, _, _, _, _, _, rfl, rfl, rfl, ?_⟩
          · omega
          · exact ⟨i1, i2, i3, i4, i5, i6, i7, by omega, by omega, by omega, by omega, by omega, by omega, by omega⟩
        · refine B.iload_n (pc := 33) (i := 1) dX7_layPieces_33 rfl rfl ?_
          refine B.iload_n (pc := 34) (i := 2) dX7_layPieces_34 rfl rfl ?_
          refine B.iadd (pc := 35) dX7_layPieces_35 ⟨by omega, by omega⟩ ?_
          refine B.aload_n (pc := 36) (i := 0) dX7_layPieces_36 rfl rfl ?_
          refine B.getfield (pc := 37) 0 rfl rfl inX7z 8 (by decide) fl_X7_109 rfl dX7_layPieces_37 ?_
          refine B.icmp_ge (pc := 40) (tgt := 72) dX7_layPieces_40 (by decide) (fun c40 => ?_) (fun c40 => ?_)
          · refine B.iconst (pc := 72) dX7_layPieces_72 ⟨by decide, by decide⟩ ?_
            refine B.istore_n (pc := 73) (i := 3) dX7_layPieces_73 rfl (by decide) ?_
            simp only [List.set_cons_zero, List.set_cons_succ]
            refine B.iconst (pc := 74) dX7_layPieces_74 ⟨by decide, by decide⟩ ?_
            refine B.istore (pc := 75) (i := 4) dX7_layPieces_75 (by decide) ?_
            simp only [List.set_cons_zero, List.set_cons_succ]
            refine (ih _ ?_).2.2.1 _ _ ⟨_, _, _, _, _, _, _, _, _, _, _, _, _, _, rfl, rfl, rfl, ?_⟩
            · omega
            · exact ⟨i1, i2, i3, i4, i5, i6, i7, by omega, by omega, by omega, by omega, by omega, by omega, by omega⟩
          · refine B.aload_n (pc := 43) (i := 0) dX7_layPieces_43 rfl rfl ?_
            refine B.getfield (pc := 44) 0 rfl rfl inX7z 7 (by decide) fl_X7_28 rfl dX7_layPieces_44 ?_
            refine B.iload_n (pc := 47) (i := 1) dX7_layPieces_47 rfl rfl ?_
            refine B.iload_n (pc := 48) (i := 2) dX7_layPieces_48 rfl rfl ?_
            refine B.iadd (pc := 49) dX7_layPieces_49 ⟨by omega, by omega⟩ ?_
            refine B.iaload (pc := 50) 7 rfl (by omega) (by omega) dX7_layPieces_50 (fun r50 => ?_)
            obtain ⟨lr50, ur50⟩ := r50
            refine B.callSi (pc := 51) 1 (mX7_classOf hE _) ml_X7_115 sm_X7_classOf it_X7 co_X7_classOf (by decide +kernel) rfl rfl rfl ⟨by decide, by decide⟩ ⟨by decide, by decide⟩ [] rfl rfl rfl (Nat.le_of_ble_eq_true rfl) dX7_layPieces_51 (fun _ => trivial) (fun zk51 uk51 rzk51 ruk51 rak51 hqk51 => ?_)
            obtain ⟨lzk51, uzk51⟩ := rzk51
            obtain ⟨rfl, hk51⟩ := hqk51
            simp only [zput, List.append_nil, Nat.add_zero]
            refine B.aload_n (pc := 54) (i := 0) dX7_layPieces_54 rfl rfl ?_
            refine B.getfield (pc := 55) 0 rfl rfl inX7z 7 (by decide) fl_X7_28 rfl dX7_layPieces_55 ?_
            refine B.iload_n (pc := 58) (i := 1) dX7_layPieces_58 rfl rfl ?_
            refine B.iaload (pc := 59) 7 rfl (by omega) (by omega) dX7_layPieces_59 (fun r59 => ?_)
            obtain ⟨lr59, ur59⟩ := r59
            refine B.callSi (pc := 60) 1 (mX7_classOf hE _) ml_X7_115 sm_X7_classOf it_X7 co_X7_classOf (by decide +kernel) rfl rfl rfl ⟨by decide, by decide⟩ ⟨by decide, by decide⟩ [] rfl rfl rfl (Nat.le_of_ble_eq_true rfl) dX7_layPieces_60 (fun _ => trivial) (fun zk60 uk60 rzk60 ruk60 rak60 hqk60 => ?_)
            obtain ⟨lzk60, uzk60⟩ := rzk60
            obtain ⟨rfl, hk60⟩ := hqk60
            simp only [zput, List.append_nil, Nat.add_zero]
            refine B.icmp_ne (pc := 63) (tgt := 72) dX7_layPieces_63 (by decide) (fun c63 => ?_) (fun c63 => ?_)
            · refine B.iconst (pc := 72) dX7_layPieces_72 ⟨by decide, by decide⟩ ?_
              refine B.istore_n (pc := 73) (i := 3) dX7_layPieces_73 rfl (by decide) ?_
              simp only [List.set_cons_zero, List.set_cons_succ]
              refine B.iconst (pc := 74) dX7_layPieces_74 ⟨by decide, by decide⟩ ?_
              refine B.istore (pc := 75) (i := 4) dX7_layPieces_75 (by decide) ?_
              simp only [List.set_cons_zero, List.set_cons_succ]
              refine (ih _ ?_).2.2.1 _ _ ⟨_, _, _, _, _, _, _, _, _, _, _, _, _, _, rfl, rfl, rfl, ?_⟩
              · omega
              · exact ⟨i1, i2, i3, i4, i5, i6, i7, by omega, by omega, by omega, by omega, by omega, by omega, by omega⟩
            · refine B.iinc (pc := 66) dX7_layPieces_66 (by decide) rfl ⟨by omega, by omega⟩ ?_
              simp only [List.set_cons_zero, List.set_cons_succ]
              refine B.goto (pc := 69) (tgt := 27) dX7_layPieces_69 (by decide) ?_
              refine (ih _ ?_).2.1 _ _ ⟨_, _, _, _, _, _, _, _, _, _, _, _, _, _, rfl, rfl, rfl, ?_⟩
              · omega
              · first | exact ⟨i1, i2, i3, i4, i5, i6, i7, by omega, by omega, by omega, by omega⟩ | exact ⟨i1.begin_ i3 i5, i2, by rw [zup_eq]; omega, by rw [zup_eq]; omega, by omega, by omega, by omega, by rw [zup_eq]; omega, by omega, by omega, by omega⟩
      · intro lv ws hJ
        obtain ⟨d5, d6, d7, t, run, any, w, m_many, m_place, m_length, m_sort, m_price, m_of, m_begins, rfl, rfl, rfl, hi⟩ := hJ
        obtain ⟨i1, i2, i3, i4, i5, i6, i7, i8⟩ := hi
        
        refine B.iload (pc := 77) dX7_layPieces_77 rfl ?_
        refine B.aload_n (pc := 79) (i := 0) dX7_layPieces_79 rfl rfl ?_
        refine B.getfield (pc := 80) 0 rfl rfl inX7z 4 (by decide) fl_X7_106 rfl dX7_layPieces_80 ?_
        refine B.icmp_ge (pc := 83) (tgt := 112) dX7_layPieces_83 (by decide) (fun c83 => ?_) (fun c83 => ?_)
        · refine B.aload_n (pc := 112) (i := 0) dX7_layPieces_112 rfl rfl ?_
          refine B.getfield (pc := 113) 0 rfl rfl inX7z 6 (by decide) fl_X7_25 rfl dX7_layPieces_113 ?_
          refine B.iconst (pc := 116) dX7_layPieces_116 ⟨by decide, by decide⟩ ?_
          refine B.iaload (pc := 117) 6 rfl (by omega) (by omega) dX7_layPieces_117 (fun r117 => ?_)
          obtain ⟨lr117, ur117⟩ := r117
          refine B.iconst (pc := 118) dX7_layPieces_118 ⟨by decide, by decide⟩ ?_
          refine B.icmp_eq (pc := 119) (tgt := 135) dX7_layPieces_119 (by decide) (fun c119 => ?_) (fun c119 => ?_)
          · refine B.iconst (pc := 135) dX7_layPieces_135 ⟨by decide, by decide⟩ ?_
            refine B.goto (pc := 136) (tgt := 140) dX7_layPieces_136 (by decide) ?_
            refine B.istore (pc := 140) (i := 4) dX7_layPieces_140 (by decide) ?_
            simp only [List.set_cons_zero, List.set_cons_succ]
            refine B.iconst (pc := 142) dX7_layPieces_142 ⟨by decide, by decide⟩ ?_
            refine B.istore (pc := 143) (i := 5) dX7_layPieces_143 (by decide) ?_
            simp only [List.set_cons_zero, List.set_cons_succ]
            refine (ih _ ?_).2.2.2.1 _ _ ⟨_, _, _, _, _, _, _, _, _, _, _, _, _, _, rfl, rfl, rfl, ?_⟩
            · omega
            · first
                | (have hc0 := Int.natCast_nonneg (cn (fun i => decide (m_size i < 1 ∨ (m_size i = 1 ∧ m_kind i < 0) ∨ (m_size i = 1 ∧ m_kind i = 0 ∧ (i : Int) < 0))) m_words.toNat)
                   exact ⟨i1, i2, i3, i4, i5, i6, i7, by omega, 0, by unfold ct; omega, by omega, by omega, by omega, by omega⟩)
                | (obtain ⟨wc, w1, w2, w3, w4, w5⟩ := i9
                   have hcn := ct_n (sz := m_size) (kd := m_kind) (wd := m_words) (n := n) (w := 0) (fun i => Int.le_refl _)
                   have hq3 : q = 3 := by omega
                   subst hq3
                   first
                     | exact ⟨i1, i2, i3, i4, i5, i6, i7, by omega, wc, by omega, by omega, by omega, by omega, by omega⟩
                     | (obtain ⟨p1, p2, p3, p4⟩ := hk288
                        subst p1; subst p2; subst p3; subst p4
                        exact ⟨i1.push (by omega) (by omega) (by omega), i2.push (by omega) (by omega), i3, i4, i5, i6, by omega, by omega, wc + 1, by omega, by omega, by omega, by omega, by omega⟩))
          · refine B.aload_n (pc := 122) (i := 0) dX7_layPieces_122 rfl rfl ?_
            refine B.getfield (pc := 123) 0 rfl rfl inX7z 6 (by decide) fl_X7_25 rfl dX7_layPieces_123 ?_
            refine B.iconst (pc := 126) dX7_layPieces_126 ⟨by decide, by decide⟩ ?_
            refine B.iaload (pc := 127) 6 rfl (by omega) (by omega) dX7_layPieces_127 (fun r127 => ?_)
            obtain ⟨lr127, ur127⟩ := r127
            refine B.if_ne (pc := 128) (tgt := 139) dX7_layPieces_128 (by decide) (fun c128 => ?_) (fun c128 => ?_)
            · refine B.iconst (pc := 139) dX7_layPieces_139 ⟨by decide, by decide⟩ ?_
              refine B.istore (pc := 140) (i := 4) dX7_layPieces_140 (by decide) ?_
              simp only [List.set_cons_zero, List.set_cons_succ]
              refine B.iconst (pc := 142) dX7_layPieces_142 ⟨by decide, by decide⟩ ?_
              refine B.istore (pc := 143) (i := 5) dX7_layPieces_143 (by decide) ?_
              simp only [List.set_cons_zero, List.set_cons_succ]
              refine (ih _ ?_).2.2.2.1 _ _ ⟨_, _, _, _, _, _, _, _, _, _, _, _, _, _, rfl, rfl, rfl, ?_⟩
              · omega
              · first
                  | (have hc0 := Int.natCast_nonneg (cn (fun i => decide (m_size i < 1 ∨ (m_size i = 1 ∧ m_kind i < 0) ∨ (m_size i = 1 ∧ m_kind i = 0 ∧ (i : Int) < 0))) m_words.toNat)
                     exact ⟨i1, i2, i3, i4, i5, i6, i7, by omega, 0, by unfold ct; omega, by omega, by omega, by omega, by omega⟩)
                  | (obtain ⟨wc, w1, w2, w3, w4, w5⟩ := i9
                     have hcn := ct_n (sz := m_size) (kd := m_kind) (wd := m_words) (n := n) (w := 0) (fun i => Int.le_refl _)
                     have hq3 : q = 3 := by omega
                     subst hq3
                     first
                       | exact ⟨i1, i2, i3, i4, i5, i6, i7, by omega, wc, by omega, by omega, by omega, by omega, by omega⟩
                       | (obtain ⟨p1, p2, p3, p4⟩ := hk288
                          subst p1; subst p2; subst p3; subst p4
                          exact ⟨i1.push (by omega) (by omega) (by omega), i2.push (by omega) (by omega), i3, i4, i5, i6, by omega, by omega, wc + 1, by omega, by omega, by omega, by omega, by omega⟩))
            · refine B.iload_n (pc := 131) (i := 3) dX7_layPieces_131 rfl rfl ?_
              refine B.if_ne (pc := 132) (tgt := 139) dX7_layPieces_132 (by decide) (fun c132 => ?_) (fun c132 => ?_)
              · refine B.iconst (pc := 139) dX7_layPieces_139 ⟨by decide, by decide⟩ ?_
                refine B.istore (pc := 140) (i := 4) dX7_layPieces_140 (by decide) ?_
                simp only [List.set_cons_zero, List.set_cons_succ]
                refine B.iconst (pc := 142) dX7_layPieces_142 ⟨by decide, by decide⟩ ?_
                refine B.istore (pc := 143) (i := 5) dX7_layPieces_143 (by decide) ?_
                simp only [List.set_cons_zero, List.set_cons_succ]
                refine (ih _ ?_).2.2.2.1 _ _ ⟨_, _, _, _, _, _, _, _, _, _, _, _, _, _, rfl, rfl, rfl, ?_⟩
                · omega
                · first
                    | (have hc0 := Int.natCast_nonneg (cn (fun i => decide (m_size i < 1 ∨ (m_size i = 1 ∧ m_kind i < 0) ∨ (m_size i = 1 ∧ m_kind i = 0 ∧ (i : Int) < 0))) m_words.toNat)
                       exact ⟨i1, i2, i3, i4, i5, i6, i7, by omega, 0, by unfold ct; omega, by omega, by omega, by omega, by omega⟩)
                    | (obtain ⟨wc, w1, w2, w3, w4, w5⟩ := i9
                       have hcn := ct_n (sz := m_size) (kd := m_kind) (wd := m_words) (n := n) (w := 0) (fun i => Int.le_refl _)
                       have hq3 : q = 3 := by omega
                       subst hq3
                       first
                         | exact ⟨i1, i2, i3, i4, i5, i6, i7, by omega, wc, by omega, by omega, by omega, by omega, by omega⟩
                         | (obtain ⟨p1, p2, p3, p4⟩ := hk288
                            subst p1; subst p2; subst p3; subst p4
                            exact ⟨i1.push (by omega) (by omega) (by omega), i2.push (by omega) (by omega), i3, i4, i5, i6, by omega, by omega, wc + 1, by omega, by omega, by omega, by omega, by omega⟩))
              · refine B.iconst (pc := 135) dX7_layPieces_135 ⟨by decide, by decide⟩ ?_
                refine B.goto (pc := 136) (tgt := 140) dX7_layPieces_136 (by decide) ?_
                refine B.istore (pc := 140) (i := 4) dX7_layPieces_140 (by decide) ?_
                simp only [List.set_cons_zero, List.set_cons_succ]
                refine B.iconst (pc := 142) dX7_layPieces_142 ⟨by decide, by decide⟩ ?_
                refine B.istore (pc := 143) (i := 5) dX7_layPieces_143 (by decide) ?_
                simp only [List.set_cons_zero, List.set_cons_succ]
                refine (ih _ ?_).2.2.2.1 _ _ ⟨_, _, _, _, _, _, _, _, _, _, _, _, _, _, rfl, rfl, rfl, ?_⟩
                · omega
                · first
                    | (have hc0 := Int.natCast_nonneg (cn (fun i => decide (m_size i < 1 ∨ (m_size i = 1 ∧ m_kind i < 0) ∨ (m_size i = 1 ∧ m_kind i = 0 ∧ (i : Int) < 0))) m_words.toNat)
                       exact ⟨i1, i2, i3, i4, i5, i6, i7, by omega, 0, by unfold ct; omega, by omega, by omega, by omega, by omega⟩)
                    | (obtain ⟨wc, w1, w2, w3, w4, w5⟩ := i9
                       have hcn := ct_n (sz := m_size) (kd := m_kind) (wd := m_words) (n := n) (w := 0) (fun i => Int.le_refl _)
                       have hq3 : q = 3 := by omega
                       subst hq3
                       first
                         | exact ⟨i1, i2, i3, i4, i5, i6, i7, by omega, wc, by omega, by omega, by omega, by omega, by omega⟩
                         | (obtain ⟨p1, p2, p3, p4⟩ := hk288
                            subst p1; subst p2; subst p3; subst p4
                            exact ⟨i1.push (by omega) (by omega) (by omega), i2.push (by omega) (by omega), i3, i4, i5, i6, by omega, by omega, wc + 1, by omega, by omega, by omega, by omega, by omega⟩))
        · refine B.iload_n (pc := 86) (i := 3) dX7_layPieces_86 rfl rfl ?_
          refine B.if_ne (pc := 87) (tgt := 100) dX7_layPieces_87 (by decide) (fun c87 => ?_) (fun c87 => ?_)
          · refine B.iconst (pc := 100) dX7_layPieces_100 ⟨by decide, by decide⟩ ?_
            refine B.goto (pc := 101) (tgt := 105) dX7_layPieces_101 (by decide) ?_
            refine B.istore_n (pc := 105) (i := 3) dX7_layPieces_105 rfl (by decide) ?_
            simp only [List.set_cons_zero, List.set_cons_succ]
            refine B.iinc (pc := 106) dX7_layPieces_106 (by decide) rfl ⟨by omega, by omega⟩ ?_
            simp only [List.set_cons_zero, List.set_cons_succ]
            refine B.goto (pc := 109) (tgt := 77) dX7_layPieces_109 (by decide) ?_
            refine (ih _ ?_).2.2.1 _ _ ⟨_, _, _, _, _, _, _, _, _, _, _, _, _, _, rfl, rfl, rfl, ?_⟩
            · omega
            · exact ⟨i1, i2, i3, i4, i5, i6, i7, by omega, by omega, by omega, by omega, by omega, by omega, by omega⟩
          · refine B.aload_n (pc := 90) (i := 0) dX7_layPieces_90 rfl rfl ?_
            refine B.iload (pc := 91) dX7_layPieces_91 rfl ?_
            refine B.iload_n (pc := 93) (i := 1) dX7_layPieces_93 rfl rfl ?_
            refine B.callVi (pc := 94) 2 (mX7_stands hE _ _ _ _ _ _ _ _ _ _ _ _ _ _ _ _ _ _ _ _ _ _ _ _ _ _ _ _ _ _ _ _ _ _ _ _ _ _ _ _ _ _ _ _ _ _ _ _ _ _ _ _) 0 rfl rfl ml_X7_119 im_X7_stands se_X7_stands it_X7 co_X7_stands (by decide +kernel) rfl rfl rfl ⟨by decide, by decide⟩ ⟨by decide, by decide⟩ [0, 1, 2, 3, 4, 5, 6, 7, 8, 9, 10, 11, 12, 13, 14, 15, 16, 17, 18, 19, 20, 21] rfl rfl rfl (Nat.le_of_ble_eq_true rfl) dX7_layPieces_94 (fun _ => ⟨hD, by omega, by omega, by omega, by omega, by omega⟩) (fun zk94 uk94 rzk94 ruk94 rak94 hqk94 => ?_)
            obtain ⟨lzk94, uzk94⟩ := rzk94
            obtain ⟨rfl, hk94⟩ := hqk94
            simp only [zput, List.set_cons_zero, List.set_cons_succ, List.append_nil, Nat.add_zero]
            refine B.if_eq (pc := 97) (tgt := 104) dX7_layPieces_97 (by decide) (fun c97 => ?_) (fun c97 => ?_)
            · refine B.iconst (pc := 104) dX7_layPieces_104 ⟨by decide, by decide⟩ ?_
              refine B.istore_n (pc := 105) (i := 3) dX7_layPieces_105 rfl (by decide) ?_
              simp only [List.set_cons_zero, List.set_cons_succ]
              refine B.iinc (pc := 106) dX7_layPieces_106 (by decide) rfl ⟨by omega, by omega⟩ ?_
              simp only [List.set_cons_zero, List.set_cons_succ]
              refine B.goto (pc := 109) (tgt := 77) dX7_layPieces_109 (by decide) ?_
              refine (ih _ ?_).2.2.1 _ _ ⟨_, _, _, _, _, _, _, _, _, _, _, _, _, _, rfl, rfl, rfl, ?_⟩
              · omega
              · exact ⟨i1, i2, i3, i4, i5, i6, i7, by omega, by omega, by omega, by omega, by omega, by omega, by omega⟩
            · refine B.iconst (pc := 100) dX7_layPieces_100 ⟨by decide, by decide⟩ ?_
              refine B.goto (pc := 101) (tgt := 105) dX7_layPieces_101 (by decide) ?_
              refine B.istore_n (pc := 105) (i := 3) dX7_layPieces_105 rfl (by decide) ?_
              simp only [List.set_cons_zero, List.set_cons_succ]
              refine B.iinc (pc := 106) dX7_layPieces_106 (by decide) rfl ⟨by omega, by omega⟩ ?_
              simp only [List.set_cons_zero, List.set_cons_succ]
              refine B.goto (pc := 109) (tgt := 77) dX7_layPieces_109 (by decide) ?_
              refine (ih _ ?_).2.2.1 _ _ ⟨_, _, _, _, _, _, _, _, _, _, _, _, _, _, rfl, rfl, rfl, ?_⟩
              · omega
              · exact ⟨i1, i2, i3, i4, i5, i6, i7, by omega, by omega, by omega, by omega, by omega, by omega, by omega⟩
      · intro lv ws hJ
        obtain ⟨d6, d7, t, run, any, wi, n, m_many, m_place, m_length, m_sort, m_price, m_of, m_begins, rfl, rfl, rfl, hi⟩ := hJ
        obtain ⟨i1, i2, i3, i4, i5, i6, i7, i8, i9⟩ := hi
        refine B.iload (pc := 145) dX7_layPieces_145 rfl ?_
        refine B.bipush (pc := 147) dX7_layPieces_147 ⟨by decide, by decide⟩ ?_
        refine B.icmp_gt (pc := 149) (tgt := 297) dX7_layPieces_149 (by decide) (fun c149 => ?_) (fun c149 => ?_)
        · refine B.iinc (pc := 297) dX7_layPieces_297 (by decide) rfl ⟨by omega, by omega⟩ ?_
          simp only [List.set_cons_zero, List.set_cons_succ]
          refine B.goto (pc := 300) (tgt := 7) dX7_layPieces_300 (by decide) ?_
          refine (ih _ ?_).1 _ _ ⟨_, _, _, _, _, _, _, _, _, _, _, _, _, _, rfl, rfl, rfl, ?_⟩
          · omega
          · obtain ⟨wc, w1, w2, w3, w4, w5⟩ := i9
            have hct := ct_le (sz := m_size) (kd := m_kind) (n := n) (k := 0) (w := 0) hD1
            exact ⟨i1, i2, by omega, by omega, i7, by omega⟩
        · refine B.iconst (pc := 152) dX7_layPieces_152 ⟨by decide, by decide⟩ ?_
          refine B.istore (pc := 153) (i := 6) dX7_layPieces_153 (by decide) ?_
          simp only [List.set_cons_zero, List.set_cons_succ]
          refine (ih _ ?_).2.2.2.2.1 _ _ ⟨_, _, _, _, _, _, _, _, _, _, _, _, _, _, rfl, rfl, rfl, ?_⟩
          · omega
          · obtain ⟨wc, w1, w2, w3, w4, w5⟩ := i9
            first
              | exact ⟨i1, i2, i3, i4, i5, i6, i7, by omega, wc, w1, w2, w3, w4, w5⟩
              | (have hck := ct_k (sz := m_size) (kd := m_kind) (wd := m_words) (n := n) (k := q) (w := w)
                 exact ⟨i1, i2, i3, i4, i5, i6, i7, by omega, wc, by omega, w2, w3, w4, w5⟩)
      · intro lv ws hJ
        obtain ⟨d7, t, run, any, wi, n, q, m_many, m_place, m_length, m_sort, m_price, m_of, m_begins, rfl, rfl, rfl, hi⟩ := hJ
        obtain ⟨i1, i2, i3, i4, i5, i6, i7, i8, i9⟩ := hi
        refine B.iload (pc := 155) dX7_layPieces_155 rfl ?_
        refine B.iconst (pc := 157) dX7_layPieces_157 ⟨by decide, by decide⟩ ?_
        refine B.icmp_ge (pc := 158) (tgt := 237) dX7_layPieces_158 (by decide) (fun c158 => ?_) (fun c158 => ?_)
        · refine B.iload (pc := 237) dX7_layPieces_237 rfl ?_
          refine B.if_eq (pc := 239) (tgt := 291) dX7_layPieces_239 (by decide) (fun c239 => ?_) (fun c239 => ?_)
          · refine B.iinc (pc := 291) dX7_layPieces_291 (by decide) rfl ⟨by omega, by omega⟩ ?_
            simp only [List.set_cons_zero, List.set_cons_succ]
            refine B.goto (pc := 294) (tgt := 145) dX7_layPieces_294 (by decide) ?_
            refine (ih _ ?_).2.2.2.1 _ _ ⟨_, _, _, _, _, _, _, _, _, _, _, _, _, _, rfl, rfl, rfl, ?_⟩
            · omega
            · first
                | (have hc0 := Int.natCast_nonneg (cn (fun i => decide (m_size i < 1 ∨ (m_size i = 1 ∧ m_kind i < 0) ∨ (m_size i = 1 ∧ m_kind i = 0 ∧ (i : Int) < 0))) m_words.toNat)
                   exact ⟨i1, i2, i3, i4, i5, i6, i7, by omega, 0, by unfold ct; omega, by omega, by omega, by omega, by omega⟩)
                | (obtain ⟨wc, w1, w2, w3, w4, w5⟩ := i9
                   have hcn := ct_n (sz := m_size) (kd := m_kind) (wd := m_words) (n := n) (w := 0) (fun i => Int.le_refl _)
                   have hq3 : q = 3 := by omega
                   subst hq3
                   first
                     | exact ⟨i1, i2, i3, i4, i5, i6, i7, by omega, wc, by omega, by omega, by omega, by omega, by omega⟩
                     | (obtain ⟨p1, p2, p3, p4⟩ := hk288
                        subst p1; subst p2; subst p3; subst p4
                        exact ⟨i1.push (by omega) (by omega) (by omega), i2.push (by omega) (by omega), i3, i4, i5, i6, by omega, by omega, wc + 1, by omega, by omega, by omega, by omega, by omega⟩))
          · refine B.iload (pc := 242) dX7_layPieces_242 rfl ?_
            refine B.iload_n (pc := 244) (i := 2) dX7_layPieces_244 rfl rfl ?_
            refine B.icmp_eq (pc := 245) (tgt := 265) dX7_layPieces_245 (by decide) (fun c245 => ?_) (fun c245 => ?_)
            · have hcl := ct_le (sz := m_size) (kd := m_kind) (n := n) (k := q) (w := 0) hD1
              obtain ⟨wc0, wd1, wd2, wd3, wd4, wd5⟩ := id i9
              refine B.aload_n (pc := 265) (i := 0) dX7_layPieces_265 rfl rfl ?_
              refine B.iload_n (pc := 266) (i := 1) dX7_layPieces_266 rfl rfl ?_
              refine B.iload (pc := 267) dX7_layPieces_267 rfl ?_
              refine B.iconst (pc := 269) dX7_layPieces_269 ⟨by decide, by decide⟩ ?_
              refine B.aload_n (pc := 270) (i := 0) dX7_layPieces_270 rfl rfl ?_
              refine B.getfield (pc := 271) 0 rfl rfl inX7z 6 (by decide) fl_X7_25 rfl dX7_layPieces_271 ?_
              refine B.iconst (pc := 274) dX7_layPieces_274 ⟨by decide, by decide⟩ ?_
              refine B.iaload (pc := 275) 6 rfl (by omega) (by omega) dX7_layPieces_275 (fun r275 => ?_)
              obtain ⟨lr275, ur275⟩ := r275
              refine B.iload (pc := 276) dX7_layPieces_276 rfl ?_
              refine B.aload_n (pc := 278) (i := 0) dX7_layPieces_278 rfl rfl ?_
              refine B.getfield (pc := 279) 0 rfl rfl inX7z 6 (by decide) fl_X7_25 rfl dX7_layPieces_279 ?_
              refine B.iconst (pc := 282) dX7_layPieces_282 ⟨by decide, by decide⟩ ?_
              refine B.iaload (pc := 283) 6 rfl (by omega) (by omega) dX7_layPieces_283 (fun r283 => ?_)
              obtain ⟨lr283, ur283⟩ := r283
              refine B.imul (pc := 284) dX7_layPieces_284 (zmul_r (by omega) (by omega) (by omega) (by omega)) ?_
              have hzm := zmul_b (x := n) (y := m_rules (2 : Int).toNat) (a := 6) (b := 99) (by omega) (by omega) (by omega) (by omega)
              refine B.iadd (pc := 285) dX7_layPieces_285 ⟨by omega, by omega⟩ ?_
              refine B.bipush (pc := 286) dX7_layPieces_286 ⟨by decide, by decide⟩ ?_
              refine B.callVv (pc := 288) 5 (mX7_put hE _ _ _ _ _ _ _ _ _ _ _ _ _ _ _ _ _ _ _ _ _ _ _ _ _ _ _ _ _ _ _ _ _ _ _ _ _ _ _ _ _ _ _ _ _ _ _ _ _ _ _ _ _ _ _) 0 rfl rfl ml_X7_123 im_X7_put se_X7_put it_X7 co_X7_put (by decide +kernel) rfl rfl rfl ⟨by decide, by decide⟩ ⟨by decide, by decide⟩ [0, 1, 2, 3, 4, 5, 6, 7, 8, 9, 10, 11, 12, 13, 14, 15, 16, 17, 18, 19, 20, 21] rfl rfl rfl (Nat.le_of_ble_eq_true rfl) dX7_layPieces_288 (fun _ => by omega) (fun uk288 ruk288 rak288 hqk288 => ?_)
              obtain ⟨m_many_k288, m_place_k288, m_length_k288, m_sort_k288, m_price_k288, m_of_k288, rfl, hk288⟩ := hqk288
              simp only [zput, List.set_cons_zero, List.set_cons_succ, List.append_nil, Nat.add_zero]
              refine B.iinc (pc := 291) dX7_layPieces_291 (by decide) rfl ⟨by omega, by omega⟩ ?_
              simp only [List.set_cons_zero, List.set_cons_succ]
              refine B.goto (pc := 294) (tgt := 145) dX7_layPieces_294 (by decide) ?_
              refine (ih _ ?_).2.2.2.1 _ _ ⟨_, _, _, _, _, _, _, _, _, _, _, _, _, _, rfl, rfl, rfl, ?_⟩
              · omega
              · first
                  | (have hc0 := Int.natCast_nonneg (cn (fun i => decide (m_size i < 1 ∨ (m_size i = 1 ∧ m_kind i < 0) ∨ (m_size i = 1 ∧ m_kind i = 0 ∧ (i : Int) < 0))) m_words.toNat)
                     exact ⟨i1, i2, i3, i4, i5, i6, i7, by omega, 0, by unfold ct; omega, by omega, by omega, by omega, by omega⟩)
                  | (obtain ⟨wc, w1, w2, w3, w4, w5⟩ := i9
                     have hcn := ct_n (sz := m_size) (kd := m_kind) (wd := m_words) (n := n) (w := 0) (fun i => Int.le_refl _)
                     have hq3 : q = 3 := by omega
                     subst hq3
                     first
                       | exact ⟨i1, i2, i3, i4, i5, i6, i7, by omega, wc, by omega, by omega, by omega, by omega, by omega⟩
                       | (obtain ⟨p1, p2, p3, p4⟩ := hk288
                          subst p1; subst p2; subst p3; subst p4
                          exact ⟨i1.push (by omega) (by omega) (by omega), i2.push (by omega) (by omega), i3, i4, i5, i6, by omega, by omega, wc + 1, by omega, by omega, by omega, by omega, by omega⟩))
            · refine B.iload (pc := 248) dX7_layPieces_248 rfl ?_
              refine B.iload_n (pc := 250) (i := 2) dX7_layPieces_250 rfl rfl ?_
              refine B.icmp_ge (pc := 251) (tgt := 291) dX7_layPieces_251 (by decide) (fun c251 => ?_) (fun c251 => ?_)
              · refine B.iinc (pc := 291) dX7_layPieces_291 (by decide) rfl ⟨by omega, by omega⟩ ?_
                simp only [List.set_cons_zero, List.set_cons_succ]
                refine B.goto (pc := 294) (tgt := 145) dX7_layPieces_294 (by decide) ?_
                refine (ih _ ?_).2.2.2.1 _ _ ⟨_, _, _, _, _, _, _, _, _, _, _, _, _, _, rfl, rfl, rfl, ?_⟩
                · omega
                · first
                    | (have hc0 := Int.natCast_nonneg (cn (fun i => decide (m_size i < 1 ∨ (m_size i = 1 ∧ m_kind i < 0) ∨ (m_size i = 1 ∧ m_kind i = 0 ∧ (i : Int) < 0))) m_words.toNat)
                       exact ⟨i1, i2, i3, i4, i5, i6, i7, by omega, 0, by unfold ct; omega, by omega, by omega, by omega, by omega⟩)
                    | (obtain ⟨wc, w1, w2, w3, w4, w5⟩ := i9
                       have hcn := ct_n (sz := m_size) (kd := m_kind) (wd := m_words) (n := n) (w := 0) (fun i => Int.le_refl _)
                       have hq3 : q = 3 := by omega
                       subst hq3
                       first
                         | exact ⟨i1, i2, i3, i4, i5, i6, i7, by omega, wc, by omega, by omega, by omega, by omega, by omega⟩
                         | (obtain ⟨p1, p2, p3, p4⟩ := hk288
                            subst p1; subst p2; subst p3; subst p4
                            exact ⟨i1.push (by omega) (by omega) (by omega), i2.push (by omega) (by omega), i3, i4, i5, i6, by omega, by omega, wc + 1, by omega, by omega, by omega, by omega, by omega⟩))
              · refine B.iload (pc := 254) dX7_layPieces_254 rfl ?_
                refine B.aload_n (pc := 256) (i := 0) dX7_layPieces_256 rfl rfl ?_
                refine B.getfield (pc := 257) 0 rfl rfl inX7z 6 (by decide) fl_X7_25 rfl dX7_layPieces_257 ?_
                refine B.iconst (pc := 260) dX7_layPieces_260 ⟨by decide, by decide⟩ ?_
                refine B.iaload (pc := 261) 6 rfl (by omega) (by omega) dX7_layPieces_261 (fun r261 => ?_)
                obtain ⟨lr261, ur261⟩ := r261
                refine B.icmp_gt (pc := 262) (tgt := 291) dX7_layPieces_262 (by decide) (fun c262 => ?_) (fun c262 => ?_)
                · refine B.iinc (pc := 291) dX7_layPieces_291 (by decide) rfl ⟨by omega, by omega⟩ ?_
                  simp only [List.set_cons_zero, List.set_cons_succ]
                  refine B.goto (pc := 294) (tgt := 145) dX7_layPieces_294 (by decide) ?_
                  refine (ih _ ?_).2.2.2.1 _ _ ⟨_, _, _, _, _, _, _, _, _, _, _, _, _, _, rfl, rfl, rfl, ?_⟩
                  · omega
                  · first
                      | (have hc0 := Int.natCast_nonneg (cn (fun i => decide (m_size i < 1 ∨ (m_size i = 1 ∧ m_kind i < 0) ∨ (m_size i = 1 ∧ m_kind i = 0 ∧ (i : Int) < 0))) m_words.toNat)
                         exact ⟨i1, i2, i3, i4, i5, i6, i7, by omega, 0, by unfold ct; omega, by omega, by omega, by omega, by omega⟩)
                      | (obtain ⟨wc, w1, w2, w3, w4, w5⟩ := i9
                         have hcn := ct_n (sz := m_size) (kd := m_kind) (wd := m_words) (n := n) (w := 0) (fun i => Int.le_refl _)
                         have hq3 : q = 3 := by omega
                         subst hq3
                         first
                           | exact ⟨i1, i2, i3, i4, i5, i6, i7, by omega, wc, by omega, by omega, by omega, by omega, by omega⟩
                           | (obtain ⟨p1, p2, p3, p4⟩ := hk288
                              subst p1; subst p2; subst p3; subst p4
                              exact ⟨i1.push (by omega) (by omega) (by omega), i2.push (by omega) (by omega), i3, i4, i5, i6, by omega, by omega, wc + 1, by omega, by omega, by omega, by omega, by omega⟩))
                · have hcl := ct_le (sz := m_size) (kd := m_kind) (n := n) (k := q) (w := 0) hD1
                  obtain ⟨wc0, wd1, wd2, wd3, wd4, wd5⟩ := id i9
                  refine B.aload_n (pc := 265) (i := 0) dX7_layPieces_265 rfl rfl ?_
                  refine B.iload_n (pc := 266) (i := 1) dX7_layPieces_266 rfl rfl ?_
                  refine B.iload (pc := 267) dX7_layPieces_267 rfl ?_
                  refine B.iconst (pc := 269) dX7_layPieces_269 ⟨by decide, by decide⟩ ?_
                  refine B.aload_n (pc := 270) (i := 0) dX7_layPieces_270 rfl rfl ?_
                  refine B.getfield (pc := 271) 0 rfl rfl inX7z 6 (by decide) fl_X7_25 rfl dX7_layPieces_271 ?_
                  refine B.iconst (pc := 274) dX7_layPieces_274 ⟨by decide, by decide⟩ ?_
                  refine B.iaload (pc := 275) 6 rfl (by omega) (by omega) dX7_layPieces_275 (fun r275 => ?_)
                  obtain ⟨lr275, ur275⟩ := r275
                  refine B.iload (pc := 276) dX7_layPieces_276 rfl ?_
                  refine B.aload_n (pc := 278) (i := 0) dX7_layPieces_278 rfl rfl ?_
                  refine B.getfield (pc := 279) 0 rfl rfl inX7z 6 (by decide) fl_X7_25 rfl dX7_layPieces_279 ?_
                  refine B.iconst (pc := 282) dX7_layPieces_282 ⟨by decide, by decide⟩ ?_
                  refine B.iaload (pc := 283) 6 rfl (by omega) (by omega) dX7_layPieces_283 (fun r283 => ?_)
                  obtain ⟨lr283, ur283⟩ := r283
                  refine B.imul (pc := 284) dX7_layPieces_284 (zmul_r (by omega) (by omega) (by omega) (by omega)) ?_
                  have hzm := zmul_b (x := n) (y := m_rules (2 : Int).toNat) (a := 6) (b := 99) (by omega) (by omega) (by omega) (by omega)
                  refine B.iadd (pc := 285) dX7_layPieces_285 ⟨by omega, by omega⟩ ?_
                  refine B.bipush (pc := 286) dX7_layPieces_286 ⟨by decide, by decide⟩ ?_
                  refine B.callVv (pc := 288) 5 (mX7_put hE _ _ _ _ _ _ _ _ _ _ _ _ _ _ _ _ _ _ _ _ _ _ _ _ _ _ _ _ _ _ _ _ _ _ _ _ _ _ _ _ _ _ _ _ _ _ _ _ _ _ _ _ _ _ _) 0 rfl rfl ml_X7_123 im_X7_put se_X7_put it_X7 co_X7_put (by decide +kernel) rfl rfl rfl ⟨by decide, by decide⟩ ⟨by decide, by decide⟩ [0, 1, 2, 3, 4, 5, 6, 7, 8, 9, 10, 11, 12, 13, 14, 15, 16, 17, 18, 19, 20, 21] rfl rfl rfl (Nat.le_of_ble_eq_true rfl) dX7_layPieces_288 (fun _ => by omega) (fun uk288 ruk288 rak288 hqk288 => ?_)
                  obtain ⟨m_many_k288, m_place_k288, m_length_k288, m_sort_k288, m_price_k288, m_of_k288, rfl, hk288⟩ := hqk288
                  simp only [zput, List.set_cons_zero, List.set_cons_succ, List.append_nil, Nat.add_zero]
                  refine B.iinc (pc := 291) dX7_layPieces_291 (by decide) rfl ⟨by omega, by omega⟩ ?_
                  simp only [List.set_cons_zero, List.set_cons_succ]
                  refine B.goto (pc := 294) (tgt := 145) dX7_layPieces_294 (by decide) ?_
                  refine (ih _ ?_).2.2.2.1 _ _ ⟨_, _, _, _, _, _, _, _, _, _, _, _, _, _, rfl, rfl, rfl, ?_⟩
                  · omega
                  · first
                      | (have hc0 := Int.natCast_nonneg (cn (fun i => decide (m_size i < 1 ∨ (m_size i = 1 ∧ m_kind i < 0) ∨ (m_size i = 1 ∧ m_kind i = 0 ∧ (i : Int) < 0))) m_words.toNat)
                         exact ⟨i1, i2, i3, i4, i5, i6, i7, by omega, 0, by unfold ct; omega, by omega, by omega, by omega, by omega⟩)
                      | (obtain ⟨wc, w1, w2, w3, w4, w5⟩ := i9
                         have hcn := ct_n (sz := m_size) (kd := m_kind) (wd := m_words) (n := n) (w := 0) (fun i => Int.le_refl _)
                         have hq3 : q = 3 := by omega
                         subst hq3
                         first
                           | exact ⟨i1, i2, i3, i4, i5, i6, i7, by omega, wc, by omega, by omega, by omega, by omega, by omega⟩
                           | (obtain ⟨p1, p2, p3, p4⟩ := hk288
                              subst p1; subst p2; subst p3; subst p4
                              exact ⟨i1.push (by omega) (by omega) (by omega), i2.push (by omega) (by omega), i3, i4, i5, i6, by omega, by omega, wc + 1, by omega, by omega, by omega, by omega, by omega⟩))
        · refine B.iconst (pc := 161) dX7_layPieces_161 ⟨by decide, by decide⟩ ?_
          refine B.istore (pc := 162) (i := 7) dX7_layPieces_162 (by decide) ?_
          simp only [List.set_cons_zero, List.set_cons_succ]
          refine (ih _ ?_).2.2.2.2.2 _ _ ⟨_, _, _, _, _, _, _, _, _, _, _, _, _, _, rfl, rfl, rfl, ?_⟩
          · omega
          · obtain ⟨wc, w1, w2, w3, w4, w5⟩ := i9
            first
              | exact ⟨i1, i2, i3, i4, i5, i6, i7, by omega, wc, w1, w2, w3, w4, w5⟩
              | (have hcw := ct_w (sz := m_size) (kd := m_kind) (wd := m_words) (n := n) (k := q) (w := w)
                 exact ⟨i1, i2, i3, i4, i5, i6, i7, by omega, wc, by omega, w2, w3, w4, w5⟩)
              | (have hcp := ct_put (sz := m_size) (kd := m_kind) (wd := m_words) (n := n) (k := q) (w := w) (by omega) (by omega) (by omega) (by omega)
                 obtain ⟨p1, p2, p3, p4⟩ := hk222
                 subst p1; subst p2; subst p3; subst p4
                 exact ⟨i1.push (by omega) (by omega) (by omega), i2.push (by omega) (by omega), i3, i4, i5, i6, by omega, by omega, wc, by omega, w2, w3, w4, w5⟩)
      · intro lv ws hJ
        obtain ⟨t, run, any, wi, n, q, w, m_many, m_place, m_length, m_sort, m_price, m_of, m_begins, rfl, rfl, rfl, hi⟩ := hJ
        obtain ⟨i1, i2, i3, i4, i5, i6, i7, i8, i9⟩ := hi
        refine B.iload (pc := 164) dX7_layPieces_164 rfl ?_
        refine B.aload_n (pc := 166) (i := 0) dX7_layPieces_166 rfl rfl ?_
        refine B.getfield (pc := 167) 0 rfl rfl inX7z 4 (by decide) fl_X7_106 rfl dX7_layPieces_167 ?_
        refine B.icmp_ge (pc := 170) (tgt := 231) dX7_layPieces_170 (by decide) (fun c170 => ?_) (fun c170 => ?_)
        · refine B.iinc (pc := 231) dX7_layPieces_231 (by decide) rfl ⟨by omega, by omega⟩ ?_
          simp only [List.set_cons_zero, List.set_cons_succ]
          refine B.goto (pc := 234) (tgt := 155) dX7_layPieces_234 (by decide) ?_
          refine (ih _ ?_).2.2.2.2.1 _ _ ⟨_, _, _, _, _, _, _, _, _, _, _, _, _, _, rfl, rfl, rfl, ?_⟩
          · omega
          · obtain ⟨wc, w1, w2, w3, w4, w5⟩ := i9
            first
              | exact ⟨i1, i2, i3, i4, i5, i6, i7, by omega, wc, w1, w2, w3, w4, w5⟩
              | (have hck := ct_k (sz := m_size) (kd := m_kind) (wd := m_words) (n := n) (k := q) (w := w)
                 exact ⟨i1, i2, i3, i4, i5, i6, i7, by omega, wc, by omega, w2, w3, w4, w5⟩)
        · have hd := hD.at (x := w) (by omega) (by omega)
          refine B.aload_n (pc := 173) (i := 0) dX7_layPieces_173 rfl rfl ?_
          refine B.getfield (pc := 174) 0 rfl rfl inX7z 1 (by decide) fl_X7_13 rfl dX7_layPieces_174 ?_
          refine B.iload (pc := 177) dX7_layPieces_177 rfl ?_
          refine B.iaload (pc := 179) 2 rfl (by omega) (by omega) dX7_layPieces_179 (fun r179 => ?_)
          obtain ⟨lr179, ur179⟩ := r179
          refine B.iload (pc := 180) dX7_layPieces_180 rfl ?_
          refine B.icmp_ne (pc := 182) (tgt := 225) dX7_layPieces_182 (by decide) (fun c182 => ?_) (fun c182 => ?_)
          · refine B.iinc (pc := 225) dX7_layPieces_225 (by decide) rfl ⟨by omega, by omega⟩ ?_
            simp only [List.set_cons_zero, List.set_cons_succ]
            refine B.goto (pc := 228) (tgt := 164) dX7_layPieces_228 (by decide) ?_
            refine (ih _ ?_).2.2.2.2.2 _ _ ⟨_, _, _, _, _, _, _, _, _, _, _, _, _, _, rfl, rfl, rfl, ?_⟩
            · omega
            · obtain ⟨wc, w1, w2, w3, w4, w5⟩ := i9
              first
                | exact ⟨i1, i2, i3, i4, i5, i6, i7, by omega, wc, w1, w2, w3, w4, w5⟩
                | (have hcw := ct_w (sz := m_size) (kd := m_kind) (wd := m_words) (n := n) (k := q) (w := w)
                   exact ⟨i1, i2, i3, i4, i5, i6, i7, by omega, wc, by omega, w2, w3, w4, w5⟩)
                | (have hcp := ct_put (sz := m_size) (kd := m_kind) (wd := m_words) (n := n) (k := q) (w := w) (by omega) (by omega) (by omega) (by omega)
                   obtain ⟨p1, p2, p3, p4⟩ := hk222
                   subst p1; subst p2; subst p3; subst p4
                   exact ⟨i1.push (by omega) (by omega) (by omega), i2.push (by omega) (by omega), i3, i4, i5, i6, by omega, by omega, wc, by omega, w2, w3, w4, w5⟩)
          · refine B.aload_n (pc := 185) (i := 0) dX7_layPieces_185 rfl rfl ?_
            refine B.getfield (pc := 186) 0 rfl rfl inX7z 2 (by decide) fl_X7_16 rfl dX7_layPieces_186 ?_
            refine B.iload (pc := 189) dX7_layPieces_189 rfl ?_
            refine B.iaload (pc := 191) 3 rfl (by omega) (by omega) dX7_layPieces_191 (fun r191 => ?_)
            obtain ⟨lr191, ur191⟩ := r191
            refine B.iload (pc := 192) dX7_layPieces_192 rfl ?_
            refine B.icmp_ne (pc := 194) (tgt := 225) dX7_layPieces_194 (by decide) (fun c194 => ?_) (fun c194 => ?_)
            · refine B.iinc (pc := 225) dX7_layPieces_225 (by decide) rfl ⟨by omega, by omega⟩ ?_
              simp only [List.set_cons_zero, List.set_cons_succ]
              refine B.goto (pc := 228) (tgt := 164) dX7_layPieces_228 (by decide) ?_
              refine (ih _ ?_).2.2.2.2.2 _ _ ⟨_, _, _, _, _, _, _, _, _, _, _, _, _, _, rfl, rfl, rfl, ?_⟩
              · omega
              · obtain ⟨wc, w1, w2, w3, w4, w5⟩ := i9
                first
                  | exact ⟨i1, i2, i3, i4, i5, i6, i7, by omega, wc, w1, w2, w3, w4, w5⟩
                  | (have hcw := ct_w (sz := m_size) (kd := m_kind) (wd := m_words) (n := n) (k := q) (w := w)
                     exact ⟨i1, i2, i3, i4, i5, i6, i7, by omega, wc, by omega, w2, w3, w4, w5⟩)
                  | (have hcp := ct_put (sz := m_size) (kd := m_kind) (wd := m_words) (n := n) (k := q) (w := w) (by omega) (by omega) (by omega) (by omega)
                     obtain ⟨p1, p2, p3, p4⟩ := hk222
                     subst p1; subst p2; subst p3; subst p4
                     exact ⟨i1.push (by omega) (by omega) (by omega), i2.push (by omega) (by omega), i3, i4, i5, i6, by omega, by omega, wc, by omega, w2, w3, w4, w5⟩)
            · refine B.aload_n (pc := 197) (i := 0) dX7_layPieces_197 rfl rfl ?_
              refine B.iload (pc := 198) dX7_layPieces_198 rfl ?_
              refine B.iload_n (pc := 200) (i := 1) dX7_layPieces_200 rfl rfl ?_
              refine B.callVi (pc := 201) 2 (mX7_stands hE _ _ _ _ _ _ _ _ _ _ _ _ _ _ _ _ _ _ _ _ _ _ _ _ _ _ _ _ _ _ _ _ _ _ _ _ _ _ _ _ _ _ _ _ _ _ _ _ _ _ _ _) 0 rfl rfl ml_X7_119 im_X7_stands se_X7_stands it_X7 co_X7_stands (by decide +kernel) rfl rfl rfl ⟨by decide, by decide⟩ ⟨by decide, by decide⟩ [0, 1, 2, 3, 4, 5, 6, 7, 8, 9, 10, 11, 12, 13, 14, 15, 16, 17, 18, 19, 20, 21] rfl rfl rfl (Nat.le_of_ble_eq_true rfl) dX7_layPieces_201 (fun _ => ⟨hD, by omega, by omega, by omega, by omega, by omega⟩) (fun zk201 uk201 rzk201 ruk201 rak201 hqk201 => ?_)
              obtain ⟨lzk201, uzk201⟩ := rzk201
              obtain ⟨rfl, hk201⟩ := hqk201
              simp only [zput, List.set_cons_zero, List.set_cons_succ, List.append_nil, Nat.add_zero]
              refine B.if_eq (pc := 204) (tgt := 225) dX7_layPieces_204 (by decide) (fun c204 => ?_) (fun c204 => ?_)
              · refine B.iinc (pc := 225) dX7_layPieces_225 (by decide) rfl ⟨by omega, by omega⟩ ?_
                simp only [List.set_cons_zero, List.set_cons_succ]
                refine B.goto (pc := 228) (tgt := 164) dX7_layPieces_228 (by decide) ?_
                refine (ih _ ?_).2.2.2.2.2 _ _ ⟨_, _, _, _, _, _, _, _, _, _, _, _, _, _, rfl, rfl, rfl, ?_⟩
                · omega
                · obtain ⟨wc, w1, w2, w3, w4, w5⟩ := i9
                  first
                    | exact ⟨i1, i2, i3, i4, i5, i6, i7, by omega, wc, w1, w2, w3, w4, w5⟩
                    | (have hcw := ct_w (sz := m_size) (kd := m_kind) (wd := m_words) (n := n) (k := q) (w := w)
                       exact ⟨i1, i2, i3, i4, i5, i6, i7, by omega, wc, by omega, w2, w3, w4, w5⟩)
                    | (have hcp := ct_put (sz := m_size) (kd := m_kind) (wd := m_words) (n := n) (k := q) (w := w) (by omega) (by omega) (by omega) (by omega)
                       obtain ⟨p1, p2, p3, p4⟩ := hk222
                       subst p1; subst p2; subst p3; subst p4
                       exact ⟨i1.push (by omega) (by omega) (by omega), i2.push (by omega) (by omega), i3, i4, i5, i6, by omega, by omega, wc, by omega, w2, w3, w4, w5⟩)
              · have hcp := ct_put (sz := m_size) (kd := m_kind) (wd := m_words) (n := n) (k := q) (w := w) (by omega) (by omega) (by omega) (by omega)
                have hcl := ct_le (sz := m_size) (kd := m_kind) (n := n) (k := q) (w := w + 1) hD1
                obtain ⟨wc0, wd1, wd2, wd3, wd4, wd5⟩ := id i9
                refine B.aload_n (pc := 207) (i := 0) dX7_layPieces_207 rfl rfl ?_
                refine B.iload_n (pc := 208) (i := 1) dX7_layPieces_208 rfl rfl ?_
                refine B.iload (pc := 209) dX7_layPieces_209 rfl ?_
                refine B.iload (pc := 211) dX7_layPieces_211 rfl ?_
                refine B.aload_n (pc := 213) (i := 0) dX7_layPieces_213 rfl rfl ?_
                refine B.getfield (pc := 214) 0 rfl rfl inX7z 3 (by decide) fl_X7_19 rfl dX7_layPieces_214 ?_
                refine B.iload (pc := 217) dX7_layPieces_217 rfl ?_
                refine B.iaload (pc := 219) 4 rfl (by omega) (by omega) dX7_layPieces_219 (fun r219 => ?_)
                obtain ⟨lr219, ur219⟩ := r219
                refine B.iload (pc := 220) dX7_layPieces_220 rfl ?_
                refine B.callVv (pc := 222) 5 (mX7_put hE _ _ _ _ _ _ _ _ _ _ _ _ _ _ _ _ _ _ _ _ _ _ _ _ _ _ _ _ _ _ _ _ _ _ _ _ _ _ _ _ _ _ _ _ _ _ _ _ _ _ _ _ _ _ _) 0 rfl rfl ml_X7_123 im_X7_put se_X7_put it_X7 co_X7_put (by decide +kernel) rfl rfl rfl ⟨by decide, by decide⟩ ⟨by decide, by decide⟩ [0, 1, 2, 3, 4, 5, 6, 7, 8, 9, 10, 11, 12, 13, 14, 15, 16, 17, 18, 19, 20, 21] rfl rfl rfl (Nat.le_of_ble_eq_true rfl) dX7_layPieces_222 (fun _ => by omega) (fun uk222 ruk222 rak222 hqk222 => ?_)
                obtain ⟨m_many_k222, m_place_k222, m_length_k222, m_sort_k222, m_price_k222, m_of_k222, rfl, hk222⟩ := hqk222
                simp only [zput, List.set_cons_zero, List.set_cons_succ, List.append_nil, Nat.add_zero]
                refine B.iinc (pc := 225) dX7_layPieces_225 (by decide) rfl ⟨by omega, by omega⟩ ?_
                simp only [List.set_cons_zero, List.set_cons_succ]
                refine B.goto (pc := 228) (tgt := 164) dX7_layPieces_228 (by decide) ?_
                refine (ih _ ?_).2.2.2.2.2 _ _ ⟨_, _, _, _, _, _, _, _, _, _, _, _, _, _, rfl, rfl, rfl, ?_⟩
                · omega
                · obtain ⟨wc, w1, w2, w3, w4, w5⟩ := i9
                  first
                    | exact ⟨i1, i2, i3, i4, i5, i6, i7, by omega, wc, w1, w2, w3, w4, w5⟩
                    | (have hcw := ct_w (sz := m_size) (kd := m_kind) (wd := m_words) (n := n) (k := q) (w := w)
                       exact ⟨i1, i2, i3, i4, i5, i6, i7, by omega, wc, by omega, w2, w3, w4, w5⟩)
                    | (have hcp := ct_put (sz := m_size) (kd := m_kind) (wd := m_words) (n := n) (k := q) (w := w) (by omega) (by omega) (by omega) (by omega)
                       obtain ⟨p1, p2, p3, p4⟩ := hk222
                       subst p1; subst p2; subst p3; subst p4
                       exact ⟨i1.push (by omega) (by omega) (by omega), i2.push (by omega) (by omega), i3, i4, i5, i6, by omega, by omega, wc, by omega, w2, w3, w4, w5⟩)
  show Z 0 0 0 [some (.inr (some m_a)), none, none, none, none, none, none, none] [] _
  refine B.aload_n (pc := 0) (i := 0) dX7_layPieces_0 rfl rfl ?_
  refine B.iconst (pc := 1) dX7_layPieces_1 ⟨by decide, by decide⟩ ?_
  refine B.putfield (pc := 2) 0 rfl rfl inX7z tyX7 tyX7_ok nmX7 20 (by decide) fl_X7_112 rfl rfl rfl (Nat.le_of_ble_eq_true rfl) dX7_layPieces_2 ?_
  simp only [List.set_cons_zero, List.set_cons_succ]
  refine B.iconst (pc := 5) dX7_layPieces_5 ⟨by decide, by decide⟩ ?_
  refine B.istore_n (pc := 6) (i := 1) dX7_layPieces_6 rfl (by decide) ?_
  simp only [List.set_cons_zero, List.set_cons_succ]
  refine (key _).1 _ _ ⟨_, _, _, _, _, _, _, _, _, _, _, _, _, _, rfl, rfl, rfl, ?_⟩
  exact ⟨⟨fun p hp => by omega, fun p i hp => by omega⟩, fun i hi => by omega, by omega, by omega, by omega, by omega⟩
