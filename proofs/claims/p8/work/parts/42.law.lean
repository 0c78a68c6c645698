set_option maxHeartbeats 8000000 in
set_option maxRecDepth 100000 in
theorem law_loop {l : Launch} {D : va_G} {k : zK} {aR aS aV b L : Nat} {sx : Nat → Int} (hL : L ≤ 2048) (hs : ∀ j, zR (sx j)) {Z : zP} (B : zB l D k (zEL aR aS aV b L sx) cL_law RL 4 room_1 600000 7302250 (some .boolean) False [] (fun z _ => z = 1) Z) (c_a c_pad_a c_pad_signs_a c_book_a c_book_dictionary_a c_book_dictionary_letters_a c_book_dictionary_lengths_a c_book_dictionary_kinds_a c_book_dictionary_costs_a c_book_joins_a c_book_rules_a c_book_line_a c_images_a c_net_a c_net_places_a c_net_lengths_a c_net_kinds_a c_net_costs_a c_net_words_a c_net_firsts_a c_net_joins_a c_net_slots_a c_net_routes_a c_ranking_a c_ranking_before_a c_ranking_counts_a c_ranking_kept_a c_ranking_followed_a c_writing_a c_writing_signs_a m_a m_letters_a m_size_a m_kind_a m_cost_a m_joins_a m_rules_a m_line_a m_pad_a m_place_a m_length_a m_sort_a m_price_a m_of_a m_begins_a m_rowCost_a m_rowNext_a m_rows_a m_ahead_a m_waysTo_a m_image_a m_isKept_a : Nat) : ∀ (mu_ t : Nat), mu_ + t = 600 → ∀ (c_pad_count c_pad_letters c_pad_kind c_pad_cost c_book_dictionary_count c_book_lineLength c_net_lineLength c_net_count c_writing_count c_netStands c_rankingStands m_words m_long1 m_signs m_readSize m_readKind m_readCost m_many : Int) (c_pad_signs c_book_dictionary_letters c_book_dictionary_lengths c_book_dictionary_kinds c_book_dictionary_costs c_book_joins c_book_rules c_book_line c_net_places c_net_lengths c_net_kinds c_net_costs c_net_words c_net_firsts c_net_joins c_net_slots c_net_routes c_ranking_before c_ranking_counts c_ranking_kept c_ranking_followed c_writing_signs m_letters m_size m_kind m_cost m_joins m_rules m_line m_pad m_place m_length m_sort m_price m_of m_begins m_rowCost m_rowNext m_rows m_ahead m_waysTo m_image m_isKept : Nat → Int) (c_images : Nat → Option Nat) (ex : zW), 4 * (t : Int) ≤ L + 3 → CI c_pad_count c_book_dictionary_count c_book_dictionary_lengths c_book_dictionary_kinds c_book_dictionary_costs c_book_joins c_book_rules c_book_lineLength c_net_lineLength c_net_count c_net_places c_net_lengths c_net_kinds c_net_costs c_net_firsts c_net_joins c_ranking_counts c_ranking_kept c_ranking_followed c_writing_count c_netStands → MI m_words m_size m_kind m_cost m_joins m_rules m_long1 m_signs m_image m_isKept → (c_pad_count = m_signs) → (∀ j : Nat, (j : Int) < c_pad_count → c_pad_signs j = m_pad j) → DQ c_book_dictionary_count c_book_dictionary_letters c_book_dictionary_lengths c_book_dictionary_kinds c_book_dictionary_costs m_words m_letters m_size m_kind m_cost → UQ c_book_dictionary_count c_book_dictionary_letters c_book_dictionary_lengths c_book_dictionary_kinds → (∀ j : Nat, j < 25 → c_book_joins j = m_joins j) → (∀ j : Nat, j < 4 → c_book_rules j = m_rules j) → (c_book_lineLength = m_long1) → (∀ j : Nat, (j : Int) < c_book_lineLength → c_book_line j = m_line j) → (c_images 0 = none ↔ m_isKept 0 = 0) → (c_images 1 = none ↔ m_isKept 1 = 0) → IMG c_images ex (QI m_image 0) (QI m_image 230) → Z (52 + 9 * t) (20286 + 207 * t) 18 [some (.inr (some b)), some (.inr (some c_a)), some (.inr (some m_a)), some (.inl (4 * (t : Int)))] [] ((c_a, .inr (.inr (6, [.inr (some c_pad_a), .inr (some c_book_a), .inr (some c_images_a), .inr (some c_net_a), .inr (some c_ranking_a), .inr (some c_writing_a), .inl c_netStands, .inl c_rankingStands]))) :: (c_pad_a, .inr (.inr (3, [.inr (some c_pad_signs_a), .inl c_pad_count, .inl c_pad_letters, .inl c_pad_kind, .inl c_pad_cost]))) :: (c_pad_signs_a, .inl (false, 40, c_pad_signs)) :: (c_book_a, .inr (.inr (0, [.inr (some c_book_dictionary_a), .inr (some c_book_joins_a), .inr (some c_book_rules_a), .inr (some c_book_line_a), .inl c_book_lineLength]))) :: (c_book_dictionary_a, .inr (.inr (1, [.inr (some c_book_dictionary_letters_a), .inr (some c_book_dictionary_lengths_a), .inr (some c_book_dictionary_kinds_a), .inr (some c_book_dictionary_costs_a), .inl c_book_dictionary_count]))) :: (c_book_dictionary_letters_a, .inl (false, 96, c_book_dictionary_letters)) :: (c_book_dictionary_lengths_a, .inl (false, 16, c_book_dictionary_lengths)) :: (c_book_dictionary_kinds_a, .inl (false, 16, c_book_dictionary_kinds)) :: (c_book_dictionary_costs_a, .inl (false, 16, c_book_dictionary_costs)) :: (c_book_joins_a, .inl (false, 25, c_book_joins)) :: (c_book_rules_a, .inl (false, 4, c_book_rules)) :: (c_book_line_a, .inl (false, 24, c_book_line)) :: (c_images_a, .inr (.inl (2, c_images))) :: (c_net_a, .inr (.inr (2, [.inl c_net_lineLength, .inl c_net_count, .inr (some c_net_places_a), .inr (some c_net_lengths_a), .inr (some c_net_kinds_a), .inr (some c_net_costs_a), .inr (some c_net_words_a), .inr (some c_net_firsts_a), .inr (some c_net_joins_a), .inr (some c_net_slots_a), .inr (some c_net_routes_a)]))) :: (c_net_places_a, .inl (false, 480, c_net_places)) :: (c_net_lengths_a, .inl (false, 480, c_net_lengths)) :: (c_net_kinds_a, .inl (false, 480, c_net_kinds)) :: (c_net_costs_a, .inl (false, 480, c_net_costs)) :: (c_net_words_a, .inl (false, 480, c_net_words)) :: (c_net_firsts_a, .inl (false, 25, c_net_firsts)) :: (c_net_joins_a, .inl (false, 25, c_net_joins)) :: (c_net_slots_a, .inl (false, 28, c_net_slots)) :: (c_net_routes_a, .inl (false, 25, c_net_routes)) :: (c_ranking_a, .inr (.inr (4, [.inr (some c_ranking_before_a), .inr (some c_ranking_counts_a), .inr (some c_ranking_kept_a), .inr (some c_ranking_followed_a)]))) :: (c_ranking_before_a, .inl (false, 125, c_ranking_before)) :: (c_ranking_counts_a, .inl (false, 125, c_ranking_counts)) :: (c_ranking_kept_a, .inl (false, 1500, c_ranking_kept)) :: (c_ranking_followed_a, .inl (false, 24, c_ranking_followed)) :: (c_writing_a, .inr (.inr (5, [.inr (some c_writing_signs_a), .inl c_writing_count]))) :: (c_writing_signs_a, .inl (false, 71, c_writing_signs)) :: (m_a, .inr (.inr (7, [.inr (some m_letters_a), .inr (some m_size_a), .inr (some m_kind_a), .inr (some m_cost_a), .inl m_words, .inr (some m_joins_a), .inr (some m_rules_a), .inr (some m_line_a), .inl m_long1, .inl m_signs, .inr (some m_pad_a), .inl m_readSize, .inl m_readKind, .inl m_readCost, .inr (some m_place_a), .inr (some m_length_a), .inr (some m_sort_a), .inr (some m_price_a), .inr (some m_of_a), .inr (some m_begins_a), .inl m_many, .inr (some m_rowCost_a), .inr (some m_rowNext_a), .inr (some m_rows_a), .inr (some m_ahead_a), .inr (some m_waysTo_a), .inr (some m_image_a), .inr (some m_isKept_a)]))) :: (m_letters_a, .inl (false, 96, m_letters)) :: (m_size_a, .inl (false, 16, m_size)) :: (m_kind_a, .inl (false, 16, m_kind)) :: (m_cost_a, .inl (false, 16, m_cost)) :: (m_joins_a, .inl (false, 25, m_joins)) :: (m_rules_a, .inl (false, 4, m_rules)) :: (m_line_a, .inl (false, 24, m_line)) :: (m_pad_a, .inl (false, 40, m_pad)) :: (m_place_a, .inl (false, 480, m_place)) :: (m_length_a, .inl (false, 480, m_length)) :: (m_sort_a, .inl (false, 480, m_sort)) :: (m_price_a, .inl (false, 480, m_price)) :: (m_of_a, .inl (false, 480, m_of)) :: (m_begins_a, .inl (false, 26, m_begins)) :: (m_rowCost_a, .inl (false, 5760, m_rowCost)) :: (m_rowNext_a, .inl (false, 5760, m_rowNext)) :: (m_rows_a, .inl (false, 480, m_rows)) :: (m_ahead_a, .inl (false, 480, m_ahead)) :: (m_waysTo_a, .inl (false, 26, m_waysTo)) :: (m_image_a, .inl (false, 460, m_image)) :: (m_isKept_a, .inl (true, 2, m_isKept)) :: ex) := by
  have hE := zEL_ok aR aS aV b L sx
  have hEX := zEL_x aR aS aV b L sx
  intro mu_
  induction mu_ with
  | zero =>
    intro t h1 c_pad_count c_pad_letters c_pad_kind c_pad_cost c_book_dictionary_count c_book_lineLength c_net_lineLength c_net_count c_writing_count c_netStands c_rankingStands m_words m_long1 m_signs m_readSize m_readKind m_readCost m_many c_pad_signs c_book_dictionary_letters c_book_dictionary_lengths c_book_dictionary_kinds c_book_dictionary_costs c_book_joins c_book_rules c_book_line c_net_places c_net_lengths c_net_kinds c_net_costs c_net_words c_net_firsts c_net_joins c_net_slots c_net_routes c_ranking_before c_ranking_counts c_ranking_kept c_ranking_followed c_writing_signs m_letters m_size m_kind m_cost m_joins m_rules m_line m_pad m_place m_length m_sort m_price m_of m_begins m_rowCost m_rowNext m_rows m_ahead m_waysTo m_image m_isKept c_images ex h2
    exfalso; omega
  | succ mu_ ih =>
    intro t ht c_pad_count c_pad_letters c_pad_kind c_pad_cost c_book_dictionary_count c_book_lineLength c_net_lineLength c_net_count c_writing_count c_netStands c_rankingStands m_words m_long1 m_signs m_readSize m_readKind m_readCost m_many c_pad_signs c_book_dictionary_letters c_book_dictionary_lengths c_book_dictionary_kinds c_book_dictionary_costs c_book_joins c_book_rules c_book_line c_net_places c_net_lengths c_net_kinds c_net_costs c_net_words c_net_firsts c_net_joins c_net_slots c_net_routes c_ranking_before c_ranking_counts c_ranking_kept c_ranking_followed c_writing_signs m_letters m_size m_kind m_cost m_joins m_rules m_line m_pad m_place m_length m_sort m_price m_of m_begins m_rowCost m_rowNext m_rows m_ahead m_waysTo m_image m_isKept c_images ex hb hC hM hP1 hP2 hDq hUq hE1 hE2 hL1 hL2 hK0 hK1 hI
    refine B.iload_n (pc := 18) (i := 3) dL_law_18 rfl rfl ?_
    refine B.aload_n (pc := 19) (i := 0) dL_law_19 rfl rfl ?_
    refine B.scrlen (pc := 20) hL dL_law_20 ?_
    refine B.iconst (pc := 21) dL_law_21 ⟨by decide, by decide⟩ ?_
    refine B.isub (pc := 22) dL_law_22 ⟨by omega, by omega⟩ ?_
    refine B.icmp_gt (pc := 23) (tgt := 560) dL_law_23 (by decide) (fun c23 => ?_) (fun c23 => ?_)
    · refine B.iconst (pc := 560) dL_law_560 ⟨by decide, by decide⟩ ?_
      exact B.ireturn (pc := 561) (by simp) dL_law_561 (by omega) (by omega) (fun _ _ => rfl)
    · refine B.aload_n (pc := 26) (i := 0) dL_law_26 rfl rfl ?_
      refine B.iload_n (pc := 27) (i := 3) dL_law_27 rfl rfl ?_
      refine B.scrload (pc := 28) hs (by omega) (by omega) dL_law_28 ?_
      refine B.bipush (pc := 29) dL_law_29 ⟨by decide, by decide⟩ ?_
      refine B.iand (pc := 31) dL_law_31 (fun w31 rw31 ew31 => ?_)
      refine zsplitE (X := fun v => Z _ _ 32 _ (.inl v :: _) _) (0) (fun e32_0 => ?_) (fun c32_0 => ?_)
      · refine B.tsIn (pc := 32) (tgt := 120) dL_law_32 (by decide) (by decide) rfl (by decide) ?_
        refine B.aload_n (pc := 120) (i := 1) dL_law_120 rfl rfl ?_
        refine B.aload_n (pc := 121) (i := 0) dL_law_121 rfl rfl ?_
        refine B.iload_n (pc := 122) (i := 3) dL_law_122 rfl rfl ?_
        refine B.iconst (pc := 123) dL_law_123 ⟨by decide, by decide⟩ ?_
        refine B.iadd (pc := 124) dL_law_124 ⟨by omega, by omega⟩ ?_
        refine B.scrload (pc := 125) hs (by omega) (by omega) dL_law_125 ?_
        refine B.callVi (pc := 126) 1 (mX6_say hE _ _ _ _ _ _ _ _ _ _ _ _ _ _ _ _ _ _ _ _ _ _ _ _ _ _ _ _ _ _ _ _ _ _ _ _ _ _ _ _ _ _ _ _ _ _ _ _ _ _ _ _ _ _ _ _ _ _ _ _ _ _ _ _ _) 0 rfl rfl ml_L_13 im_X6_say se_X6_say it_X6 co_X6_say (by decide +kernel) rfl rfl rfl ⟨by decide, by decide⟩ ⟨(by show _ ≤ 600000; omega), (by show _ ≤ 7302250; omega)⟩ [0, 1, 2, 3, 4, 5, 6, 7, 8, 9, 10, 11, 12, 13, 14, 15, 16, 17, 18, 19, 20, 21, 22, 23, 24, 25, 26, 27, 28, 29] rfl rfl rfl (Nat.le_of_ble_eq_true rfl) dL_law_126 (fun _ => hC) (fun zk126 uk126 rzk126 ruk126 rak126 hqk126 => ?_)
        obtain ⟨lzk126, uzk126⟩ := rzk126
        obtain ⟨c_pad_count_k126, c_pad_signs_k126, rfl, hk126⟩ := hqk126
        simp only [zput, List.set_cons_zero, List.set_cons_succ, List.append_nil, Nat.add_zero]
        refine B.pop (pc := 129) dL_law_129 ?_
        refine B.aload_n (pc := 130) (i := 2) dL_law_130 rfl rfl ?_
        refine B.aload_n (pc := 131) (i := 0) dL_law_131 rfl rfl ?_
        refine B.iload_n (pc := 132) (i := 3) dL_law_132 rfl rfl ?_
        refine B.iconst (pc := 133) dL_law_133 ⟨by decide, by decide⟩ ?_
        refine B.iadd (pc := 134) dL_law_134 ⟨by omega, by omega⟩ ?_
        refine B.scrload (pc := 135) hs (by omega) (by omega) dL_law_135 ?_
        refine B.callVi (pc := 136) 1 (mX7_say hE _ _ _ _ _ _ _ _ _ _ _ _ _ _ _ _ _ _ _ _ _ _ _ _ _ _ _ _ _ _ _ _ _ _ _ _ _ _ _ _ _ _ _ _ _ _ _ _ _ _ _) 30 rfl rfl ml_L_17 im_X7_say se_X7_say it_X7 co_X7_say (by decide +kernel) rfl rfl rfl ⟨by decide, by decide⟩ ⟨(by show _ ≤ 600000; omega), (by show _ ≤ 7302250; omega)⟩ [30, 31, 32, 33, 34, 35, 36, 37, 38, 39, 40, 41, 42, 43, 44, 45, 46, 47, 48, 49, 50, 51] rfl rfl rfl (Nat.le_of_ble_eq_true rfl) dL_law_136 (fun _ => hM) (fun zk136 uk136 rzk136 ruk136 rak136 hqk136 => ?_)
        obtain ⟨lzk136, uzk136⟩ := rzk136
        obtain ⟨m_signs_k136, m_pad_k136, rfl, hk136⟩ := hqk136
        simp only [zput, List.set_cons_zero, List.set_cons_succ, List.append_nil, Nat.add_zero]
        have hj136 := zSS.same hk126.2 hk136.2 hC.1.1 hP1 hP2
        refine B.pop (pc := 139) dL_law_139 ?_
        refine B.goto (pc := 140) (tgt := 554) dL_law_140 (by decide) ?_
        refine B.iinc (pc := 554) dL_law_554 (by decide) rfl ⟨by omega, by omega⟩ ?_
        simp only [List.set_cons_zero, List.set_cons_succ]
        refine B.goto (pc := 557) (tgt := 18) dL_law_557 (by decide) ?_
        rw [show (4 * (t : Int) + 4) = 4 * ((t + 1 : Nat) : Int) by omega]
        refine B.widen (kc' := 52 + 9 * (t + 1)) (ks' := 20286 + 207 * (t + 1)) (by omega) (by omega) ?_
        exact ih (t + 1) (by omega) _ _ _ _ _ _ _ _ _ _ _ _ _ _ _ _ _ _ _ _ _ _ _ _ _ _ _ _ _ _ _ _ _ _ _ _ _ _ _ _ _ _ _ _ _ _ _ _ _ _ _ _ _ _ _ _ _ _ _ _ _ _ _ (by omega) hk126.1 hk136.1 hj136.2.1 hj136.2.2 hDq hUq hE1 hE2 hL1 hL2 hK0 hK1 hI
      refine zsplitE (X := fun v => Z _ _ 32 _ (.inl v :: _) _) (1) (fun e32_1 => ?_) (fun c32_1 => ?_)
      · refine B.tsIn (pc := 32) (tgt := 143) dL_law_32 (by decide) (by decide) rfl (by decide) ?_
        refine B.aload_n (pc := 143) (i := 1) dL_law_143 rfl rfl ?_
        refine B.callVi (pc := 144) 0 (mX6_wipe hE _ _ _ _ _ _ _ _ _ _ _ _ _ _ _ _ _ _ _ _ _ _ _ _ _ _ _ _ _ _ _ _ _ _ _ _ _ _ _ _ _ _ _ _ _ _ _ _ _ _ _ _ _ _ _ _ _ _ _ _ _ _ _ _) 0 rfl rfl ml_L_18 im_X6_wipe se_X6_wipe it_X6 co_X6_wipe (by decide +kernel) rfl rfl rfl ⟨by decide, by decide⟩ ⟨(by show _ ≤ 600000; omega), (by show _ ≤ 7302250; omega)⟩ [0, 1, 2, 3, 4, 5, 6, 7, 8, 9, 10, 11, 12, 13, 14, 15, 16, 17, 18, 19, 20, 21, 22, 23, 24, 25, 26, 27, 28, 29] rfl rfl rfl (Nat.le_of_ble_eq_true rfl) dL_law_144 (fun _ => hC) (fun zk144 uk144 rzk144 ruk144 rak144 hqk144 => ?_)
        obtain ⟨lzk144, uzk144⟩ := rzk144
        obtain ⟨c_pad_count_k144, rfl, hk144⟩ := hqk144
        simp only [zput, List.set_cons_zero, List.set_cons_succ, List.append_nil, Nat.add_zero]
        refine B.pop (pc := 147) dL_law_147 ?_
        refine B.aload_n (pc := 148) (i := 2) dL_law_148 rfl rfl ?_
        refine B.callVi (pc := 149) 0 (mX7_wipe hE _ _ _ _ _ _ _ _ _ _ _ _ _ _ _ _ _ _ _ _ _ _ _ _ _ _ _ _ _ _ _ _ _ _ _ _ _ _ _ _ _ _ _ _ _ _ _ _ _ _) 30 rfl rfl ml_L_22 im_X7_wipe se_X7_wipe it_X7 co_X7_wipe (by decide +kernel) rfl rfl rfl ⟨by decide, by decide⟩ ⟨(by show _ ≤ 600000; omega), (by show _ ≤ 7302250; omega)⟩ [30, 31, 32, 33, 34, 35, 36, 37, 38, 39, 40, 41, 42, 43, 44, 45, 46, 47, 48, 49, 50, 51] rfl rfl rfl (Nat.le_of_ble_eq_true rfl) dL_law_149 (fun _ => hM) (fun zk149 uk149 rzk149 ruk149 rak149 hqk149 => ?_)
        obtain ⟨lzk149, uzk149⟩ := rzk149
        obtain ⟨m_signs_k149, rfl, hk149⟩ := hqk149
        simp only [zput, List.set_cons_zero, List.set_cons_succ, List.append_nil, Nat.add_zero]
        have hj149 := zWP.same (sg := c_pad_signs) (sg2 := m_pad) hk144.2 hk149.2 hP1
        refine B.pop (pc := 152) dL_law_152 ?_
        refine B.goto (pc := 153) (tgt := 554) dL_law_153 (by decide) ?_
        refine B.iinc (pc := 554) dL_law_554 (by decide) rfl ⟨by omega, by omega⟩ ?_
        simp only [List.set_cons_zero, List.set_cons_succ]
        refine B.goto (pc := 557) (tgt := 18) dL_law_557 (by decide) ?_
        rw [show (4 * (t : Int) + 4) = 4 * ((t + 1 : Nat) : Int) by omega]
        refine B.widen (kc' := 52 + 9 * (t + 1)) (ks' := 20286 + 207 * (t + 1)) (by omega) (by omega) ?_
        exact ih (t + 1) (by omega) _ _ _ _ _ _ _ _ _ _ _ _ _ _ _ _ _ _ _ _ _ _ _ _ _ _ _ _ _ _ _ _ _ _ _ _ _ _ _ _ _ _ _ _ _ _ _ _ _ _ _ _ _ _ _ _ _ _ _ _ _ _ _ (by omega) hk144.1 hk149.1 hj149.2.1 hj149.2.2 hDq hUq hE1 hE2 hL1 hL2 hK0 hK1 hI
      refine zsplitE (X := fun v => Z _ _ 32 _ (.inl v :: _) _) (2) (fun e32_2 => ?_) (fun c32_2 => ?_)
      · refine B.tsIn (pc := 32) (tgt := 156) dL_law_32 (by decide) (by decide) rfl (by decide) ?_
        refine B.aload_n (pc := 156) (i := 1) dL_law_156 rfl rfl ?_
        refine B.aload_n (pc := 157) (i := 0) dL_law_157 rfl rfl ?_
        refine B.iload_n (pc := 158) (i := 3) dL_law_158 rfl rfl ?_
        refine B.iconst (pc := 159) dL_law_159 ⟨by decide, by decide⟩ ?_
        refine B.iadd (pc := 160) dL_law_160 ⟨by omega, by omega⟩ ?_
        refine B.scrload (pc := 161) hs (by omega) (by omega) dL_law_161 ?_
        refine B.callVi (pc := 162) 1 (mX6_fault hE hEX _ _ _ _ _ _ _ _ _ _ _ _ _ _ _ _ _ _ _ _ _ _ _ _ _ _ _ _ _ _ _ _ _ _ _ _ _ _ _ _ _ _ _ _ _ _ _ _ _ _ _ _ _ _ _ _ _ _ _ _ _ _ _ _ _) 0 rfl rfl ml_L_23 im_X6_fault se_X6_fault it_X6 co_X6_fault (by decide +kernel) rfl rfl rfl ⟨by decide, by decide⟩ ⟨(by show _ ≤ 600000; omega), (by show _ ≤ 7302250; omega)⟩ [0, 1, 2, 3, 4, 5, 6, 7, 8, 9, 10, 11, 12, 13, 14, 15, 16, 17, 18, 19, 20, 21, 22, 23, 24, 25, 26, 27, 28, 29] rfl rfl rfl (Nat.le_of_ble_eq_true rfl) dL_law_162 (fun _ => hC) (fun zk162 uk162 rzk162 ruk162 rak162 hqk162 => ?_)
        obtain ⟨lzk162, uzk162⟩ := rzk162
        obtain ⟨c_pad_letters_k162, c_pad_kind_k162, c_pad_cost_k162, rfl, hk162⟩ := hqk162
        simp only [zput, List.set_cons_zero, List.set_cons_succ, List.append_nil, Nat.add_zero]
        refine B.pop (pc := 165) dL_law_165 ?_
        refine B.aload_n (pc := 166) (i := 2) dL_law_166 rfl rfl ?_
        refine B.aload_n (pc := 167) (i := 0) dL_law_167 rfl rfl ?_
        refine B.iload_n (pc := 168) (i := 3) dL_law_168 rfl rfl ?_
        refine B.iconst (pc := 169) dL_law_169 ⟨by decide, by decide⟩ ?_
        refine B.iadd (pc := 170) dL_law_170 ⟨by omega, by omega⟩ ?_
        refine B.scrload (pc := 171) hs (by omega) (by omega) dL_law_171 ?_
        refine B.callVi (pc := 172) 1 (mX7_fault hE _ _ _ _ _ _ _ _ _ _ _ _ _ _ _ _ _ _ _ _ _ _ _ _ _ _ _ _ _ _ _ _ _ _ _ _ _ _ _ _ _ _ _ _ _ _ _ _ _ _ _) 30 rfl rfl ml_L_26 im_X7_fault se_X7_fault it_X7 co_X7_fault (by decide +kernel) rfl rfl rfl ⟨by decide, by decide⟩ ⟨(by show _ ≤ 600000; omega), (by show _ ≤ 7302250; omega)⟩ [30, 31, 32, 33, 34, 35, 36, 37, 38, 39, 40, 41, 42, 43, 44, 45, 46, 47, 48, 49, 50, 51] rfl rfl rfl (Nat.le_of_ble_eq_true rfl) dL_law_172 (fun _ => hM) (fun zk172 uk172 rzk172 ruk172 rak172 hqk172 => ?_)
        obtain ⟨lzk172, uzk172⟩ := rzk172
        obtain ⟨m_readSize_k172, m_readKind_k172, m_readCost_k172, rfl, hk172⟩ := hqk172
        simp only [zput, List.set_cons_zero, List.set_cons_succ, List.append_nil, Nat.add_zero]
        have hj172 := And.intro (zFT.same hk162 hk172 hP1 hP2) trivial
        refine B.pop (pc := 175) dL_law_175 ?_
        refine B.goto (pc := 176) (tgt := 554) dL_law_176 (by decide) ?_
        refine B.iinc (pc := 554) dL_law_554 (by decide) rfl ⟨by omega, by omega⟩ ?_
        simp only [List.set_cons_zero, List.set_cons_succ]
        refine B.goto (pc := 557) (tgt := 18) dL_law_557 (by decide) ?_
        rw [show (4 * (t : Int) + 4) = 4 * ((t + 1 : Nat) : Int) by omega]
        refine B.widen (kc' := 52 + 9 * (t + 1)) (ks' := 20286 + 207 * (t + 1)) (by omega) (by omega) ?_
        exact ih (t + 1) (by omega) _ _ _ _ _ _ _ _ _ _ _ _ _ _ _ _ _ _ _ _ _ _ _ _ _ _ _ _ _ _ _ _ _ _ _ _ _ _ _ _ _ _ _ _ _ _ _ _ _ _ _ _ _ _ _ _ _ _ _ _ _ _ _ (by omega) hC hM hP1 hP2 hDq hUq hE1 hE2 hL1 hL2 hK0 hK1 hI
      refine zsplitE (X := fun v => Z _ _ 32 _ (.inl v :: _) _) (3) (fun e32_3 => ?_) (fun c32_3 => ?_)
      · refine B.tsIn (pc := 32) (tgt := 179) dL_law_32 (by decide) (by decide) rfl (by decide) ?_
        refine B.aload_n (pc := 179) (i := 1) dL_law_179 rfl rfl ?_
        refine B.callVi (pc := 180) 0 (mX6_learn hE hEX _ _ _ _ _ _ _ _ _ _ _ _ _ _ _ _ _ _ _ _ _ _ _ _ _ _ _ _ _ _ _ _ _ _ _ _ _ _ _ _ _ _ _ _ _ _ _ _ _ _ _ _ _ _ _ _ _ _ _ _ _ _ _ _) 0 rfl rfl ml_L_27 im_X6_learn se_X6_learn it_X6 co_X6_learn (by decide +kernel) rfl rfl rfl ⟨by decide, by decide⟩ ⟨(by show _ ≤ 600000; omega), (by show _ ≤ 7302250; omega)⟩ [0, 1, 2, 3, 4, 5, 6, 7, 8, 9, 10, 11, 12, 13, 14, 15, 16, 17, 18, 19, 20, 21, 22, 23, 24, 25, 26, 27, 28, 29] rfl rfl rfl (Nat.le_of_ble_eq_true rfl) dL_law_180 (fun _ => hC) (fun zk180 uk180 rzk180 ruk180 rak180 hqk180 => ?_)
        obtain ⟨lzk180, uzk180⟩ := rzk180
        obtain ⟨c_pad_letters_k180, c_pad_kind_k180, c_pad_cost_k180, c_pad_count_k180, c_book_dictionary_count_k180, c_book_dictionary_letters_k180, c_book_dictionary_lengths_k180, c_book_dictionary_kinds_k180, c_book_dictionary_costs_k180, c_netStands_k180, c_rankingStands_k180, rfl, hk180⟩ := hqk180
        simp only [zput, List.set_cons_zero, List.set_cons_succ, List.append_nil, Nat.add_zero]
        refine B.pop (pc := 183) dL_law_183 ?_
        refine B.aload_n (pc := 184) (i := 2) dL_law_184 rfl rfl ?_
        refine B.callVi (pc := 185) 0 (mX7_learn hE _ _ _ _ _ _ _ _ _ _ _ _ _ _ _ _ _ _ _ _ _ _ _ _ _ _ _ _ _ _ _ _ _ _ _ _ _ _ _ _ _ _ _ _ _ _ _ _ _ _) 30 rfl rfl ml_L_30 im_X7_learn se_X7_learn it_X7 co_X7_learn (by decide +kernel) rfl rfl rfl ⟨by decide, by decide⟩ ⟨(by show _ ≤ 600000; omega), (by show _ ≤ 7302250; omega)⟩ [30, 31, 32, 33, 34, 35, 36, 37, 38, 39, 40, 41, 42, 43, 44, 45, 46, 47, 48, 49, 50, 51] rfl rfl rfl (Nat.le_of_ble_eq_true rfl) dL_law_185 (fun _ => hM) (fun zk185 uk185 rzk185 ruk185 rak185 hqk185 => ?_)
        obtain ⟨lzk185, uzk185⟩ := rzk185
        obtain ⟨m_words_k185, m_letters_k185, m_size_k185, m_kind_k185, m_cost_k185, m_signs_k185, m_readSize_k185, m_readKind_k185, m_readCost_k185, rfl, hk185⟩ := hqk185
        simp only [zput, List.set_cons_zero, List.set_cons_succ, List.append_nil, Nat.add_zero]
        have hj185 := zLE.same hk180.2 hk185.2 hC.2.1 hP1 hP2 hDq hUq
        refine B.pop (pc := 188) dL_law_188 ?_
        refine B.goto (pc := 189) (tgt := 554) dL_law_189 (by decide) ?_
        refine B.iinc (pc := 554) dL_law_554 (by decide) rfl ⟨by omega, by omega⟩ ?_
        simp only [List.set_cons_zero, List.set_cons_succ]
        refine B.goto (pc := 557) (tgt := 18) dL_law_557 (by decide) ?_
        rw [show (4 * (t : Int) + 4) = 4 * ((t + 1 : Nat) : Int) by omega]
        refine B.widen (kc' := 52 + 9 * (t + 1)) (ks' := 20286 + 207 * (t + 1)) (by omega) (by omega) ?_
        exact ih (t + 1) (by omega) _ _ _ _ _ _ _ _ _ _ _ _ _ _ _ _ _ _ _ _ _ _ _ _ _ _ _ _ _ _ _ _ _ _ _ _ _ _ _ _ _ _ _ _ _ _ _ _ _ _ _ _ _ _ _ _ _ _ _ _ _ _ _ (by omega) hk180.1 hk185.1 hj185.2.1.1 hj185.2.1.2 hj185.2.2.1 hj185.2.2.2 hE1 hE2 hL1 hL2 hK0 hK1 hI
      refine zsplitE (X := fun v => Z _ _ 32 _ (.inl v :: _) _) (4) (fun e32_4 => ?_) (fun c32_4 => ?_)
      · refine B.tsIn (pc := 32) (tgt := 192) dL_law_32 (by decide) (by decide) rfl (by decide) ?_
        refine B.aload_n (pc := 192) (i := 1) dL_law_192 rfl rfl ?_
        refine B.aload_n (pc := 193) (i := 0) dL_law_193 rfl rfl ?_
        refine B.iload_n (pc := 194) (i := 3) dL_law_194 rfl rfl ?_
        refine B.iconst (pc := 195) dL_law_195 ⟨by decide, by decide⟩ ?_
        refine B.iadd (pc := 196) dL_law_196 ⟨by omega, by omega⟩ ?_
        refine B.scrload (pc := 197) hs (by omega) (by omega) dL_law_197 ?_
        refine B.callVi (pc := 198) 1 (mX6_forget hE _ _ _ _ _ _ _ _ _ _ _ _ _ _ _ _ _ _ _ _ _ _ _ _ _ _ _ _ _ _ _ _ _ _ _ _ _ _ _ _ _ _ _ _ _ _ _ _ _ _ _ _ _ _ _ _ _ _ _ _ _ _ _ _ _) 0 rfl rfl ml_L_31 im_X6_forget se_X6_forget it_X6 co_X6_forget (by decide +kernel) rfl rfl rfl ⟨by decide, by decide⟩ ⟨(by show _ ≤ 600000; omega), (by show _ ≤ 7302250; omega)⟩ [0, 1, 2, 3, 4, 5, 6, 7, 8, 9, 10, 11, 12, 13, 14, 15, 16, 17, 18, 19, 20, 21, 22, 23, 24, 25, 26, 27, 28, 29] rfl rfl rfl (Nat.le_of_ble_eq_true rfl) dL_law_198 (fun _ => hC) (fun zk198 uk198 rzk198 ruk198 rak198 hqk198 => ?_)
        obtain ⟨lzk198, uzk198⟩ := rzk198
        obtain ⟨c_book_dictionary_count_k198, c_book_dictionary_letters_k198, c_book_dictionary_lengths_k198, c_book_dictionary_kinds_k198, c_book_dictionary_costs_k198, c_netStands_k198, c_rankingStands_k198, rfl, hk198⟩ := hqk198
        simp only [zput, List.set_cons_zero, List.set_cons_succ, List.append_nil, Nat.add_zero]
        refine B.pop (pc := 201) dL_law_201 ?_
        refine B.aload_n (pc := 202) (i := 2) dL_law_202 rfl rfl ?_
        refine B.aload_n (pc := 203) (i := 0) dL_law_203 rfl rfl ?_
        refine B.iload_n (pc := 204) (i := 3) dL_law_204 rfl rfl ?_
        refine B.iconst (pc := 205) dL_law_205 ⟨by decide, by decide⟩ ?_
        refine B.iadd (pc := 206) dL_law_206 ⟨by omega, by omega⟩ ?_
        refine B.scrload (pc := 207) hs (by omega) (by omega) dL_law_207 ?_
        refine B.callVi (pc := 208) 1 (mX7_forget hE _ _ _ _ _ _ _ _ _ _ _ _ _ _ _ _ _ _ _ _ _ _ _ _ _ _ _ _ _ _ _ _ _ _ _ _ _ _ _ _ _ _ _ _ _ _ _ _ _ _ _) 30 rfl rfl ml_L_34 im_X7_forget se_X7_forget it_X7 co_X7_forget (by decide +kernel) rfl rfl rfl ⟨by decide, by decide⟩ ⟨(by show _ ≤ 600000; omega), (by show _ ≤ 7302250; omega)⟩ [30, 31, 32, 33, 34, 35, 36, 37, 38, 39, 40, 41, 42, 43, 44, 45, 46, 47, 48, 49, 50, 51] rfl rfl rfl (Nat.le_of_ble_eq_true rfl) dL_law_208 (fun _ => hM) (fun zk208 uk208 rzk208 ruk208 rak208 hqk208 => ?_)
        obtain ⟨lzk208, uzk208⟩ := rzk208
        obtain ⟨m_words_k208, m_letters_k208, m_size_k208, m_kind_k208, m_cost_k208, rfl, hk208⟩ := hqk208
        simp only [zput, List.set_cons_zero, List.set_cons_succ, List.append_nil, Nat.add_zero]
        have hj208 := zFG.same hk198.2 hk208.2 hC.2.1 hDq hUq
        refine B.pop (pc := 211) dL_law_211 ?_
        refine B.goto (pc := 212) (tgt := 554) dL_law_212 (by decide) ?_
        refine B.iinc (pc := 554) dL_law_554 (by decide) rfl ⟨by omega, by omega⟩ ?_
        simp only [List.set_cons_zero, List.set_cons_succ]
        refine B.goto (pc := 557) (tgt := 18) dL_law_557 (by decide) ?_
        rw [show (4 * (t : Int) + 4) = 4 * ((t + 1 : Nat) : Int) by omega]
        refine B.widen (kc' := 52 + 9 * (t + 1)) (ks' := 20286 + 207 * (t + 1)) (by omega) (by omega) ?_
        exact ih (t + 1) (by omega) _ _ _ _ _ _ _ _ _ _ _ _ _ _ _ _ _ _ _ _ _ _ _ _ _ _ _ _ _ _ _ _ _ _ _ _ _ _ _ _ _ _ _ _ _ _ _ _ _ _ _ _ _ _ _ _ _ _ _ _ _ _ _ (by omega) hk198.1 hk208.1 hP1 hP2 hj208.2.1 hj208.2.2 hE1 hE2 hL1 hL2 hK0 hK1 hI
      refine zsplitE (X := fun v => Z _ _ 32 _ (.inl v :: _) _) (5) (fun e32_5 => ?_) (fun c32_5 => ?_)
      · refine B.tsIn (pc := 32) (tgt := 215) dL_law_32 (by decide) (by decide) rfl (by decide) ?_
        refine B.aload_n (pc := 215) (i := 1) dL_law_215 rfl rfl ?_
        refine B.aload_n (pc := 216) (i := 0) dL_law_216 rfl rfl ?_
        refine B.iload_n (pc := 217) (i := 3) dL_law_217 rfl rfl ?_
        refine B.iconst (pc := 218) dL_law_218 ⟨by decide, by decide⟩ ?_
        refine B.iadd (pc := 219) dL_law_219 ⟨by omega, by omega⟩ ?_
        refine B.scrload (pc := 220) hs (by omega) (by omega) dL_law_220 ?_
        refine B.aload_n (pc := 221) (i := 0) dL_law_221 rfl rfl ?_
        refine B.iload_n (pc := 222) (i := 3) dL_law_222 rfl rfl ?_
        refine B.iconst (pc := 223) dL_law_223 ⟨by decide, by decide⟩ ?_
        refine B.iadd (pc := 224) dL_law_224 ⟨by omega, by omega⟩ ?_
        refine B.scrload (pc := 225) hs (by omega) (by omega) dL_law_225 ?_
        refine B.callVi (pc := 226) 2 (mX6_word hE _ _ _ _ _ _ _ _ _ _ _ _ _ _ _ _ _ _ _ _ _ _ _ _ _ _ _ _ _ _ _ _ _ _ _ _ _ _ _ _ _ _ _ _ _ _ _ _ _ _ _ _ _ _ _ _ _ _ _ _ _ _ _ _ _ _) 0 rfl rfl ml_L_35 im_X6_word se_X6_word it_X6 co_X6_word (by decide +kernel) rfl rfl rfl ⟨by decide, by decide⟩ ⟨(by show _ ≤ 600000; omega), (by show _ ≤ 7302250; omega)⟩ [0, 1, 2, 3, 4, 5, 6, 7, 8, 9, 10, 11, 12, 13, 14, 15, 16, 17, 18, 19, 20, 21, 22, 23, 24, 25, 26, 27, 28, 29] rfl rfl rfl (Nat.le_of_ble_eq_true rfl) dL_law_226 (fun _ => hC) (fun zk226 uk226 rzk226 ruk226 rak226 hqk226 => ?_)
        obtain ⟨lzk226, uzk226⟩ := rzk226
        obtain ⟨rfl, hk226⟩ := hqk226
        simp only [zput, List.set_cons_zero, List.set_cons_succ, List.append_nil, Nat.add_zero]
        refine B.pop (pc := 229) dL_law_229 ?_
        refine B.aload_n (pc := 230) (i := 2) dL_law_230 rfl rfl ?_
        refine B.aload_n (pc := 231) (i := 0) dL_law_231 rfl rfl ?_
        refine B.iload_n (pc := 232) (i := 3) dL_law_232 rfl rfl ?_
        refine B.iconst (pc := 233) dL_law_233 ⟨by decide, by decide⟩ ?_
        refine B.iadd (pc := 234) dL_law_234 ⟨by omega, by omega⟩ ?_
        refine B.scrload (pc := 235) hs (by omega) (by omega) dL_law_235 ?_
        refine B.aload_n (pc := 236) (i := 0) dL_law_236 rfl rfl ?_
        refine B.iload_n (pc := 237) (i := 3) dL_law_237 rfl rfl ?_
        refine B.iconst (pc := 238) dL_law_238 ⟨by decide, by decide⟩ ?_
        refine B.iadd (pc := 239) dL_law_239 ⟨by omega, by omega⟩ ?_
        refine B.scrload (pc := 240) hs (by omega) (by omega) dL_law_240 ?_
        refine B.callVi (pc := 241) 2 (mX7_word hE _ _ _ _ _ _ _ _ _ _ _ _ _ _ _ _ _ _ _ _ _ _ _ _ _ _ _ _ _ _ _ _ _ _ _ _ _ _ _ _ _ _ _ _ _ _ _ _ _ _ _ _) 30 rfl rfl ml_L_39 im_X7_word se_X7_word it_X7 co_X7_word (by decide +kernel) rfl rfl rfl ⟨by decide, by decide⟩ ⟨(by show _ ≤ 600000; omega), (by show _ ≤ 7302250; omega)⟩ [30, 31, 32, 33, 34, 35, 36, 37, 38, 39, 40, 41, 42, 43, 44, 45, 46, 47, 48, 49, 50, 51] rfl rfl rfl (Nat.le_of_ble_eq_true rfl) dL_law_241 (fun _ => hM) (fun zk241 uk241 rzk241 ruk241 rak241 hqk241 => ?_)
        obtain ⟨lzk241, uzk241⟩ := rzk241
        obtain ⟨rfl, hk241⟩ := hqk241
        simp only [zput, List.set_cons_zero, List.set_cons_succ, List.append_nil, Nat.add_zero]
        have hj241 := And.intro (zWS.same hk226 hk241 hDq) trivial
        refine B.pop (pc := 244) dL_law_244 ?_
        refine B.goto (pc := 245) (tgt := 554) dL_law_245 (by decide) ?_
        refine B.iinc (pc := 554) dL_law_554 (by decide) rfl ⟨by omega, by omega⟩ ?_
        simp only [List.set_cons_zero, List.set_cons_succ]
        refine B.goto (pc := 557) (tgt := 18) dL_law_557 (by decide) ?_
        rw [show (4 * (t : Int) + 4) = 4 * ((t + 1 : Nat) : Int) by omega]
        refine B.widen (kc' := 52 + 9 * (t + 1)) (ks' := 20286 + 207 * (t + 1)) (by omega) (by omega) ?_
        exact ih (t + 1) (by omega) _ _ _ _ _ _ _ _ _ _ _ _ _ _ _ _ _ _ _ _ _ _ _ _ _ _ _ _ _ _ _ _ _ _ _ _ _ _ _ _ _ _ _ _ _ _ _ _ _ _ _ _ _ _ _ _ _ _ _ _ _ _ _ (by omega) hC hM hP1 hP2 hDq hUq hE1 hE2 hL1 hL2 hK0 hK1 hI
      refine zsplitE (X := fun v => Z _ _ 32 _ (.inl v :: _) _) (6) (fun e32_6 => ?_) (fun c32_6 => ?_)
      · refine B.tsIn (pc := 32) (tgt := 248) dL_law_32 (by decide) (by decide) rfl (by decide) ?_
        refine B.aload_n (pc := 248) (i := 1) dL_law_248 rfl rfl ?_
        refine B.callVi (pc := 249) 0 (mX6_line hE _ _ _ _ _ _ _ _ _ _ _ _ _ _ _ _ _ _ _ _ _ _ _ _ _ _ _ _ _ _ _ _ _ _ _ _ _ _ _ _ _ _ _ _ _ _ _ _ _ _ _ _ _ _ _ _ _ _ _ _ _ _ _ _) 0 rfl rfl ml_L_40 im_X6_line se_X6_line it_X6 co_X6_line (by decide +kernel) rfl rfl rfl ⟨by decide, by decide⟩ ⟨(by show _ ≤ 600000; omega), (by show _ ≤ 7302250; omega)⟩ [0, 1, 2, 3, 4, 5, 6, 7, 8, 9, 10, 11, 12, 13, 14, 15, 16, 17, 18, 19, 20, 21, 22, 23, 24, 25, 26, 27, 28, 29] rfl rfl rfl (Nat.le_of_ble_eq_true rfl) dL_law_249 (fun _ => hC) (fun zk249 uk249 rzk249 ruk249 rak249 hqk249 => ?_)
        obtain ⟨lzk249, uzk249⟩ := rzk249
        obtain ⟨c_book_line_k249, c_book_lineLength_k249, c_pad_count_k249, c_netStands_k249, c_rankingStands_k249, rfl, hk249⟩ := hqk249
        simp only [zput, List.set_cons_zero, List.set_cons_succ, List.append_nil, Nat.add_zero]
        refine B.aload_n (pc := 252) (i := 2) dL_law_252 rfl rfl ?_
        refine B.callVi (pc := 253) 0 (mX7_line hE _ _ _ _ _ _ _ _ _ _ _ _ _ _ _ _ _ _ _ _ _ _ _ _ _ _ _ _ _ _ _ _ _ _ _ _ _ _ _ _ _ _ _ _ _ _ _ _ _ _) 30 rfl rfl ml_L_43 im_X7_line se_X7_line it_X7 co_X7_line (by decide +kernel) rfl rfl rfl ⟨by decide, by decide⟩ ⟨(by show _ ≤ 600000; omega), (by show _ ≤ 7302250; omega)⟩ [30, 31, 32, 33, 34, 35, 36, 37, 38, 39, 40, 41, 42, 43, 44, 45, 46, 47, 48, 49, 50, 51] rfl rfl rfl (Nat.le_of_ble_eq_true rfl) dL_law_253 (fun _ => hM) (fun zk253 uk253 rzk253 ruk253 rak253 hqk253 => ?_)
        obtain ⟨lzk253, uzk253⟩ := rzk253
        obtain ⟨m_line_k253, m_long1_k253, m_signs_k253, rfl, hk253⟩ := hqk253
        simp only [zput, List.set_cons_zero, List.set_cons_succ, List.append_nil, Nat.add_zero]
        have hj253 := zLN.same hk249.2 hk253.2 hP1 hP2 hL1 hL2
        refine B.icmp_eq (pc := 256) (tgt := 554) dL_law_256 (by decide) (fun c256 => ?_) (fun c256 => ?_)
        · refine B.iinc (pc := 554) dL_law_554 (by decide) rfl ⟨by omega, by omega⟩ ?_
          simp only [List.set_cons_zero, List.set_cons_succ]
          refine B.goto (pc := 557) (tgt := 18) dL_law_557 (by decide) ?_
          rw [show (4 * (t : Int) + 4) = 4 * ((t + 1 : Nat) : Int) by omega]
          refine B.widen (kc' := 52 + 9 * (t + 1)) (ks' := 20286 + 207 * (t + 1)) (by omega) (by omega) ?_
          exact ih (t + 1) (by omega) _ _ _ _ _ _ _ _ _ _ _ _ _ _ _ _ _ _ _ _ _ _ _ _ _ _ _ _ _ _ _ _ _ _ _ _ _ _ _ _ _ _ _ _ _ _ _ _ _ _ _ _ _ _ _ _ _ _ _ _ _ _ _ (by omega) hk249.1 hk253.1 hj253.2.1.1 hj253.2.1.2 hDq hUq hE1 hE2 hj253.2.2.1 hj253.2.2.2 hK0 hK1 hI
        · exfalso; exact c256 hj253.1
      refine zsplitE (X := fun v => Z _ _ 32 _ (.inl v :: _) _) (7) (fun e32_7 => ?_) (fun c32_7 => ?_)
      · refine B.tsIn (pc := 32) (tgt := 261) dL_law_32 (by decide) (by decide) rfl (by decide) ?_
        refine B.aload_n (pc := 261) (i := 1) dL_law_261 rfl rfl ?_
        refine B.aload_n (pc := 262) (i := 0) dL_law_262 rfl rfl ?_
        refine B.iload_n (pc := 263) (i := 3) dL_law_263 rfl rfl ?_
        refine B.iconst (pc := 264) dL_law_264 ⟨by decide, by decide⟩ ?_
        refine B.iadd (pc := 265) dL_law_265 ⟨by omega, by omega⟩ ?_
        refine B.scrload (pc := 266) hs (by omega) (by omega) dL_law_266 ?_
        refine B.aload_n (pc := 267) (i := 0) dL_law_267 rfl rfl ?_
        refine B.iload_n (pc := 268) (i := 3) dL_law_268 rfl rfl ?_
        refine B.iconst (pc := 269) dL_law_269 ⟨by decide, by decide⟩ ?_
        refine B.iadd (pc := 270) dL_law_270 ⟨by omega, by omega⟩ ?_
        refine B.scrload (pc := 271) hs (by omega) (by omega) dL_law_271 ?_
        refine B.aload_n (pc := 272) (i := 0) dL_law_272 rfl rfl ?_
        refine B.iload_n (pc := 273) (i := 3) dL_law_273 rfl rfl ?_
        refine B.iconst (pc := 274) dL_law_274 ⟨by decide, by decide⟩ ?_
        refine B.iadd (pc := 275) dL_law_275 ⟨by omega, by omega⟩ ?_
        refine B.scrload (pc := 276) hs (by omega) (by omega) dL_law_276 ?_
        refine B.callVi (pc := 277) 3 (mX6_join hE _ _ _ _ _ _ _ _ _ _ _ _ _ _ _ _ _ _ _ _ _ _ _ _ _ _ _ _ _ _ _ _ _ _ _ _ _ _ _ _ _ _ _ _ _ _ _ _ _ _ _ _ _ _ _ _ _ _ _ _ _ _ _ _ _ _ _) 0 rfl rfl ml_L_44 im_X6_join se_X6_join it_X6 co_X6_join (by decide +kernel) rfl rfl rfl ⟨by decide, by decide⟩ ⟨(by show _ ≤ 600000; omega), (by show _ ≤ 7302250; omega)⟩ [0, 1, 2, 3, 4, 5, 6, 7, 8, 9, 10, 11, 12, 13, 14, 15, 16, 17, 18, 19, 20, 21, 22, 23, 24, 25, 26, 27, 28, 29] rfl rfl rfl (Nat.le_of_ble_eq_true rfl) dL_law_277 (fun _ => hC) (fun zk277 uk277 rzk277 ruk277 rak277 hqk277 => ?_)
        obtain ⟨lzk277, uzk277⟩ := rzk277
        obtain ⟨c_book_joins_k277, c_netStands_k277, c_rankingStands_k277, rfl, hk277⟩ := hqk277
        simp only [zput, List.set_cons_zero, List.set_cons_succ, List.append_nil, Nat.add_zero]
        refine B.pop (pc := 280) dL_law_280 ?_
        refine B.aload_n (pc := 281) (i := 2) dL_law_281 rfl rfl ?_
        refine B.aload_n (pc := 282) (i := 0) dL_law_282 rfl rfl ?_
        refine B.iload_n (pc := 283) (i := 3) dL_law_283 rfl rfl ?_
        refine B.iconst (pc := 284) dL_law_284 ⟨by decide, by decide⟩ ?_
        refine B.iadd (pc := 285) dL_law_285 ⟨by omega, by omega⟩ ?_
        refine B.scrload (pc := 286) hs (by omega) (by omega) dL_law_286 ?_
        refine B.aload_n (pc := 287) (i := 0) dL_law_287 rfl rfl ?_
        refine B.iload_n (pc := 288) (i := 3) dL_law_288 rfl rfl ?_
        refine B.iconst (pc := 289) dL_law_289 ⟨by decide, by decide⟩ ?_
        refine B.iadd (pc := 290) dL_law_290 ⟨by omega, by omega⟩ ?_
        refine B.scrload (pc := 291) hs (by omega) (by omega) dL_law_291 ?_
        refine B.aload_n (pc := 292) (i := 0) dL_law_292 rfl rfl ?_
        refine B.iload_n (pc := 293) (i := 3) dL_law_293 rfl rfl ?_
        refine B.iconst (pc := 294) dL_law_294 ⟨by decide, by decide⟩ ?_
        refine B.iadd (pc := 295) dL_law_295 ⟨by omega, by omega⟩ ?_
        refine B.scrload (pc := 296) hs (by omega) (by omega) dL_law_296 ?_
        refine B.callVi (pc := 297) 3 (mX7_join hE _ _ _ _ _ _ _ _ _ _ _ _ _ _ _ _ _ _ _ _ _ _ _ _ _ _ _ _ _ _ _ _ _ _ _ _ _ _ _ _ _ _ _ _ _ _ _ _ _ _ _ _ _) 30 rfl rfl ml_L_48 im_X7_join se_X7_join it_X7 co_X7_join (by decide +kernel) rfl rfl rfl ⟨by decide, by decide⟩ ⟨(by show _ ≤ 600000; omega), (by show _ ≤ 7302250; omega)⟩ [30, 31, 32, 33, 34, 35, 36, 37, 38, 39, 40, 41, 42, 43, 44, 45, 46, 47, 48, 49, 50, 51] rfl rfl rfl (Nat.le_of_ble_eq_true rfl) dL_law_297 (fun _ => hM) (fun zk297 uk297 rzk297 ruk297 rak297 hqk297 => ?_)
        obtain ⟨lzk297, uzk297⟩ := rzk297
        obtain ⟨m_joins_k297, rfl, hk297⟩ := hqk297
        simp only [zput, List.set_cons_zero, List.set_cons_succ, List.append_nil, Nat.add_zero]
        have hj297 := JS.same hk277.2 hk297.2 hE1
        refine B.pop (pc := 300) dL_law_300 ?_
        refine B.goto (pc := 301) (tgt := 554) dL_law_301 (by decide) ?_
        refine B.iinc (pc := 554) dL_law_554 (by decide) rfl ⟨by omega, by omega⟩ ?_
        simp only [List.set_cons_zero, List.set_cons_succ]
        refine B.goto (pc := 557) (tgt := 18) dL_law_557 (by decide) ?_
        rw [show (4 * (t : Int) + 4) = 4 * ((t + 1 : Nat) : Int) by omega]
        refine B.widen (kc' := 52 + 9 * (t + 1)) (ks' := 20286 + 207 * (t + 1)) (by omega) (by omega) ?_
        exact ih (t + 1) (by omega) _ _ _ _ _ _ _ _ _ _ _ _ _ _ _ _ _ _ _ _ _ _ _ _ _ _ _ _ _ _ _ _ _ _ _ _ _ _ _ _ _ _ _ _ _ _ _ _ _ _ _ _ _ _ _ _ _ _ _ _ _ _ _ (by omega) hk277.1 hk297.1 hP1 hP2 hDq hUq hj297.2 hE2 hL1 hL2 hK0 hK1 hI
      refine zsplitE (X := fun v => Z _ _ 32 _ (.inl v :: _) _) (8) (fun e32_8 => ?_) (fun c32_8 => ?_)
      · refine B.tsIn (pc := 32) (tgt := 304) dL_law_32 (by decide) (by decide) rfl (by decide) ?_
        refine B.aload_n (pc := 304) (i := 1) dL_law_304 rfl rfl ?_
        refine B.aload_n (pc := 305) (i := 0) dL_law_305 rfl rfl ?_
        refine B.iload_n (pc := 306) (i := 3) dL_law_306 rfl rfl ?_
        refine B.iconst (pc := 307) dL_law_307 ⟨by decide, by decide⟩ ?_
        refine B.iadd (pc := 308) dL_law_308 ⟨by omega, by omega⟩ ?_
        refine B.scrload (pc := 309) hs (by omega) (by omega) dL_law_309 ?_
        refine B.aload_n (pc := 310) (i := 0) dL_law_310 rfl rfl ?_
        refine B.iload_n (pc := 311) (i := 3) dL_law_311 rfl rfl ?_
        refine B.iconst (pc := 312) dL_law_312 ⟨by decide, by decide⟩ ?_
        refine B.iadd (pc := 313) dL_law_313 ⟨by omega, by omega⟩ ?_
        refine B.scrload (pc := 314) hs (by omega) (by omega) dL_law_314 ?_
        refine B.callVi (pc := 315) 2 (mX6_rule hE hEX _ _ _ _ _ _ _ _ _ _ _ _ _ _ _ _ _ _ _ _ _ _ _ _ _ _ _ _ _ _ _ _ _ _ _ _ _ _ _ _ _ _ _ _ _ _ _ _ _ _ _ _ _ _ _ _ _ _ _ _ _ _ _ _ _ _) 0 rfl rfl ml_L_49 im_X6_rule se_X6_rule it_X6 co_X6_rule (by decide +kernel) rfl rfl rfl ⟨by decide, by decide⟩ ⟨(by show _ ≤ 600000; omega), (by show _ ≤ 7302250; omega)⟩ [0, 1, 2, 3, 4, 5, 6, 7, 8, 9, 10, 11, 12, 13, 14, 15, 16, 17, 18, 19, 20, 21, 22, 23, 24, 25, 26, 27, 28, 29] rfl rfl rfl (Nat.le_of_ble_eq_true rfl) dL_law_315 (fun _ => hC) (fun zk315 uk315 rzk315 ruk315 rak315 hqk315 => ?_)
        obtain ⟨lzk315, uzk315⟩ := rzk315
        obtain ⟨c_book_rules_k315, c_netStands_k315, c_rankingStands_k315, rfl, hk315⟩ := hqk315
        simp only [zput, List.set_cons_zero, List.set_cons_succ, List.append_nil, Nat.add_zero]
        refine B.pop (pc := 318) dL_law_318 ?_
        refine B.aload_n (pc := 319) (i := 2) dL_law_319 rfl rfl ?_
        refine B.aload_n (pc := 320) (i := 0) dL_law_320 rfl rfl ?_
        refine B.iload_n (pc := 321) (i := 3) dL_law_321 rfl rfl ?_
        refine B.iconst (pc := 322) dL_law_322 ⟨by decide, by decide⟩ ?_
        refine B.iadd (pc := 323) dL_law_323 ⟨by omega, by omega⟩ ?_
        refine B.scrload (pc := 324) hs (by omega) (by omega) dL_law_324 ?_
        refine B.aload_n (pc := 325) (i := 0) dL_law_325 rfl rfl ?_
        refine B.iload_n (pc := 326) (i := 3) dL_law_326 rfl rfl ?_
        refine B.iconst (pc := 327) dL_law_327 ⟨by decide, by decide⟩ ?_
        refine B.iadd (pc := 328) dL_law_328 ⟨by omega, by omega⟩ ?_
        refine B.scrload (pc := 329) hs (by omega) (by omega) dL_law_329 ?_
        refine B.callVi (pc := 330) 2 (mX7_rule hE _ _ _ _ _ _ _ _ _ _ _ _ _ _ _ _ _ _ _ _ _ _ _ _ _ _ _ _ _ _ _ _ _ _ _ _ _ _ _ _ _ _ _ _ _ _ _ _ _ _ _ _) 30 rfl rfl ml_L_52 im_X7_rule se_X7_rule it_X7 co_X7_rule (by decide +kernel) rfl rfl rfl ⟨by decide, by decide⟩ ⟨(by show _ ≤ 600000; omega), (by show _ ≤ 7302250; omega)⟩ [30, 31, 32, 33, 34, 35, 36, 37, 38, 39, 40, 41, 42, 43, 44, 45, 46, 47, 48, 49, 50, 51] rfl rfl rfl (Nat.le_of_ble_eq_true rfl) dL_law_330 (fun _ => hM) (fun zk330 uk330 rzk330 ruk330 rak330 hqk330 => ?_)
        obtain ⟨lzk330, uzk330⟩ := rzk330
        obtain ⟨m_rules_k330, rfl, hk330⟩ := hqk330
        simp only [zput, List.set_cons_zero, List.set_cons_succ, List.append_nil, Nat.add_zero]
        have hj330 := RS.same hk315.2 hk330.2 hE2
        refine B.pop (pc := 333) dL_law_333 ?_
        refine B.goto (pc := 334) (tgt := 554) dL_law_334 (by decide) ?_
        refine B.iinc (pc := 554) dL_law_554 (by decide) rfl ⟨by omega, by omega⟩ ?_
        simp only [List.set_cons_zero, List.set_cons_succ]
        refine B.goto (pc := 557) (tgt := 18) dL_law_557 (by decide) ?_
        rw [show (4 * (t : Int) + 4) = 4 * ((t + 1 : Nat) : Int) by omega]
        refine B.widen (kc' := 52 + 9 * (t + 1)) (ks' := 20286 + 207 * (t + 1)) (by omega) (by omega) ?_
        exact ih (t + 1) (by omega) _ _ _ _ _ _ _ _ _ _ _ _ _ _ _ _ _ _ _ _ _ _ _ _ _ _ _ _ _ _ _ _ _ _ _ _ _ _ _ _ _ _ _ _ _ _ _ _ _ _ _ _ _ _ _ _ _ _ _ _ _ _ _ (by omega) hk315.1 hk330.1 hP1 hP2 hDq hUq hE1 hj330.2 hL1 hL2 hK0 hK1 hI
      refine zsplitE (X := fun v => Z _ _ 32 _ (.inl v :: _) _) (9) (fun e32_9 => ?_) (fun c32_9 => ?_)
      · refine B.tsIn (pc := 32) (tgt := 337) dL_law_32 (by decide) (by decide) rfl (by decide) ?_
        refine B.aload_n (pc := 337) (i := 1) dL_law_337 rfl rfl ?_
        refine B.callVi (pc := 338) 0 (mX6_pieces hE _ _ _ _ _ _ _ _ _ _ _ _ _ _ _ _ _ _ _ _ _ _ _ _ _ _ _ _ _ _ _ _ _ _ _ _ _ _ _ _ _ _ _ _ _ _ _ _ _ _ _ _ _ _ _ _ _ _ _ _ _ _ _ _) 0 rfl rfl ml_L_53 im_X6_pieces se_X6_pieces it_X6 co_X6_pieces (by decide +kernel) rfl rfl rfl ⟨by decide, by decide⟩ ⟨(by show _ ≤ 600000; omega), (by show _ ≤ 7302250; omega)⟩ [0, 1, 2, 3, 4, 5, 6, 7, 8, 9, 10, 11, 12, 13, 14, 15, 16, 17, 18, 19, 20, 21, 22, 23, 24, 25, 26, 27, 28, 29] rfl rfl rfl (Nat.le_of_ble_eq_true rfl) dL_law_338 (fun _ => hC) (fun zk338 uk338 rzk338 ruk338 rak338 hqk338 => ?_)
        obtain ⟨lzk338, uzk338⟩ := rzk338
        obtain ⟨c_net_lineLength_k338, c_net_count_k338, c_net_places_k338, c_net_lengths_k338, c_net_kinds_k338, c_net_costs_k338, c_net_words_k338, c_net_firsts_k338, c_net_joins_k338, c_net_slots_k338, c_netStands_k338, rfl, hk338⟩ := hqk338
        simp only [zput, List.set_cons_zero, List.set_cons_succ, List.append_nil, Nat.add_zero]
        refine B.pop (pc := 341) dL_law_341 ?_
        refine B.aload_n (pc := 342) (i := 2) dL_law_342 rfl rfl ?_
        refine B.callVi (pc := 343) 0 (mX7_pieces hE _ _ _ _ _ _ _ _ _ _ _ _ _ _ _ _ _ _ _ _ _ _ _ _ _ _ _ _ _ _ _ _ _ _ _ _ _ _ _ _ _ _ _ _ _ _ _ _ _ _) 30 rfl rfl ml_L_56 im_X7_pieces se_X7_pieces it_X7 co_X7_pieces (by decide +kernel) rfl rfl rfl ⟨by decide, by decide⟩ ⟨(by show _ ≤ 600000; omega), (by show _ ≤ 7302250; omega)⟩ [30, 31, 32, 33, 34, 35, 36, 37, 38, 39, 40, 41, 42, 43, 44, 45, 46, 47, 48, 49, 50, 51] rfl rfl rfl (Nat.le_of_ble_eq_true rfl) dL_law_343 (fun _ => hM) (fun zk343 uk343 rzk343 ruk343 rak343 hqk343 => ?_)
        obtain ⟨lzk343, uzk343⟩ := rzk343
        obtain ⟨m_many_k343, m_place_k343, m_length_k343, m_sort_k343, m_price_k343, m_of_k343, m_begins_k343, rfl, hk343⟩ := hqk343
        simp only [zput, List.set_cons_zero, List.set_cons_succ, List.append_nil, Nat.add_zero]
        refine B.pop (pc := 346) dL_law_346 ?_
        refine B.goto (pc := 347) (tgt := 554) dL_law_347 (by decide) ?_
        refine B.iinc (pc := 554) dL_law_554 (by decide) rfl ⟨by omega, by omega⟩ ?_
        simp only [List.set_cons_zero, List.set_cons_succ]
        refine B.goto (pc := 557) (tgt := 18) dL_law_557 (by decide) ?_
        rw [show (4 * (t : Int) + 4) = 4 * ((t + 1 : Nat) : Int) by omega]
        refine B.widen (kc' := 52 + 9 * (t + 1)) (ks' := 20286 + 207 * (t + 1)) (by omega) (by omega) ?_
        exact ih (t + 1) (by omega) _ _ _ _ _ _ _ _ _ _ _ _ _ _ _ _ _ _ _ _ _ _ _ _ _ _ _ _ _ _ _ _ _ _ _ _ _ _ _ _ _ _ _ _ _ _ _ _ _ _ _ _ _ _ _ _ _ _ _ _ _ _ _ (by omega) hk338 hM hP1 hP2 hDq hUq hE1 hE2 hL1 hL2 hK0 hK1 hI
      refine zsplitE (X := fun v => Z _ _ 32 _ (.inl v :: _) _) (10) (fun e32_10 => ?_) (fun c32_10 => ?_)
      · refine B.tsIn (pc := 32) (tgt := 350) dL_law_32 (by decide) (by decide) rfl (by decide) ?_
        refine B.aload_n (pc := 350) (i := 1) dL_law_350 rfl rfl ?_
        refine B.aload_n (pc := 351) (i := 0) dL_law_351 rfl rfl ?_
        refine B.iload_n (pc := 352) (i := 3) dL_law_352 rfl rfl ?_
        refine B.iconst (pc := 353) dL_law_353 ⟨by decide, by decide⟩ ?_
        refine B.iadd (pc := 354) dL_law_354 ⟨by omega, by omega⟩ ?_
        refine B.scrload (pc := 355) hs (by omega) (by omega) dL_law_355 ?_
        refine B.aload_n (pc := 356) (i := 0) dL_law_356 rfl rfl ?_
        refine B.iload_n (pc := 357) (i := 3) dL_law_357 rfl rfl ?_
        refine B.iconst (pc := 358) dL_law_358 ⟨by decide, by decide⟩ ?_
        refine B.iadd (pc := 359) dL_law_359 ⟨by omega, by omega⟩ ?_
        refine B.scrload (pc := 360) hs (by omega) (by omega) dL_law_360 ?_
        refine B.callVi (pc := 361) 2 (mX6_piece hE _ _ _ _ _ _ _ _ _ _ _ _ _ _ _ _ _ _ _ _ _ _ _ _ _ _ _ _ _ _ _ _ _ _ _ _ _ _ _ _ _ _ _ _ _ _ _ _ _ _ _ _ _ _ _ _ _ _ _ _ _ _ _ _ _ _) 0 rfl rfl ml_L_57 im_X6_piece se_X6_piece it_X6 co_X6_piece (by decide +kernel) rfl rfl rfl ⟨by decide, by decide⟩ ⟨(by show _ ≤ 600000; omega), (by show _ ≤ 7302250; omega)⟩ [0, 1, 2, 3, 4, 5, 6, 7, 8, 9, 10, 11, 12, 13, 14, 15, 16, 17, 18, 19, 20, 21, 22, 23, 24, 25, 26, 27, 28, 29] rfl rfl rfl (Nat.le_of_ble_eq_true rfl) dL_law_361 (fun _ => hC) (fun zk361 uk361 rzk361 ruk361 rak361 hqk361 => ?_)
        obtain ⟨lzk361, uzk361⟩ := rzk361
        obtain ⟨c_net_lineLength_k361, c_net_count_k361, c_net_places_k361, c_net_lengths_k361, c_net_kinds_k361, c_net_costs_k361, c_net_words_k361, c_net_firsts_k361, c_net_joins_k361, c_net_slots_k361, c_netStands_k361, c_rankingStands_k361, c_ranking_before_k361, c_ranking_counts_k361, c_ranking_kept_k361, rfl, hk361⟩ := hqk361
        simp only [zput, List.set_cons_zero, List.set_cons_succ, List.append_nil, Nat.add_zero]
        refine B.pop (pc := 364) dL_law_364 ?_
        refine B.aload_n (pc := 365) (i := 2) dL_law_365 rfl rfl ?_
        refine B.aload_n (pc := 366) (i := 0) dL_law_366 rfl rfl ?_
        refine B.iload_n (pc := 367) (i := 3) dL_law_367 rfl rfl ?_
        refine B.iconst (pc := 368) dL_law_368 ⟨by decide, by decide⟩ ?_
        refine B.iadd (pc := 369) dL_law_369 ⟨by omega, by omega⟩ ?_
        refine B.scrload (pc := 370) hs (by omega) (by omega) dL_law_370 ?_
        refine B.aload_n (pc := 371) (i := 0) dL_law_371 rfl rfl ?_
        refine B.iload_n (pc := 372) (i := 3) dL_law_372 rfl rfl ?_
        refine B.iconst (pc := 373) dL_law_373 ⟨by decide, by decide⟩ ?_
        refine B.iadd (pc := 374) dL_law_374 ⟨by omega, by omega⟩ ?_
        refine B.scrload (pc := 375) hs (by omega) (by omega) dL_law_375 ?_
        refine B.callVi (pc := 376) 2 (mX7_piece hE _ _ _ _ _ _ _ _ _ _ _ _ _ _ _ _ _ _ _ _ _ _ _ _ _ _ _ _ _ _ _ _ _ _ _ _ _ _ _ _ _ _ _ _ _ _ _ _ _ _ _ _) 30 rfl rfl ml_L_60 im_X7_piece se_X7_piece it_X7 co_X7_piece (by decide +kernel) rfl rfl rfl ⟨by decide, by decide⟩ ⟨(by show _ ≤ 600000; omega), (by show _ ≤ 7302250; omega)⟩ [30, 31, 32, 33, 34, 35, 36, 37, 38, 39, 40, 41, 42, 43, 44, 45, 46, 47, 48, 49, 50, 51] rfl rfl rfl (Nat.le_of_ble_eq_true rfl) dL_law_376 (fun _ => hM) (fun zk376 uk376 rzk376 ruk376 rak376 hqk376 => ?_)
        obtain ⟨lzk376, uzk376⟩ := rzk376
        obtain ⟨m_many_k376, m_place_k376, m_length_k376, m_sort_k376, m_price_k376, m_of_k376, m_begins_k376, m_rows_k376, m_rowCost_k376, m_rowNext_k376, m_ahead_k376, rfl, hk376⟩ := hqk376
        simp only [zput, List.set_cons_zero, List.set_cons_succ, List.append_nil, Nat.add_zero]
        refine B.pop (pc := 379) dL_law_379 ?_
        refine B.goto (pc := 380) (tgt := 554) dL_law_380 (by decide) ?_
        refine B.iinc (pc := 554) dL_law_554 (by decide) rfl ⟨by omega, by omega⟩ ?_
        simp only [List.set_cons_zero, List.set_cons_succ]
        refine B.goto (pc := 557) (tgt := 18) dL_law_557 (by decide) ?_
        rw [show (4 * (t : Int) + 4) = 4 * ((t + 1 : Nat) : Int) by omega]
        refine B.widen (kc' := 52 + 9 * (t + 1)) (ks' := 20286 + 207 * (t + 1)) (by omega) (by omega) ?_
        exact ih (t + 1) (by omega) _ _ _ _ _ _ _ _ _ _ _ _ _ _ _ _ _ _ _ _ _ _ _ _ _ _ _ _ _ _ _ _ _ _ _ _ _ _ _ _ _ _ _ _ _ _ _ _ _ _ _ _ _ _ _ _ _ _ _ _ _ _ _ (by omega) hk361 hM hP1 hP2 hDq hUq hE1 hE2 hL1 hL2 hK0 hK1 hI
      refine zsplitE (X := fun v => Z _ _ 32 _ (.inl v :: _) _) (11) (fun e32_11 => ?_) (fun c32_11 => ?_)
      · refine B.tsIn (pc := 32) (tgt := 383) dL_law_32 (by decide) (by decide) rfl (by decide) ?_
        refine B.aload_n (pc := 383) (i := 1) dL_law_383 rfl rfl ?_
        refine B.callVi (pc := 384) 0 (mX6_ways hE _ _ _ _ _ _ _ _ _ _ _ _ _ _ _ _ _ _ _ _ _ _ _ _ _ _ _ _ _ _ _ _ _ _ _ _ _ _ _ _ _ _ _ _ _ _ _ _ _ _ _ _ _ _ _ _ _ _ _ _ _ _ _ _) 0 rfl rfl ml_L_61 im_X6_ways se_X6_ways it_X6 co_X6_ways (by decide +kernel) rfl rfl rfl ⟨by decide, by decide⟩ ⟨(by show _ ≤ 600000; omega), (by show _ ≤ 7302250; omega)⟩ [0, 1, 2, 3, 4, 5, 6, 7, 8, 9, 10, 11, 12, 13, 14, 15, 16, 17, 18, 19, 20, 21, 22, 23, 24, 25, 26, 27, 28, 29] rfl rfl rfl (Nat.le_of_ble_eq_true rfl) dL_law_384 (fun _ => hC) (fun zk384 uk384 rzk384 ruk384 rak384 hqk384 => ?_)
        obtain ⟨lzk384, uzk384⟩ := rzk384
        obtain ⟨c_net_lineLength_k384, c_net_count_k384, c_net_places_k384, c_net_lengths_k384, c_net_kinds_k384, c_net_costs_k384, c_net_words_k384, c_net_firsts_k384, c_net_joins_k384, c_net_slots_k384, c_netStands_k384, c_net_routes_k384, rfl, hk384⟩ := hqk384
        simp only [zput, List.set_cons_zero, List.set_cons_succ, List.append_nil, Nat.add_zero]
        refine B.pop (pc := 387) dL_law_387 ?_
        refine B.aload_n (pc := 388) (i := 2) dL_law_388 rfl rfl ?_
        refine B.callVi (pc := 389) 0 (mX7_ways hE _ _ _ _ _ _ _ _ _ _ _ _ _ _ _ _ _ _ _ _ _ _ _ _ _ _ _ _ _ _ _ _ _ _ _ _ _ _ _ _ _ _ _ _ _ _ _ _ _ _) 30 rfl rfl ml_L_64 im_X7_ways se_X7_ways it_X7 co_X7_ways (by decide +kernel) rfl rfl rfl ⟨by decide, by decide⟩ ⟨(by show _ ≤ 600000; omega), (by show _ ≤ 7302250; omega)⟩ [30, 31, 32, 33, 34, 35, 36, 37, 38, 39, 40, 41, 42, 43, 44, 45, 46, 47, 48, 49, 50, 51] rfl rfl rfl (Nat.le_of_ble_eq_true rfl) dL_law_389 (fun _ => hM) (fun zk389 uk389 rzk389 ruk389 rak389 hqk389 => ?_)
        obtain ⟨lzk389, uzk389⟩ := rzk389
        obtain ⟨m_many_k389, m_place_k389, m_length_k389, m_sort_k389, m_price_k389, m_of_k389, m_begins_k389, m_waysTo_k389, rfl, hk389⟩ := hqk389
        simp only [zput, List.set_cons_zero, List.set_cons_succ, List.append_nil, Nat.add_zero]
        refine B.pop (pc := 392) dL_law_392 ?_
        refine B.goto (pc := 393) (tgt := 554) dL_law_393 (by decide) ?_
        refine B.iinc (pc := 554) dL_law_554 (by decide) rfl ⟨by omega, by omega⟩ ?_
        simp only [List.set_cons_zero, List.set_cons_succ]
        refine B.goto (pc := 557) (tgt := 18) dL_law_557 (by decide) ?_
        rw [show (4 * (t : Int) + 4) = 4 * ((t + 1 : Nat) : Int) by omega]
        refine B.widen (kc' := 52 + 9 * (t + 1)) (ks' := 20286 + 207 * (t + 1)) (by omega) (by omega) ?_
        exact ih (t + 1) (by omega) _ _ _ _ _ _ _ _ _ _ _ _ _ _ _ _ _ _ _ _ _ _ _ _ _ _ _ _ _ _ _ _ _ _ _ _ _ _ _ _ _ _ _ _ _ _ _ _ _ _ _ _ _ _ _ _ _ _ _ _ _ _ _ (by omega) hk384 hM hP1 hP2 hDq hUq hE1 hE2 hL1 hL2 hK0 hK1 hI
      refine zsplitE (X := fun v => Z _ _ 32 _ (.inl v :: _) _) (12) (fun e32_12 => ?_) (fun c32_12 => ?_)
      · refine B.tsIn (pc := 32) (tgt := 396) dL_law_32 (by decide) (by decide) rfl (by decide) ?_
        refine B.aload_n (pc := 396) (i := 1) dL_law_396 rfl rfl ?_
        refine B.aload_n (pc := 397) (i := 0) dL_law_397 rfl rfl ?_
        refine B.iload_n (pc := 398) (i := 3) dL_law_398 rfl rfl ?_
        refine B.iconst (pc := 399) dL_law_399 ⟨by decide, by decide⟩ ?_
        refine B.iadd (pc := 400) dL_law_400 ⟨by omega, by omega⟩ ?_
        refine B.scrload (pc := 401) hs (by omega) (by omega) dL_law_401 ?_
        refine B.aload_n (pc := 402) (i := 0) dL_law_402 rfl rfl ?_
        refine B.iload_n (pc := 403) (i := 3) dL_law_403 rfl rfl ?_
        refine B.iconst (pc := 404) dL_law_404 ⟨by decide, by decide⟩ ?_
        refine B.iadd (pc := 405) dL_law_405 ⟨by omega, by omega⟩ ?_
        refine B.scrload (pc := 406) hs (by omega) (by omega) dL_law_406 ?_
        refine B.callVi (pc := 407) 2 (mX6_cutting hE _ _ _ _ _ _ _ _ _ _ _ _ _ _ _ _ _ _ _ _ _ _ _ _ _ _ _ _ _ _ _ _ _ _ _ _ _ _ _ _ _ _ _ _ _ _ _ _ _ _ _ _ _ _ _ _ _ _ _ _ _ _ _ _ _ _) 0 rfl rfl ml_L_65 im_X6_cutting se_X6_cutting it_X6 co_X6_cutting (by decide +kernel) rfl rfl rfl ⟨by decide, by decide⟩ ⟨(by show _ ≤ 600000; omega), (by show _ ≤ 7302250; omega)⟩ [0, 1, 2, 3, 4, 5, 6, 7, 8, 9, 10, 11, 12, 13, 14, 15, 16, 17, 18, 19, 20, 21, 22, 23, 24, 25, 26, 27, 28, 29] rfl rfl rfl (Nat.le_of_ble_eq_true rfl) dL_law_407 (fun _ => hC) (fun zk407 uk407 rzk407 ruk407 rak407 hqk407 => ?_)
        obtain ⟨lzk407, uzk407⟩ := rzk407
        obtain ⟨c_net_lineLength_k407, c_net_count_k407, c_net_places_k407, c_net_lengths_k407, c_net_kinds_k407, c_net_costs_k407, c_net_words_k407, c_net_firsts_k407, c_net_joins_k407, c_net_slots_k407, c_netStands_k407, c_rankingStands_k407, c_ranking_before_k407, c_ranking_counts_k407, c_ranking_kept_k407, c_ranking_followed_k407, rfl, hk407⟩ := hqk407
        simp only [zput, List.set_cons_zero, List.set_cons_succ, List.append_nil, Nat.add_zero]
        refine B.pop (pc := 410) dL_law_410 ?_
        refine B.aload_n (pc := 411) (i := 2) dL_law_411 rfl rfl ?_
        refine B.aload_n (pc := 412) (i := 0) dL_law_412 rfl rfl ?_
        refine B.iload_n (pc := 413) (i := 3) dL_law_413 rfl rfl ?_
        refine B.iconst (pc := 414) dL_law_414 ⟨by decide, by decide⟩ ?_
        refine B.iadd (pc := 415) dL_law_415 ⟨by omega, by omega⟩ ?_
        refine B.scrload (pc := 416) hs (by omega) (by omega) dL_law_416 ?_
        refine B.aload_n (pc := 417) (i := 0) dL_law_417 rfl rfl ?_
        refine B.iload_n (pc := 418) (i := 3) dL_law_418 rfl rfl ?_
        refine B.iconst (pc := 419) dL_law_419 ⟨by decide, by decide⟩ ?_
        refine B.iadd (pc := 420) dL_law_420 ⟨by omega, by omega⟩ ?_
        refine B.scrload (pc := 421) hs (by omega) (by omega) dL_law_421 ?_
        refine B.callVi (pc := 422) 2 (mX7_cutting hE _ _ _ _ _ _ _ _ _ _ _ _ _ _ _ _ _ _ _ _ _ _ _ _ _ _ _ _ _ _ _ _ _ _ _ _ _ _ _ _ _ _ _ _ _ _ _ _ _ _ _ _) 30 rfl rfl ml_L_68 im_X7_cutting se_X7_cutting it_X7 co_X7_cutting (by decide +kernel) rfl rfl rfl ⟨by decide, by decide⟩ ⟨(by show _ ≤ 600000; omega), (by show _ ≤ 7302250; omega)⟩ [30, 31, 32, 33, 34, 35, 36, 37, 38, 39, 40, 41, 42, 43, 44, 45, 46, 47, 48, 49, 50, 51] rfl rfl rfl (Nat.le_of_ble_eq_true rfl) dL_law_422 (fun _ => hM) (fun zk422 uk422 rzk422 ruk422 rak422 hqk422 => ?_)
        obtain ⟨lzk422, uzk422⟩ := rzk422
        obtain ⟨m_many_k422, m_place_k422, m_length_k422, m_sort_k422, m_price_k422, m_of_k422, m_begins_k422, m_rows_k422, m_rowCost_k422, m_rowNext_k422, rfl, hk422⟩ := hqk422
        simp only [zput, List.set_cons_zero, List.set_cons_succ, List.append_nil, Nat.add_zero]
        refine B.pop (pc := 425) dL_law_425 ?_
        refine B.goto (pc := 426) (tgt := 554) dL_law_426 (by decide) ?_
        refine B.iinc (pc := 554) dL_law_554 (by decide) rfl ⟨by omega, by omega⟩ ?_
        simp only [List.set_cons_zero, List.set_cons_succ]
        refine B.goto (pc := 557) (tgt := 18) dL_law_557 (by decide) ?_
        rw [show (4 * (t : Int) + 4) = 4 * ((t + 1 : Nat) : Int) by omega]
        refine B.widen (kc' := 52 + 9 * (t + 1)) (ks' := 20286 + 207 * (t + 1)) (by omega) (by omega) ?_
        exact ih (t + 1) (by omega) _ _ _ _ _ _ _ _ _ _ _ _ _ _ _ _ _ _ _ _ _ _ _ _ _ _ _ _ _ _ _ _ _ _ _ _ _ _ _ _ _ _ _ _ _ _ _ _ _ _ _ _ _ _ _ _ _ _ _ _ _ _ _ (by omega) hk407 hM hP1 hP2 hDq hUq hE1 hE2 hL1 hL2 hK0 hK1 hI
      refine zsplitE (X := fun v => Z _ _ 32 _ (.inl v :: _) _) (13) (fun e32_13 => ?_) (fun c32_13 => ?_)
      · refine B.tsIn (pc := 32) (tgt := 429) dL_law_32 (by decide) (by decide) rfl (by decide) ?_
        refine B.aload_n (pc := 429) (i := 1) dL_law_429 rfl rfl ?_
        refine B.aload_n (pc := 430) (i := 0) dL_law_430 rfl rfl ?_
        refine B.iload_n (pc := 431) (i := 3) dL_law_431 rfl rfl ?_
        refine B.iconst (pc := 432) dL_law_432 ⟨by decide, by decide⟩ ?_
        refine B.iadd (pc := 433) dL_law_433 ⟨by omega, by omega⟩ ?_
        refine B.scrload (pc := 434) hs (by omega) (by omega) dL_law_434 ?_
        refine B.callVi (pc := 435) 1 (mX6_sure hE _ _ _ _ _ _ _ _ _ _ _ _ _ _ _ _ _ _ _ _ _ _ _ _ _ _ _ _ _ _ _ _ _ _ _ _ _ _ _ _ _ _ _ _ _ _ _ _ _ _ _ _ _ _ _ _ _ _ _ _ _ _ _ _ _) 0 rfl rfl ml_L_69 im_X6_sure se_X6_sure it_X6 co_X6_sure (by decide +kernel) rfl rfl rfl ⟨by decide, by decide⟩ ⟨(by show _ ≤ 600000; omega), (by show _ ≤ 7302250; omega)⟩ [0, 1, 2, 3, 4, 5, 6, 7, 8, 9, 10, 11, 12, 13, 14, 15, 16, 17, 18, 19, 20, 21, 22, 23, 24, 25, 26, 27, 28, 29] rfl rfl rfl (Nat.le_of_ble_eq_true rfl) dL_law_435 (fun _ => hC) (fun zk435 uk435 rzk435 ruk435 rak435 hqk435 => ?_)
        obtain ⟨lzk435, uzk435⟩ := rzk435
        obtain ⟨c_net_lineLength_k435, c_net_count_k435, c_net_places_k435, c_net_lengths_k435, c_net_kinds_k435, c_net_costs_k435, c_net_words_k435, c_net_firsts_k435, c_net_joins_k435, c_net_slots_k435, c_netStands_k435, c_rankingStands_k435, c_ranking_before_k435, c_ranking_counts_k435, c_ranking_kept_k435, rfl, hk435⟩ := hqk435
        simp only [zput, List.set_cons_zero, List.set_cons_succ, List.append_nil, Nat.add_zero]
        refine B.pop (pc := 438) dL_law_438 ?_
        refine B.aload_n (pc := 439) (i := 2) dL_law_439 rfl rfl ?_
        refine B.aload_n (pc := 440) (i := 0) dL_law_440 rfl rfl ?_
        refine B.iload_n (pc := 441) (i := 3) dL_law_441 rfl rfl ?_
        refine B.iconst (pc := 442) dL_law_442 ⟨by decide, by decide⟩ ?_
        refine B.iadd (pc := 443) dL_law_443 ⟨by omega, by omega⟩ ?_
        refine B.scrload (pc := 444) hs (by omega) (by omega) dL_law_444 ?_
        refine B.callVi (pc := 445) 1 (mX7_sure hE _ _ _ _ _ _ _ _ _ _ _ _ _ _ _ _ _ _ _ _ _ _ _ _ _ _ _ _ _ _ _ _ _ _ _ _ _ _ _ _ _ _ _ _ _ _ _ _ _ _ _) 30 rfl rfl ml_L_72 im_X7_sure se_X7_sure it_X7 co_X7_sure (by decide +kernel) rfl rfl rfl ⟨by decide, by decide⟩ ⟨(by show _ ≤ 600000; omega), (by show _ ≤ 7302250; omega)⟩ [30, 31, 32, 33, 34, 35, 36, 37, 38, 39, 40, 41, 42, 43, 44, 45, 46, 47, 48, 49, 50, 51] rfl rfl rfl (Nat.le_of_ble_eq_true rfl) dL_law_445 (fun _ => hM) (fun zk445 uk445 rzk445 ruk445 rak445 hqk445 => ?_)
        obtain ⟨lzk445, uzk445⟩ := rzk445
        obtain ⟨m_many_k445, m_place_k445, m_length_k445, m_sort_k445, m_price_k445, m_of_k445, m_begins_k445, m_rows_k445, m_rowCost_k445, m_rowNext_k445, m_ahead_k445, rfl, hk445⟩ := hqk445
        simp only [zput, List.set_cons_zero, List.set_cons_succ, List.append_nil, Nat.add_zero]
        refine B.pop (pc := 448) dL_law_448 ?_
        refine B.goto (pc := 449) (tgt := 554) dL_law_449 (by decide) ?_
        refine B.iinc (pc := 554) dL_law_554 (by decide) rfl ⟨by omega, by omega⟩ ?_
        simp only [List.set_cons_zero, List.set_cons_succ]
        refine B.goto (pc := 557) (tgt := 18) dL_law_557 (by decide) ?_
        rw [show (4 * (t : Int) + 4) = 4 * ((t + 1 : Nat) : Int) by omega]
        refine B.widen (kc' := 52 + 9 * (t + 1)) (ks' := 20286 + 207 * (t + 1)) (by omega) (by omega) ?_
        exact ih (t + 1) (by omega) _ _ _ _ _ _ _ _ _ _ _ _ _ _ _ _ _ _ _ _ _ _ _ _ _ _ _ _ _ _ _ _ _ _ _ _ _ _ _ _ _ _ _ _ _ _ _ _ _ _ _ _ _ _ _ _ _ _ _ _ _ _ _ (by omega) hk435 hM hP1 hP2 hDq hUq hE1 hE2 hL1 hL2 hK0 hK1 hI
      refine zsplitE (X := fun v => Z _ _ 32 _ (.inl v :: _) _) (14) (fun e32_14 => ?_) (fun c32_14 => ?_)
      · refine B.tsIn (pc := 32) (tgt := 452) dL_law_32 (by decide) (by decide) rfl (by decide) ?_
        refine B.aload_n (pc := 452) (i := 1) dL_law_452 rfl rfl ?_
        refine B.aload_n (pc := 453) (i := 0) dL_law_453 rfl rfl ?_
        refine B.iload_n (pc := 454) (i := 3) dL_law_454 rfl rfl ?_
        refine B.iconst (pc := 455) dL_law_455 ⟨by decide, by decide⟩ ?_
        refine B.iadd (pc := 456) dL_law_456 ⟨by omega, by omega⟩ ?_
        refine B.scrload (pc := 457) hs (by omega) (by omega) dL_law_457 ?_
        refine B.aload_n (pc := 458) (i := 0) dL_law_458 rfl rfl ?_
        refine B.iload_n (pc := 459) (i := 3) dL_law_459 rfl rfl ?_
        refine B.iconst (pc := 460) dL_law_460 ⟨by decide, by decide⟩ ?_
        refine B.iadd (pc := 461) dL_law_461 ⟨by omega, by omega⟩ ?_
        refine B.scrload (pc := 462) hs (by omega) (by omega) dL_law_462 ?_
        refine B.callVi (pc := 463) 2 (mX6_sign hE _ _ _ _ _ _ _ _ _ _ _ _ _ _ _ _ _ _ _ _ _ _ _ _ _ _ _ _ _ _ _ _ _ _ _ _ _ _ _ _ _ _ _ _ _ _ _ _ _ _ _ _ _ _ _ _ _ _ _ _ _ _ _ _ _ _) 0 rfl rfl ml_L_73 im_X6_sign se_X6_sign it_X6 co_X6_sign (by decide +kernel) rfl rfl rfl ⟨by decide, by decide⟩ ⟨(by show _ ≤ 600000; omega), (by show _ ≤ 7302250; omega)⟩ [0, 1, 2, 3, 4, 5, 6, 7, 8, 9, 10, 11, 12, 13, 14, 15, 16, 17, 18, 19, 20, 21, 22, 23, 24, 25, 26, 27, 28, 29] rfl rfl rfl (Nat.le_of_ble_eq_true rfl) dL_law_463 (fun _ => hC) (fun zk463 uk463 rzk463 ruk463 rak463 hqk463 => ?_)
        obtain ⟨lzk463, uzk463⟩ := rzk463
        obtain ⟨c_net_lineLength_k463, c_net_count_k463, c_net_places_k463, c_net_lengths_k463, c_net_kinds_k463, c_net_costs_k463, c_net_words_k463, c_net_firsts_k463, c_net_joins_k463, c_net_slots_k463, c_netStands_k463, c_rankingStands_k463, c_ranking_before_k463, c_ranking_counts_k463, c_ranking_kept_k463, c_ranking_followed_k463, c_writing_signs_k463, c_writing_count_k463, rfl, hk463⟩ := hqk463
        simp only [zput, List.set_cons_zero, List.set_cons_succ, List.append_nil, Nat.add_zero]
        refine B.pop (pc := 466) dL_law_466 ?_
        refine B.aload_n (pc := 467) (i := 2) dL_law_467 rfl rfl ?_
        refine B.aload_n (pc := 468) (i := 0) dL_law_468 rfl rfl ?_
        refine B.iload_n (pc := 469) (i := 3) dL_law_469 rfl rfl ?_
        refine B.iconst (pc := 470) dL_law_470 ⟨by decide, by decide⟩ ?_
        refine B.iadd (pc := 471) dL_law_471 ⟨by omega, by omega⟩ ?_
        refine B.scrload (pc := 472) hs (by omega) (by omega) dL_law_472 ?_
        refine B.aload_n (pc := 473) (i := 0) dL_law_473 rfl rfl ?_
        refine B.iload_n (pc := 474) (i := 3) dL_law_474 rfl rfl ?_
        refine B.iconst (pc := 475) dL_law_475 ⟨by decide, by decide⟩ ?_
        refine B.iadd (pc := 476) dL_law_476 ⟨by omega, by omega⟩ ?_
        refine B.scrload (pc := 477) hs (by omega) (by omega) dL_law_477 ?_
        refine B.callVi (pc := 478) 2 (mX7_sign hE _ _ _ _ _ _ _ _ _ _ _ _ _ _ _ _ _ _ _ _ _ _ _ _ _ _ _ _ _ _ _ _ _ _ _ _ _ _ _ _ _ _ _ _ _ _ _ _ _ _ _ _) 30 rfl rfl ml_L_76 im_X7_sign se_X7_sign it_X7 co_X7_sign (by decide +kernel) rfl rfl rfl ⟨by decide, by decide⟩ ⟨(by show _ ≤ 600000; omega), (by show _ ≤ 7302250; omega)⟩ [30, 31, 32, 33, 34, 35, 36, 37, 38, 39, 40, 41, 42, 43, 44, 45, 46, 47, 48, 49, 50, 51] rfl rfl rfl (Nat.le_of_ble_eq_true rfl) dL_law_478 (fun _ => hM) (fun zk478 uk478 rzk478 ruk478 rak478 hqk478 => ?_)
        obtain ⟨lzk478, uzk478⟩ := rzk478
        obtain ⟨m_many_k478, m_place_k478, m_length_k478, m_sort_k478, m_price_k478, m_of_k478, m_begins_k478, m_rows_k478, m_rowCost_k478, m_rowNext_k478, rfl, hk478⟩ := hqk478
        simp only [zput, List.set_cons_zero, List.set_cons_succ, List.append_nil, Nat.add_zero]
        refine B.pop (pc := 481) dL_law_481 ?_
        refine B.goto (pc := 482) (tgt := 554) dL_law_482 (by decide) ?_
        refine B.iinc (pc := 554) dL_law_554 (by decide) rfl ⟨by omega, by omega⟩ ?_
        simp only [List.set_cons_zero, List.set_cons_succ]
        refine B.goto (pc := 557) (tgt := 18) dL_law_557 (by decide) ?_
        rw [show (4 * (t : Int) + 4) = 4 * ((t + 1 : Nat) : Int) by omega]
        refine B.widen (kc' := 52 + 9 * (t + 1)) (ks' := 20286 + 207 * (t + 1)) (by omega) (by omega) ?_
        exact ih (t + 1) (by omega) _ _ _ _ _ _ _ _ _ _ _ _ _ _ _ _ _ _ _ _ _ _ _ _ _ _ _ _ _ _ _ _ _ _ _ _ _ _ _ _ _ _ _ _ _ _ _ _ _ _ _ _ _ _ _ _ _ _ _ _ _ _ _ (by omega) hk463 hM hP1 hP2 hDq hUq hE1 hE2 hL1 hL2 hK0 hK1 hI
      refine zsplitE (X := fun v => Z _ _ 32 _ (.inl v :: _) _) (15) (fun e32_15 => ?_) (fun c32_15 => ?_)
      · refine B.tsIn (pc := 32) (tgt := 485) dL_law_32 (by decide) (by decide) rfl (by decide) ?_
        refine B.aload_n (pc := 485) (i := 1) dL_law_485 rfl rfl ?_
        refine B.aload_n (pc := 486) (i := 0) dL_law_486 rfl rfl ?_
        refine B.iload_n (pc := 487) (i := 3) dL_law_487 rfl rfl ?_
        refine B.iconst (pc := 488) dL_law_488 ⟨by decide, by decide⟩ ?_
        refine B.iadd (pc := 489) dL_law_489 ⟨by omega, by omega⟩ ?_
        refine B.scrload (pc := 490) hs (by omega) (by omega) dL_law_490 ?_
        refine law_image hE hEX B (pc := 491) _ _ _ _ _ _ _ _ _ _ _ _ _ _ _ _ _ _ _ _ _ _ _ _ _ _ _ _ _ _ _ _ _ _ _ _ _ _ _ _ _ _ _ _ _ _ _ _ _ _ _ _ _ _ _ _ _ _ _ _ _ _ _ _ _ _ _ _ _ _ _ _ _ _ _ _ _ _ _ _ _ _ _ _ _ _ _ _ _ _ ⟨by omega, by omega⟩ (Nat.le_of_ble_eq_true rfl) dL_law_491 hC hI (fun z491 im491 ex491 P0_491 P1_491 hI491 hz491 => ?_)
        refine B.pop (pc := 494) dL_law_494 ?_
        refine B.aload_n (pc := 495) (i := 2) dL_law_495 rfl rfl ?_
        refine B.aload_n (pc := 496) (i := 0) dL_law_496 rfl rfl ?_
        refine B.iload_n (pc := 497) (i := 3) dL_law_497 rfl rfl ?_
        refine B.iconst (pc := 498) dL_law_498 ⟨by decide, by decide⟩ ?_
        refine B.iadd (pc := 499) dL_law_499 ⟨by omega, by omega⟩ ?_
        refine B.scrload (pc := 500) hs (by omega) (by omega) dL_law_500 ?_
        refine B.callVi (pc := 501) 1 (mX7_image hE _ _ _ _ _ _ _ _ _ _ _ _ _ _ _ _ _ _ _ _ _ _ _ _ _ _ _ _ _ _ _ _ _ _ _ _ _ _ _ _ _ _ _ _ _ _ _ _ _ _ _) 30 rfl rfl ml_L_80 im_X7_image se_X7_image it_X7 co_X7_image (by decide +kernel) rfl rfl rfl ⟨by decide, by decide⟩ ⟨(by show _ ≤ 600000; omega), (by show _ ≤ 7302250; omega)⟩ [30, 31, 32, 33, 34, 35, 36, 37, 38, 39, 40, 41, 42, 43, 44, 45, 46, 47, 48, 49, 50, 51] rfl rfl rfl (Nat.le_of_ble_eq_true rfl) dL_law_501 (fun _ => hM) (fun zk501 uk501 rzk501 ruk501 rak501 hqk501 => ?_)
        obtain ⟨lzk501, uzk501⟩ := rzk501
        obtain ⟨m_image_k501, m_isKept_k501, rfl, hk501⟩ := hqk501
        simp only [zput, List.set_cons_zero, List.set_cons_succ, List.append_nil, Nat.add_zero]
        have hj501 := img_step hI491 hz491 hk501.2 ⟨hDq, hUq, hE1, hE2, hL1, hL2⟩ hC.2.1 (BI.l24 hC.2.2.1).2 hK0 hK1
        refine B.pop (pc := 504) dL_law_504 ?_
        refine B.goto (pc := 505) (tgt := 554) dL_law_505 (by decide) ?_
        refine B.iinc (pc := 554) dL_law_554 (by decide) rfl ⟨by omega, by omega⟩ ?_
        simp only [List.set_cons_zero, List.set_cons_succ]
        refine B.goto (pc := 557) (tgt := 18) dL_law_557 (by decide) ?_
        rw [show (4 * (t : Int) + 4) = 4 * ((t + 1 : Nat) : Int) by omega]
        refine B.widen (kc' := 52 + 9 * (t + 1)) (ks' := 20286 + 207 * (t + 1)) (by omega) (by omega) ?_
        exact ih (t + 1) (by omega) _ _ _ _ _ _ _ _ _ _ _ _ _ _ _ _ _ _ _ _ _ _ _ _ _ _ _ _ _ _ _ _ _ _ _ _ _ _ _ _ _ _ _ _ _ _ _ _ _ _ _ _ _ _ _ _ _ _ _ _ _ _ _ (by omega) hC hk501.1 hP1 hP2 hDq hUq hE1 hE2 hL1 hL2 hj501.2.1 hj501.2.2.1 hj501.2.2.2
      refine zsplitE (X := fun v => Z _ _ 32 _ (.inl v :: _) _) (16) (fun e32_16 => ?_) (fun c32_16 => ?_)
      · refine B.tsIn (pc := 32) (tgt := 508) dL_law_32 (by decide) (by decide) rfl (by decide) ?_
        refine B.aload_n (pc := 508) (i := 1) dL_law_508 rfl rfl ?_
        refine B.aload_n (pc := 509) (i := 0) dL_law_509 rfl rfl ?_
        refine B.iload_n (pc := 510) (i := 3) dL_law_510 rfl rfl ?_
        refine B.iconst (pc := 511) dL_law_511 ⟨by decide, by decide⟩ ?_
        refine B.iadd (pc := 512) dL_law_512 ⟨by omega, by omega⟩ ?_
        refine B.scrload (pc := 513) hs (by omega) (by omega) dL_law_513 ?_
        refine law_restore hE hEX B (pc := 514) _ _ _ _ _ _ _ _ _ _ _ _ _ _ _ _ _ _ _ _ _ _ _ _ _ _ _ _ _ _ _ _ _ _ _ _ _ _ _ _ _ _ _ _ _ _ _ _ _ _ _ _ _ _ _ _ _ _ _ _ _ _ _ _ _ _ _ _ _ _ _ _ _ _ _ _ _ _ _ _ _ _ _ _ _ _ _ _ _ _ ⟨by omega, by omega⟩ (Nat.le_of_ble_eq_true rfl) dL_law_514 hC hI (fun z514 c_book_dictionary_count_514 c_book_dictionary_letters_514 c_book_dictionary_lengths_514 c_book_dictionary_kinds_514 c_book_dictionary_costs_514 c_book_joins_514 c_book_rules_514 c_book_line_514 c_book_lineLength_514 c_netStands_514 c_rankingStands_514 hC514 hx514 => ?_)
        refine B.pop (pc := 517) dL_law_517 ?_
        refine B.aload_n (pc := 518) (i := 2) dL_law_518 rfl rfl ?_
        refine B.aload_n (pc := 519) (i := 0) dL_law_519 rfl rfl ?_
        refine B.iload_n (pc := 520) (i := 3) dL_law_520 rfl rfl ?_
        refine B.iconst (pc := 521) dL_law_521 ⟨by decide, by decide⟩ ?_
        refine B.iadd (pc := 522) dL_law_522 ⟨by omega, by omega⟩ ?_
        refine B.scrload (pc := 523) hs (by omega) (by omega) dL_law_523 ?_
        refine B.callVi (pc := 524) 1 (mX7_restore hE _ _ _ _ _ _ _ _ _ _ _ _ _ _ _ _ _ _ _ _ _ _ _ _ _ _ _ _ _ _ _ _ _ _ _ _ _ _ _ _ _ _ _ _ _ _ _ _ _ _ _) 30 rfl rfl ml_L_84 im_X7_restore se_X7_restore it_X7 co_X7_restore (by decide +kernel) rfl rfl rfl ⟨by decide, by decide⟩ ⟨(by show _ ≤ 600000; omega), (by show _ ≤ 7302250; omega)⟩ [30, 31, 32, 33, 34, 35, 36, 37, 38, 39, 40, 41, 42, 43, 44, 45, 46, 47, 48, 49, 50, 51] rfl rfl rfl (Nat.le_of_ble_eq_true rfl) dL_law_524 (fun _ => hM) (fun zk524 uk524 rzk524 ruk524 rak524 hqk524 => ?_)
        obtain ⟨lzk524, uzk524⟩ := rzk524
        obtain ⟨m_letters_k524, m_size_k524, m_kind_k524, m_cost_k524, m_joins_k524, m_rules_k524, m_line_k524, m_words_k524, m_long1_k524, rfl, hk524⟩ := hqk524
        simp only [zput, List.set_cons_zero, List.set_cons_succ, List.append_nil, Nat.add_zero]
        have hj524 := rst_step hx514 hk524.2 ⟨hDq, hUq, hE1, hE2, hL1, hL2⟩ hC514.2.1 (BI.l24 hC514.2.2.1).2 hK0 hK1
        refine B.pop (pc := 527) dL_law_527 ?_
        refine B.goto (pc := 528) (tgt := 554) dL_law_528 (by decide) ?_
        refine B.iinc (pc := 554) dL_law_554 (by decide) rfl ⟨by omega, by omega⟩ ?_
        simp only [List.set_cons_zero, List.set_cons_succ]
        refine B.goto (pc := 557) (tgt := 18) dL_law_557 (by decide) ?_
        rw [show (4 * (t : Int) + 4) = 4 * ((t + 1 : Nat) : Int) by omega]
        refine B.widen (kc' := 52 + 9 * (t + 1)) (ks' := 20286 + 207 * (t + 1)) (by omega) (by omega) ?_
        exact ih (t + 1) (by omega) _ _ _ _ _ _ _ _ _ _ _ _ _ _ _ _ _ _ _ _ _ _ _ _ _ _ _ _ _ _ _ _ _ _ _ _ _ _ _ _ _ _ _ _ _ _ _ _ _ _ _ _ _ _ _ _ _ _ _ _ _ _ _ (by omega) hC514 hk524.1 hP1 hP2 hj524.2.1 hj524.2.2.1 hj524.2.2.2.1 hj524.2.2.2.2.1 hj524.2.2.2.2.2.1 hj524.2.2.2.2.2.2 hK0 hK1 hI
      refine zsplitE (X := fun v => Z _ _ 32 _ (.inl v :: _) _) (17) (fun e32_17 => ?_) (fun c32_17 => ?_)
      · refine B.tsIn (pc := 32) (tgt := 531) dL_law_32 (by decide) (by decide) rfl (by decide) ?_
        refine B.aload_n (pc := 531) (i := 1) dL_law_531 rfl rfl ?_
        refine B.aload_n (pc := 532) (i := 0) dL_law_532 rfl rfl ?_
        refine B.iload_n (pc := 533) (i := 3) dL_law_533 rfl rfl ?_
        refine B.iconst (pc := 534) dL_law_534 ⟨by decide, by decide⟩ ?_
        refine B.iadd (pc := 535) dL_law_535 ⟨by omega, by omega⟩ ?_
        refine B.scrload (pc := 536) hs (by omega) (by omega) dL_law_536 ?_
        refine B.callVi (pc := 537) 1 (mX6_told hE _ _ _ _ _ _ _ _ _ _ _ _ _ _ _ _ _ _ _ _ _ _ _ _ _ _ _ _ _ _ _ _ _ _ _ _ _ _ _ _ _ _ _ _ _ _ _ _ _ _ _ _ _ _ _ _ _ _ _ _ _ _ _ _ _) 0 rfl rfl ml_L_85 im_X6_told se_X6_told it_X6 co_X6_told (by decide +kernel) rfl rfl rfl ⟨by decide, by decide⟩ ⟨(by show _ ≤ 600000; omega), (by show _ ≤ 7302250; omega)⟩ [0, 1, 2, 3, 4, 5, 6, 7, 8, 9, 10, 11, 12, 13, 14, 15, 16, 17, 18, 19, 20, 21, 22, 23, 24, 25, 26, 27, 28, 29] rfl rfl rfl (Nat.le_of_ble_eq_true rfl) dL_law_537 (fun _ => hC) (fun zk537 uk537 rzk537 ruk537 rak537 hqk537 => ?_)
        obtain ⟨lzk537, uzk537⟩ := rzk537
        obtain ⟨rfl, hk537⟩ := hqk537
        simp only [zput, List.set_cons_zero, List.set_cons_succ, List.append_nil, Nat.add_zero]
        refine B.pop (pc := 540) dL_law_540 ?_
        refine B.aload_n (pc := 541) (i := 2) dL_law_541 rfl rfl ?_
        refine B.aload_n (pc := 542) (i := 0) dL_law_542 rfl rfl ?_
        refine B.iload_n (pc := 543) (i := 3) dL_law_543 rfl rfl ?_
        refine B.iconst (pc := 544) dL_law_544 ⟨by decide, by decide⟩ ?_
        refine B.iadd (pc := 545) dL_law_545 ⟨by omega, by omega⟩ ?_
        refine B.scrload (pc := 546) hs (by omega) (by omega) dL_law_546 ?_
        refine B.callVi (pc := 547) 1 (mX7_told hE _ _ _ _ _ _ _ _ _ _ _ _ _ _ _ _ _ _ _ _ _ _ _ _ _ _ _ _ _ _ _ _ _ _ _ _ _ _ _ _ _ _ _ _ _ _ _ _ _ _ _) 30 rfl rfl ml_L_88 im_X7_told se_X7_told it_X7 co_X7_told (by decide +kernel) rfl rfl rfl ⟨by decide, by decide⟩ ⟨(by show _ ≤ 600000; omega), (by show _ ≤ 7302250; omega)⟩ [30, 31, 32, 33, 34, 35, 36, 37, 38, 39, 40, 41, 42, 43, 44, 45, 46, 47, 48, 49, 50, 51] rfl rfl rfl (Nat.le_of_ble_eq_true rfl) dL_law_547 (fun _ => hM) (fun zk547 uk547 rzk547 ruk547 rak547 hqk547 => ?_)
        obtain ⟨lzk547, uzk547⟩ := rzk547
        obtain ⟨rfl, hk547⟩ := hqk547
        simp only [zput, List.set_cons_zero, List.set_cons_succ, List.append_nil, Nat.add_zero]
        have hj547 := And.intro (zTS.same hk537 hk547 hP1 hDq.1 hL1 hE1 hE2 hL2) trivial
        refine B.pop (pc := 550) dL_law_550 ?_
        refine B.goto (pc := 551) (tgt := 554) dL_law_551 (by decide) ?_
        refine B.iinc (pc := 554) dL_law_554 (by decide) rfl ⟨by omega, by omega⟩ ?_
        simp only [List.set_cons_zero, List.set_cons_succ]
        refine B.goto (pc := 557) (tgt := 18) dL_law_557 (by decide) ?_
        rw [show (4 * (t : Int) + 4) = 4 * ((t + 1 : Nat) : Int) by omega]
        refine B.widen (kc' := 52 + 9 * (t + 1)) (ks' := 20286 + 207 * (t + 1)) (by omega) (by omega) ?_
        exact ih (t + 1) (by omega) _ _ _ _ _ _ _ _ _ _ _ _ _ _ _ _ _ _ _ _ _ _ _ _ _ _ _ _ _ _ _ _ _ _ _ _ _ _ _ _ _ _ _ _ _ _ _ _ _ _ _ _ _ _ _ _ _ _ _ _ _ _ _ (by omega) hC hM hP1 hP2 hDq hUq hE1 hE2 hL1 hL2 hK0 hK1 hI
      refine B.tsOut (pc := 32) (tgt := 554) dL_law_32 (by omega) (by decide) ?_
      refine B.iinc (pc := 554) dL_law_554 (by decide) rfl ⟨by omega, by omega⟩ ?_
      simp only [List.set_cons_zero, List.set_cons_succ]
      refine B.goto (pc := 557) (tgt := 18) dL_law_557 (by decide) ?_
      rw [show (4 * (t : Int) + 4) = 4 * ((t + 1 : Nat) : Int) by omega]
      refine B.widen (kc' := 52 + 9 * (t + 1)) (ks' := 20286 + 207 * (t + 1)) (by omega) (by omega) ?_
      exact ih (t + 1) (by omega) _ _ _ _ _ _ _ _ _ _ _ _ _ _ _ _ _ _ _ _ _ _ _ _ _ _ _ _ _ _ _ _ _ _ _ _ _ _ _ _ _ _ _ _ _ _ _ _ _ _ _ _ _ _ _ _ _ _ _ _ _ _ _ (by omega) hC hM hP1 hP2 hDq hUq hE1 hE2 hL1 hL2 hK0 hK1 hI
