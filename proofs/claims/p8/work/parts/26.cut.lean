set_option maxHeartbeats 4000000 in
set_option maxRecDepth 100000 in
theorem mX6_isJoin {l : Launch} {D : va_G} {k : zK} {E : zE} (hE : zEok E) (one other : Int) : zMi l D k E yX6_isJoin cX6_isJoin 2 .boolean { frames := 0, cells := 0, slots := 0, locals := 0 } 0 0 [.inl one, .inl other] [] (True) (fun z u => u = [] ∧ ((z = 0 ∨ z = 1) ∧ (z = 1 ↔ 0 ≤ one ∧ one ≤ 4 ∧ 0 ≤ other ∧ other ≤ 4 ∧ ¬ (one = 4 ∧ other = 4)))) := by
  refine zMi.of RX6 hE (by decide) rfl (by simp) (fun z u hp hq => ?_) ?_
  · have hz : z = 0 ∨ z = 1 := by obtain ⟨_, hq⟩ := hq; first | exact hq | exact hq.1 | exact Or.inr hq
    rcases hz with rfl | rfl <;> decide
  intro Z hP hav hwr B
  obtain ⟨l_one, u_one⟩ : zR one := hav (.inl one) (by simp)
  obtain ⟨l_other, u_other⟩ : zR other := hav (.inl other) (by simp)
  show Z 0 0 0 [some (.inl one), some (.inl other)] [] _
  refine B.iload_n (pc := 0) (i := 0) dX6_isJoin_0 rfl rfl ?_
  refine B.if_lt (pc := 1) (tgt := 18) dX6_isJoin_1 (by decide) (fun c1 => ?_) (fun c1 => ?_)
  · refine B.iconst (pc := 18) dX6_isJoin_18 ⟨by decide, by decide⟩ ?_
    refine B.ireturn (pc := 19) (by simp) dX6_isJoin_19 (Nat.le_refl _) (Nat.le_refl _) (fun rz rw => ⟨rfl, ?_⟩)
    omega
  · refine B.iload_n (pc := 4) (i := 0) dX6_isJoin_4 rfl rfl ?_
    refine B.iconst (pc := 5) dX6_isJoin_5 ⟨by decide, by decide⟩ ?_
    refine B.icmp_gt (pc := 6) (tgt := 18) dX6_isJoin_6 (by decide) (fun c6 => ?_) (fun c6 => ?_)
    · refine B.iconst (pc := 18) dX6_isJoin_18 ⟨by decide, by decide⟩ ?_
      refine B.ireturn (pc := 19) (by simp) dX6_isJoin_19 (Nat.le_refl _) (Nat.le_refl _) (fun rz rw => ⟨rfl, ?_⟩)
      omega
    · refine B.iload_n (pc := 9) (i := 1) dX6_isJoin_9 rfl rfl ?_
      refine B.if_lt (pc := 10) (tgt := 18) dX6_isJoin_10 (by decide) (fun c10 => ?_) (fun c10 => ?_)
      · refine B.iconst (pc := 18) dX6_isJoin_18 ⟨by decide, by decide⟩ ?_
        refine B.ireturn (pc := 19) (by simp) dX6_isJoin_19 (Nat.le_refl _) (Nat.le_refl _) (fun rz rw => ⟨rfl, ?_⟩)
        omega
      · refine B.iload_n (pc := 13) (i := 1) dX6_isJoin_13 rfl rfl ?_
        refine B.iconst (pc := 14) dX6_isJoin_14 ⟨by decide, by decide⟩ ?_
        refine B.icmp_le (pc := 15) (tgt := 20) dX6_isJoin_15 (by decide) (fun c15 => ?_) (fun c15 => ?_)
        · refine B.iload_n (pc := 20) (i := 0) dX6_isJoin_20 rfl rfl ?_
          refine B.iconst (pc := 21) dX6_isJoin_21 ⟨by decide, by decide⟩ ?_
          refine B.icmp_ne (pc := 22) (tgt := 30) dX6_isJoin_22 (by decide) (fun c22 => ?_) (fun c22 => ?_)
          · refine B.iconst (pc := 30) dX6_isJoin_30 ⟨by decide, by decide⟩ ?_
            refine B.goto (pc := 31) (tgt := 35) dX6_isJoin_31 (by decide) ?_
            refine B.ireturn (pc := 35) (by simp) dX6_isJoin_35 (Nat.le_refl _) (Nat.le_refl _) (fun rz rw => ⟨rfl, ?_⟩)
            omega
          · refine B.iload_n (pc := 25) (i := 1) dX6_isJoin_25 rfl rfl ?_
            refine B.iconst (pc := 26) dX6_isJoin_26 ⟨by decide, by decide⟩ ?_
            refine B.icmp_eq (pc := 27) (tgt := 34) dX6_isJoin_27 (by decide) (fun c27 => ?_) (fun c27 => ?_)
            · refine B.iconst (pc := 34) dX6_isJoin_34 ⟨by decide, by decide⟩ ?_
              refine B.ireturn (pc := 35) (by simp) dX6_isJoin_35 (Nat.le_refl _) (Nat.le_refl _) (fun rz rw => ⟨rfl, ?_⟩)
              omega
            · refine B.iconst (pc := 30) dX6_isJoin_30 ⟨by decide, by decide⟩ ?_
              refine B.goto (pc := 31) (tgt := 35) dX6_isJoin_31 (by decide) ?_
              refine B.ireturn (pc := 35) (by simp) dX6_isJoin_35 (Nat.le_refl _) (Nat.le_refl _) (fun rz rw => ⟨rfl, ?_⟩)
              omega
        · refine B.iconst (pc := 18) dX6_isJoin_18 ⟨by decide, by decide⟩ ?_
          refine B.ireturn (pc := 19) (by simp) dX6_isJoin_19 (Nat.le_refl _) (Nat.le_refl _) (fun rz rw => ⟨rfl, ?_⟩)
          omega
set_option maxHeartbeats 4000000 in
set_option maxRecDepth 100000 in
theorem mX6_hasLine {l : Launch} {D : va_G} {k : zK} {E : zE} (hE : zEok E) (c_a c_pad_a c_pad_signs_a c_book_a c_book_dictionary_a c_book_dictionary_letters_a c_book_dictionary_lengths_a c_book_dictionary_kinds_a c_book_dictionary_costs_a c_book_joins_a c_book_rules_a c_book_line_a c_images_a c_net_a c_net_places_a c_net_lengths_a c_net_kinds_a c_net_costs_a c_net_words_a c_net_firsts_a c_net_joins_a c_net_slots_a c_net_routes_a c_ranking_a c_ranking_before_a c_ranking_counts_a c_ranking_kept_a c_ranking_followed_a c_writing_a c_writing_signs_a : Nat) (c_pad_count c_pad_letters c_pad_kind c_pad_cost c_book_dictionary_count c_book_lineLength c_net_lineLength c_net_count c_writing_count c_netStands c_rankingStands : Int) (c_pad_signs c_book_dictionary_letters c_book_dictionary_lengths c_book_dictionary_kinds c_book_dictionary_costs c_book_joins c_book_rules c_book_line c_net_places c_net_lengths c_net_kinds c_net_costs c_net_words c_net_firsts c_net_joins c_net_slots c_net_routes c_ranking_before c_ranking_counts c_ranking_kept c_ranking_followed c_writing_signs : Nat → Int) (c_images : Nat → Option Nat) : zMi l D k E yX6_hasLine cX6_hasLine 1 .boolean { frames := 0, cells := 0, slots := 0, locals := 0 } 0 0 [.inr (some c_a)] [(c_a, .inr (.inr (6, [.inr (some c_pad_a), .inr (some c_book_a), .inr (some c_images_a), .inr (some c_net_a), .inr (some c_ranking_a), .inr (some c_writing_a), .inl c_netStands, .inl c_rankingStands]))), (c_pad_a, .inr (.inr (3, [.inr (some c_pad_signs_a), .inl c_pad_count, .inl c_pad_letters, .inl c_pad_kind, .inl c_pad_cost]))), (c_pad_signs_a, .inl (false, 40, c_pad_signs)), (c_book_a, .inr (.inr (0, [.inr (some c_book_dictionary_a), .inr (some c_book_joins_a), .inr (some c_book_rules_a), .inr (some c_book_line_a), .inl c_book_lineLength]))), (c_book_dictionary_a, .inr (.inr (1, [.inr (some c_book_dictionary_letters_a), .inr (some c_book_dictionary_lengths_a), .inr (some c_book_dictionary_kinds_a), .inr (some c_book_dictionary_costs_a), .inl c_book_dictionary_count]))), (c_book_dictionary_letters_a, .inl (false, 96, c_book_dictionary_letters)), (c_book_dictionary_lengths_a, .inl (false, 16, c_book_dictionary_lengths)), (c_book_dictionary_kinds_a, .inl (false, 16, c_book_dictionary_kinds)), (c_book_dictionary_costs_a, .inl (false, 16, c_book_dictionary_costs)), (c_book_joins_a, .inl (false, 25, c_book_joins)), (c_book_rules_a, .inl (false, 4, c_book_rules)), (c_book_line_a, .inl (false, 24, c_book_line)), (c_images_a, .inr (.inl (2, c_images))), (c_net_a, .inr (.inr (2, [.inl c_net_lineLength, .inl c_net_count, .inr (some c_net_places_a), .inr (some c_net_lengths_a), .inr (some c_net_kinds_a), .inr (some c_net_costs_a), .inr (some c_net_words_a), .inr (some c_net_firsts_a), .inr (some c_net_joins_a), .inr (some c_net_slots_a), .inr (some c_net_routes_a)]))), (c_net_places_a, .inl (false, 480, c_net_places)), (c_net_lengths_a, .inl (false, 480, c_net_lengths)), (c_net_kinds_a, .inl (false, 480, c_net_kinds)), (c_net_costs_a, .inl (false, 480, c_net_costs)), (c_net_words_a, .inl (false, 480, c_net_words)), (c_net_firsts_a, .inl (false, 25, c_net_firsts)), (c_net_joins_a, .inl (false, 25, c_net_joins)), (c_net_slots_a, .inl (false, 28, c_net_slots)), (c_net_routes_a, .inl (false, 25, c_net_routes)), (c_ranking_a, .inr (.inr (4, [.inr (some c_ranking_before_a), .inr (some c_ranking_counts_a), .inr (some c_ranking_kept_a), .inr (some c_ranking_followed_a)]))), (c_ranking_before_a, .inl (false, 125, c_ranking_before)), (c_ranking_counts_a, .inl (false, 125, c_ranking_counts)), (c_ranking_kept_a, .inl (false, 1500, c_ranking_kept)), (c_ranking_followed_a, .inl (false, 24, c_ranking_followed)), (c_writing_a, .inr (.inr (5, [.inr (some c_writing_signs_a), .inl c_writing_count]))), (c_writing_signs_a, .inl (false, 71, c_writing_signs))] (True) (fun z u => u = [(c_a, .inr (.inr (6, [.inr (some c_pad_a), .inr (some c_book_a), .inr (some c_images_a), .inr (some c_net_a), .inr (some c_ranking_a), .inr (some c_writing_a), .inl c_netStands, .inl c_rankingStands]))), (c_pad_a, .inr (.inr (3, [.inr (some c_pad_signs_a), .inl c_pad_count, .inl c_pad_letters, .inl c_pad_kind, .inl c_pad_cost]))), (c_pad_signs_a, .inl (false, 40, c_pad_signs)), (c_book_a, .inr (.inr (0, [.inr (some c_book_dictionary_a), .inr (some c_book_joins_a), .inr (some c_book_rules_a), .inr (some c_book_line_a), .inl c_book_lineLength]))), (c_book_dictionary_a, .inr (.inr (1, [.inr (some c_book_dictionary_letters_a), .inr (some c_book_dictionary_lengths_a), .inr (some c_book_dictionary_kinds_a), .inr (some c_book_dictionary_costs_a), .inl c_book_dictionary_count]))), (c_book_dictionary_letters_a, .inl (false, 96, c_book_dictionary_letters)), (c_book_dictionary_lengths_a, .inl (false, 16, c_book_dictionary_lengths)), (c_book_dictionary_kinds_a, .inl (false, 16, c_book_dictionary_kinds)), (c_book_dictionary_costs_a, .inl (false, 16, c_book_dictionary_costs)), (c_book_joins_a, .inl (false, 25, c_book_joins)), (c_book_rules_a, .inl (false, 4, c_book_rules)), (c_book_line_a, .inl (false, 24, c_book_line)), (c_images_a, .inr (.inl (2, c_images))), (c_net_a, .inr (.inr (2, [.inl c_net_lineLength, .inl c_net_count, .inr (some c_net_places_a), .inr (some c_net_lengths_a), .inr (some c_net_kinds_a), .inr (some c_net_costs_a), .inr (some c_net_words_a), .inr (some c_net_firsts_a), .inr (some c_net_joins_a), .inr (some c_net_slots_a), .inr (some c_net_routes_a)]))), (c_net_places_a, .inl (false, 480, c_net_places)), (c_net_lengths_a, .inl (false, 480, c_net_lengths)), (c_net_kinds_a, .inl (false, 480, c_net_kinds)), (c_net_costs_a, .inl (false, 480, c_net_costs)), (c_net_words_a, .inl (false, 480, c_net_words)), (c_net_firsts_a, .inl (false, 25, c_net_firsts)), (c_net_joins_a, .inl (false, 25, c_net_joins)), (c_net_slots_a, .inl (false, 28, c_net_slots)), (c_net_routes_a, .inl (false, 25, c_net_routes)), (c_ranking_a, .inr (.inr (4, [.inr (some c_ranking_before_a), .inr (some c_ranking_counts_a), .inr (some c_ranking_kept_a), .inr (some c_ranking_followed_a)]))), (c_ranking_before_a, .inl (false, 125, c_ranking_before)), (c_ranking_counts_a, .inl (false, 125, c_ranking_counts)), (c_ranking_kept_a, .inl (false, 1500, c_ranking_kept)), (c_ranking_followed_a, .inl (false, 24, c_ranking_followed)), (c_writing_a, .inr (.inr (5, [.inr (some c_writing_signs_a), .inl c_writing_count]))), (c_writing_signs_a, .inl (false, 71, c_writing_signs))] ∧ ((z = 0 ∨ z = 1) ∧ (z = 1 ↔ 0 < c_book_lineLength))) := by
  refine zMi.of RX6 hE (by decide) rfl (by simp) (fun z u hp hq => ?_) ?_
  · have hz : z = 0 ∨ z = 1 := by obtain ⟨_, hq⟩ := hq; first | exact hq | exact hq.1 | exact Or.inr hq
    rcases hz with rfl | rfl <;> decide
  intro Z hP hav hwr B
  obtain ⟨l_c_netStands, u_c_netStands⟩ : zR c_netStands := zWr_at hwr (i := 0) rfl (.inl c_netStands) (by simp)
  obtain ⟨l_c_rankingStands, u_c_rankingStands⟩ : zR c_rankingStands := zWr_at hwr (i := 0) rfl (.inl c_rankingStands) (by simp)
  obtain ⟨l_c_pad_count, u_c_pad_count⟩ : zR c_pad_count := zWr_at hwr (i := 1) rfl (.inl c_pad_count) (by simp)
  obtain ⟨l_c_pad_letters, u_c_pad_letters⟩ : zR c_pad_letters := zWr_at hwr (i := 1) rfl (.inl c_pad_letters) (by simp)
  obtain ⟨l_c_pad_kind, u_c_pad_kind⟩ : zR c_pad_kind := zWr_at hwr (i := 1) rfl (.inl c_pad_kind) (by simp)
  obtain ⟨l_c_pad_cost, u_c_pad_cost⟩ : zR c_pad_cost := zWr_at hwr (i := 1) rfl (.inl c_pad_cost) (by simp)
  obtain ⟨l_c_book_lineLength, u_c_book_lineLength⟩ : zR c_book_lineLength := zWr_at hwr (i := 3) rfl (.inl c_book_lineLength) (by simp)
  obtain ⟨l_c_book_dictionary_count, u_c_book_dictionary_count⟩ : zR c_book_dictionary_count := zWr_at hwr (i := 4) rfl (.inl c_book_dictionary_count) (by simp)
  obtain ⟨l_c_net_lineLength, u_c_net_lineLength⟩ : zR c_net_lineLength := zWr_at hwr (i := 13) rfl (.inl c_net_lineLength) (by simp)
  obtain ⟨l_c_net_count, u_c_net_count⟩ : zR c_net_count := zWr_at hwr (i := 13) rfl (.inl c_net_count) (by simp)
  obtain ⟨l_c_writing_count, u_c_writing_count⟩ : zR c_writing_count := zWr_at hwr (i := 28) rfl (.inl c_writing_count) (by simp)
  show Z 0 0 0 [some (.inr (some c_a))] [] _
  refine B.aload_n (pc := 0) (i := 0) dX6_hasLine_0 rfl rfl ?_
  refine B.getfield (pc := 1) 0 rfl rfl inX6z 1 (by decide) fl_X6_19 rfl dX6_hasLine_1 ?_
  refine B.getfield (pc := 4) 3 rfl rfl inX0z 4 (by decide) fl_X6_95 rfl dX6_hasLine_4 ?_
  refine B.if_le (pc := 7) (tgt := 14) dX6_hasLine_7 (by decide) (fun c7 => ?_) (fun c7 => ?_)
  · refine B.iconst (pc := 14) dX6_hasLine_14 ⟨by decide, by decide⟩ ?_
    refine B.ireturn (pc := 15) (by simp) dX6_hasLine_15 (Nat.le_refl _) (Nat.le_refl _) (fun rz rw => ⟨rfl, ?_⟩)
    omega
  · refine B.iconst (pc := 10) dX6_hasLine_10 ⟨by decide, by decide⟩ ?_
    refine B.goto (pc := 11) (tgt := 15) dX6_hasLine_11 (by decide) ?_
    refine B.ireturn (pc := 15) (by simp) dX6_hasLine_15 (Nat.le_refl _) (Nat.le_refl _) (fun rz rw => ⟨rfl, ?_⟩)
    omega
set_option maxHeartbeats 4000000 in
set_option maxRecDepth 100000 in
theorem mX6_somethingChanged {l : Launch} {D : va_G} {k : zK} {E : zE} (hE : zEok E) (c_a c_pad_a c_pad_signs_a c_book_a c_book_dictionary_a c_book_dictionary_letters_a c_book_dictionary_lengths_a c_book_dictionary_kinds_a c_book_dictionary_costs_a c_book_joins_a c_book_rules_a c_book_line_a c_images_a c_net_a c_net_places_a c_net_lengths_a c_net_kinds_a c_net_costs_a c_net_words_a c_net_firsts_a c_net_joins_a c_net_slots_a c_net_routes_a c_ranking_a c_ranking_before_a c_ranking_counts_a c_ranking_kept_a c_ranking_followed_a c_writing_a c_writing_signs_a : Nat) (c_pad_count c_pad_letters c_pad_kind c_pad_cost c_book_dictionary_count c_book_lineLength c_net_lineLength c_net_count c_writing_count c_netStands c_rankingStands : Int) (c_pad_signs c_book_dictionary_letters c_book_dictionary_lengths c_book_dictionary_kinds c_book_dictionary_costs c_book_joins c_book_rules c_book_line c_net_places c_net_lengths c_net_kinds c_net_costs c_net_words c_net_firsts c_net_joins c_net_slots c_net_routes c_ranking_before c_ranking_counts c_ranking_kept c_ranking_followed c_writing_signs : Nat → Int) (c_images : Nat → Option Nat) : zMv l D k E yX6_somethingChanged cX6_somethingChanged 1 { frames := 0, cells := 0, slots := 0, locals := 0 } 0 0 [.inr (some c_a)] [(c_a, .inr (.inr (6, [.inr (some c_pad_a), .inr (some c_book_a), .inr (some c_images_a), .inr (some c_net_a), .inr (some c_ranking_a), .inr (some c_writing_a), .inl c_netStands, .inl c_rankingStands]))), (c_pad_a, .inr (.inr (3, [.inr (some c_pad_signs_a), .inl c_pad_count, .inl c_pad_letters, .inl c_pad_kind, .inl c_pad_cost]))), (c_pad_signs_a, .inl (false, 40, c_pad_signs)), (c_book_a, .inr (.inr (0, [.inr (some c_book_dictionary_a), .inr (some c_book_joins_a), .inr (some c_book_rules_a), .inr (some c_book_line_a), .inl c_book_lineLength]))), (c_book_dictionary_a, .inr (.inr (1, [.inr (some c_book_dictionary_letters_a), .inr (some c_book_dictionary_lengths_a), .inr (some c_book_dictionary_kinds_a), .inr (some c_book_dictionary_costs_a), .inl c_book_dictionary_count]))), (c_book_dictionary_letters_a, .inl (false, 96, c_book_dictionary_letters)), (c_book_dictionary_lengths_a, .inl (false, 16, c_book_dictionary_lengths)), (c_book_dictionary_kinds_a, .inl (false, 16, c_book_dictionary_kinds)), (c_book_dictionary_costs_a, .inl (false, 16, c_book_dictionary_costs)), (c_book_joins_a, .inl (false, 25, c_book_joins)), (c_book_rules_a, .inl (false, 4, c_book_rules)), (c_book_line_a, .inl (false, 24, c_book_line)), (c_images_a, .inr (.inl (2, c_images))), (c_net_a, .inr (.inr (2, [.inl c_net_lineLength, .inl c_net_count, .inr (some c_net_places_a), .inr (some c_net_lengths_a), .inr (some c_net_kinds_a), .inr (some c_net_costs_a), .inr (some c_net_words_a), .inr (some c_net_firsts_a), .inr (some c_net_joins_a), .inr (some c_net_slots_a), .inr (some c_net_routes_a)]))), (c_net_places_a, .inl (false, 480, c_net_places)), (c_net_lengths_a, .inl (false, 480, c_net_lengths)), (c_net_kinds_a, .inl (false, 480, c_net_kinds)), (c_net_costs_a, .inl (false, 480, c_net_costs)), (c_net_words_a, .inl (false, 480, c_net_words)), (c_net_firsts_a, .inl (false, 25, c_net_firsts)), (c_net_joins_a, .inl (false, 25, c_net_joins)), (c_net_slots_a, .inl (false, 28, c_net_slots)), (c_net_routes_a, .inl (false, 25, c_net_routes)), (c_ranking_a, .inr (.inr (4, [.inr (some c_ranking_before_a), .inr (some c_ranking_counts_a), .inr (some c_ranking_kept_a), .inr (some c_ranking_followed_a)]))), (c_ranking_before_a, .inl (false, 125, c_ranking_before)), (c_ranking_counts_a, .inl (false, 125, c_ranking_counts)), (c_ranking_kept_a, .inl (false, 1500, c_ranking_kept)), (c_ranking_followed_a, .inl (false, 24, c_ranking_followed)), (c_writing_a, .inr (.inr (5, [.inr (some c_writing_signs_a), .inl c_writing_count]))), (c_writing_signs_a, .inl (false, 71, c_writing_signs))] (True) (fun z u => ∃ (c_netStands' : Int) (c_rankingStands' : Int), u = [(c_a, .inr (.inr (6, [.inr (some c_pad_a), .inr (some c_book_a), .inr (some c_images_a), .inr (some c_net_a), .inr (some c_ranking_a), .inr (some c_writing_a), .inl c_netStands', .inl c_rankingStands']))), (c_pad_a, .inr (.inr (3, [.inr (some c_pad_signs_a), .inl c_pad_count, .inl c_pad_letters, .inl c_pad_kind, .inl c_pad_cost]))), (c_pad_signs_a, .inl (false, 40, c_pad_signs)), (c_book_a, .inr (.inr (0, [.inr (some c_book_dictionary_a), .inr (some c_book_joins_a), .inr (some c_book_rules_a), .inr (some c_book_line_a), .inl c_book_lineLength]))), (c_book_dictionary_a, .inr (.inr (1, [.inr (some c_book_dictionary_letters_a), .inr (some c_book_dictionary_lengths_a), .inr (some c_book_dictionary_kinds_a), .inr (some c_book_dictionary_costs_a), .inl c_book_dictionary_count]))), (c_book_dictionary_letters_a, .inl (false, 96, c_book_dictionary_letters)), (c_book_dictionary_lengths_a, .inl (false, 16, c_book_dictionary_lengths)), (c_book_dictionary_kinds_a, .inl (false, 16, c_book_dictionary_kinds)), (c_book_dictionary_costs_a, .inl (false, 16, c_book_dictionary_costs)), (c_book_joins_a, .inl (false, 25, c_book_joins)), (c_book_rules_a, .inl (false, 4, c_book_rules)), (c_book_line_a, .inl (false, 24, c_book_line)), (c_images_a, .inr (.inl (2, c_images))), (c_net_a, .inr (.inr (2, [.inl c_net_lineLength, .inl c_net_count, .inr (some c_net_places_a), .inr (some c_net_lengths_a), .inr (some c_net_kinds_a), .inr (some c_net_costs_a), .inr (some c_net_words_a), .inr (some c_net_firsts_a), .inr (some c_net_joins_a), .inr (some c_net_slots_a), .inr (some c_net_routes_a)]))), (c_net_places_a, .inl (false, 480, c_net_places)), (c_net_lengths_a, .inl (false, 480, c_net_lengths)), (c_net_kinds_a, .inl (false, 480, c_net_kinds)), (c_net_costs_a, .inl (false, 480, c_net_costs)), (c_net_words_a, .inl (false, 480, c_net_words)), (c_net_firsts_a, .inl (false, 25, c_net_firsts)), (c_net_joins_a, .inl (false, 25, c_net_joins)), (c_net_slots_a, .inl (false, 28, c_net_slots)), (c_net_routes_a, .inl (false, 25, c_net_routes)), (c_ranking_a, .inr (.inr (4, [.inr (some c_ranking_before_a), .inr (some c_ranking_counts_a), .inr (some c_ranking_kept_a), .inr (some c_ranking_followed_a)]))), (c_ranking_before_a, .inl (false, 125, c_ranking_before)), (c_ranking_counts_a, .inl (false, 125, c_ranking_counts)), (c_ranking_kept_a, .inl (false, 1500, c_ranking_kept)), (c_ranking_followed_a, .inl (false, 24, c_ranking_followed)), (c_writing_a, .inr (.inr (5, [.inr (some c_writing_signs_a), .inl c_writing_count]))), (c_writing_signs_a, .inl (false, 71, c_writing_signs))] ∧ (c_netStands' = 0 ∧ c_rankingStands' = 0)) := by
  refine zMv.of RX6 hE (by decide) rfl (by simp) ?_
  intro Z hP hav hwr B
  obtain ⟨l_c_netStands, u_c_netStands⟩ : zR c_netStands := zWr_at hwr (i := 0) rfl (.inl c_netStands) (by simp)
  obtain ⟨l_c_rankingStands, u_c_rankingStands⟩ : zR c_rankingStands := zWr_at hwr (i := 0) rfl (.inl c_rankingStands) (by simp)
  obtain ⟨l_c_pad_count, u_c_pad_count⟩ : zR c_pad_count := zWr_at hwr (i := 1) rfl (.inl c_pad_count) (by simp)
  obtain ⟨l_c_pad_letters, u_c_pad_letters⟩ : zR c_pad_letters := zWr_at hwr (i := 1) rfl (.inl c_pad_letters) (by simp)
  obtain ⟨l_c_pad_kind, u_c_pad_kind⟩ : zR c_pad_kind := zWr_at hwr (i := 1) rfl (.inl c_pad_kind) (by simp)
  obtain ⟨l_c_pad_cost, u_c_pad_cost⟩ : zR c_pad_cost := zWr_at hwr (i := 1) rfl (.inl c_pad_cost) (by simp)
  obtain ⟨l_c_book_lineLength, u_c_book_lineLength⟩ : zR c_book_lineLength := zWr_at hwr (i := 3) rfl (.inl c_book_lineLength) (by simp)
  obtain ⟨l_c_book_dictionary_count, u_c_book_dictionary_count⟩ : zR c_book_dictionary_count := zWr_at hwr (i := 4) rfl (.inl c_book_dictionary_count) (by simp)
  obtain ⟨l_c_net_lineLength, u_c_net_lineLength⟩ : zR c_net_lineLength := zWr_at hwr (i := 13) rfl (.inl c_net_lineLength) (by simp)
  obtain ⟨l_c_net_count, u_c_net_count⟩ : zR c_net_count := zWr_at hwr (i := 13) rfl (.inl c_net_count) (by simp)
  obtain ⟨l_c_writing_count, u_c_writing_count⟩ : zR c_writing_count := zWr_at hwr (i := 28) rfl (.inl c_writing_count) (by simp)
  show Z 0 0 0 [some (.inr (some c_a))] [] _
  refine B.aload_n (pc := 0) (i := 0) dX6_somethingChanged_0 rfl rfl ?_
  refine B.iconst (pc := 1) dX6_somethingChanged_1 ⟨by decide, by decide⟩ ?_
  refine B.putfield (pc := 2) 0 rfl rfl inX6z tyX6 tyX6_ok nmX6 6 (by decide) fl_X6_176 rfl (by decide) (by decide) (Nat.le_of_ble_eq_true rfl) dX6_somethingChanged_2 ?_
  simp only [List.set_cons_zero, List.set_cons_succ]
  refine B.aload_n (pc := 5) (i := 0) dX6_somethingChanged_5 rfl rfl ?_
  refine B.iconst (pc := 6) dX6_somethingChanged_6 ⟨by decide, by decide⟩ ?_
  refine B.putfield (pc := 7) 0 rfl rfl inX6z tyX6 tyX6_ok nmX6 7 (by decide) fl_X6_180 rfl (by decide) (by decide) (Nat.le_of_ble_eq_true rfl) dX6_somethingChanged_7 ?_
  simp only [List.set_cons_zero, List.set_cons_succ]
  refine B.vreturn (pc := 10) rfl dX6_somethingChanged_10 (Nat.le_refl _) (Nat.le_refl _) (fun rw => ⟨_, _, rfl, ?_⟩)
  exact ⟨rfl, rfl⟩
set_option maxHeartbeats 4000000 in
set_option maxRecDepth 100000 in
theorem mX6_say {l : Launch} {D : va_G} {k : zK} {E : zE} (hE : zEok E) (c_a c_pad_a c_pad_signs_a c_book_a c_book_dictionary_a c_book_dictionary_letters_a c_book_dictionary_lengths_a c_book_dictionary_kinds_a c_book_dictionary_costs_a c_book_joins_a c_book_rules_a c_book_line_a c_images_a c_net_a c_net_places_a c_net_lengths_a c_net_kinds_a c_net_costs_a c_net_words_a c_net_firsts_a c_net_joins_a c_net_slots_a c_net_routes_a c_ranking_a c_ranking_before_a c_ranking_counts_a c_ranking_kept_a c_ranking_followed_a c_writing_a c_writing_signs_a : Nat) (c_pad_count c_pad_letters c_pad_kind c_pad_cost c_book_dictionary_count c_book_lineLength c_net_lineLength c_net_count c_writing_count c_netStands c_rankingStands sg : Int) (c_pad_signs c_book_dictionary_letters c_book_dictionary_lengths c_book_dictionary_kinds c_book_dictionary_costs c_book_joins c_book_rules c_book_line c_net_places c_net_lengths c_net_kinds c_net_costs c_net_words c_net_firsts c_net_joins c_net_slots c_net_routes c_ranking_before c_ranking_counts c_ranking_kept c_ranking_followed c_writing_signs : Nat → Int) (c_images : Nat → Option Nat) : zMi l D k E yX6_say cX6_say 2 .int { frames := 1, cells := 0, slots := 0, locals := 21 } 0 0 [.inr (some c_a), .inl sg] [(c_a, .inr (.inr (6, [.inr (some c_pad_a), .inr (some c_book_a), .inr (some c_images_a), .inr (some c_net_a), .inr (some c_ranking_a), .inr (some c_writing_a), .inl c_netStands, .inl c_rankingStands]))), (c_pad_a, .inr (.inr (3, [.inr (some c_pad_signs_a), .inl c_pad_count, .inl c_pad_letters, .inl c_pad_kind, .inl c_pad_cost]))), (c_pad_signs_a, .inl (false, 40, c_pad_signs)), (c_book_a, .inr (.inr (0, [.inr (some c_book_dictionary_a), .inr (some c_book_joins_a), .inr (some c_book_rules_a), .inr (some c_book_line_a), .inl c_book_lineLength]))), (c_book_dictionary_a, .inr (.inr (1, [.inr (some c_book_dictionary_letters_a), .inr (some c_book_dictionary_lengths_a), .inr (some c_book_dictionary_kinds_a), .inr (some c_book_dictionary_costs_a), .inl c_book_dictionary_count]))), (c_book_dictionary_letters_a, .inl (false, 96, c_book_dictionary_letters)), (c_book_dictionary_lengths_a, .inl (false, 16, c_book_dictionary_lengths)), (c_book_dictionary_kinds_a, .inl (false, 16, c_book_dictionary_kinds)), (c_book_dictionary_costs_a, .inl (false, 16, c_book_dictionary_costs)), (c_book_joins_a, .inl (false, 25, c_book_joins)), (c_book_rules_a, .inl (false, 4, c_book_rules)), (c_book_line_a, .inl (false, 24, c_book_line)), (c_images_a, .inr (.inl (2, c_images))), (c_net_a, .inr (.inr (2, [.inl c_net_lineLength, .inl c_net_count, .inr (some c_net_places_a), .inr (some c_net_lengths_a), .inr (some c_net_kinds_a), .inr (some c_net_costs_a), .inr (some c_net_words_a), .inr (some c_net_firsts_a), .inr (some c_net_joins_a), .inr (some c_net_slots_a), .inr (some c_net_routes_a)]))), (c_net_places_a, .inl (false, 480, c_net_places)), (c_net_lengths_a, .inl (false, 480, c_net_lengths)), (c_net_kinds_a, .inl (false, 480, c_net_kinds)), (c_net_costs_a, .inl (false, 480, c_net_costs)), (c_net_words_a, .inl (false, 480, c_net_words)), (c_net_firsts_a, .inl (false, 25, c_net_firsts)), (c_net_joins_a, .inl (false, 25, c_net_joins)), (c_net_slots_a, .inl (false, 28, c_net_slots)), (c_net_routes_a, .inl (false, 25, c_net_routes)), (c_ranking_a, .inr (.inr (4, [.inr (some c_ranking_before_a), .inr (some c_ranking_counts_a), .inr (some c_ranking_kept_a), .inr (some c_ranking_followed_a)]))), (c_ranking_before_a, .inl (false, 125, c_ranking_before)), (c_ranking_counts_a, .inl (false, 125, c_ranking_counts)), (c_ranking_kept_a, .inl (false, 1500, c_ranking_kept)), (c_ranking_followed_a, .inl (false, 24, c_ranking_followed)), (c_writing_a, .inr (.inr (5, [.inr (some c_writing_signs_a), .inl c_writing_count]))), (c_writing_signs_a, .inl (false, 71, c_writing_signs))] (CI c_pad_count c_book_dictionary_count c_book_dictionary_lengths c_book_dictionary_kinds c_book_dictionary_costs c_book_joins c_book_rules c_book_lineLength c_net_lineLength c_net_count c_net_places c_net_lengths c_net_kinds c_net_costs c_net_firsts c_net_joins c_ranking_counts c_ranking_kept c_ranking_followed c_writing_count c_netStands) (fun z u => ∃ (c_pad_count' : Int) (c_pad_signs' : Nat → Int), u = [(c_a, .inr (.inr (6, [.inr (some c_pad_a), .inr (some c_book_a), .inr (some c_images_a), .inr (some c_net_a), .inr (some c_ranking_a), .inr (some c_writing_a), .inl c_netStands, .inl c_rankingStands]))), (c_pad_a, .inr (.inr (3, [.inr (some c_pad_signs_a), .inl c_pad_count', .inl c_pad_letters, .inl c_pad_kind, .inl c_pad_cost]))), (c_pad_signs_a, .inl (false, 40, c_pad_signs')), (c_book_a, .inr (.inr (0, [.inr (some c_book_dictionary_a), .inr (some c_book_joins_a), .inr (some c_book_rules_a), .inr (some c_book_line_a), .inl c_book_lineLength]))), (c_book_dictionary_a, .inr (.inr (1, [.inr (some c_book_dictionary_letters_a), .inr (some c_book_dictionary_lengths_a), .inr (some c_book_dictionary_kinds_a), .inr (some c_book_dictionary_costs_a), .inl c_book_dictionary_count]))), (c_book_dictionary_letters_a, .inl (false, 96, c_book_dictionary_letters)), (c_book_dictionary_lengths_a, .inl (false, 16, c_book_dictionary_lengths)), (c_book_dictionary_kinds_a, .inl (false, 16, c_book_dictionary_kinds)), (c_book_dictionary_costs_a, .inl (false, 16, c_book_dictionary_costs)), (c_book_joins_a, .inl (false, 25, c_book_joins)), (c_book_rules_a, .inl (false, 4, c_book_rules)), (c_book_line_a, .inl (false, 24, c_book_line)), (c_images_a, .inr (.inl (2, c_images))), (c_net_a, .inr (.inr (2, [.inl c_net_lineLength, .inl c_net_count, .inr (some c_net_places_a), .inr (some c_net_lengths_a), .inr (some c_net_kinds_a), .inr (some c_net_costs_a), .inr (some c_net_words_a), .inr (some c_net_firsts_a), .inr (some c_net_joins_a), .inr (some c_net_slots_a), .inr (some c_net_routes_a)]))), (c_net_places_a, .inl (false, 480, c_net_places)), (c_net_lengths_a, .inl (false, 480, c_net_lengths)), (c_net_kinds_a, .inl (false, 480, c_net_kinds)), (c_net_costs_a, .inl (false, 480, c_net_costs)), (c_net_words_a, .inl (false, 480, c_net_words)), (c_net_firsts_a, .inl (false, 25, c_net_firsts)), (c_net_joins_a, .inl (false, 25, c_net_joins)), (c_net_slots_a, .inl (false, 28, c_net_slots)), (c_net_routes_a, .inl (false, 25, c_net_routes)), (c_ranking_a, .inr (.inr (4, [.inr (some c_ranking_before_a), .inr (some c_ranking_counts_a), .inr (some c_ranking_kept_a), .inr (some c_ranking_followed_a)]))), (c_ranking_before_a, .inl (false, 125, c_ranking_before)), (c_ranking_counts_a, .inl (false, 125, c_ranking_counts)), (c_ranking_kept_a, .inl (false, 1500, c_ranking_kept)), (c_ranking_followed_a, .inl (false, 24, c_ranking_followed)), (c_writing_a, .inr (.inr (5, [.inr (some c_writing_signs_a), .inl c_writing_count]))), (c_writing_signs_a, .inl (false, 71, c_writing_signs))] ∧ (CI c_pad_count' c_book_dictionary_count c_book_dictionary_lengths c_book_dictionary_kinds c_book_dictionary_costs c_book_joins c_book_rules c_book_lineLength c_net_lineLength c_net_count c_net_places c_net_lengths c_net_kinds c_net_costs c_net_firsts c_net_joins c_ranking_counts c_ranking_kept c_ranking_followed c_writing_count c_netStands ∧ zSS sg z c_pad_count c_pad_signs c_pad_count' c_pad_signs')) := by
  refine zMi.of RX6 hE (by decide) rfl (by simp) (fun _ _ _ _ => rfl) ?_
  intro Z hP hav hwr B
  obtain ⟨l_sg, u_sg⟩ : zR sg := hav (.inl sg) (by simp)
  obtain ⟨l_c_netStands, u_c_netStands⟩ : zR c_netStands := zWr_at hwr (i := 0) rfl (.inl c_netStands) (by simp)
  obtain ⟨l_c_rankingStands, u_c_rankingStands⟩ : zR c_rankingStands := zWr_at hwr (i := 0) rfl (.inl c_rankingStands) (by simp)
  obtain ⟨l_c_pad_count, u_c_pad_count⟩ : zR c_pad_count := zWr_at hwr (i := 1) rfl (.inl c_pad_count) (by simp)
  obtain ⟨l_c_pad_letters, u_c_pad_letters⟩ : zR c_pad_letters := zWr_at hwr (i := 1) rfl (.inl c_pad_letters) (by simp)
  obtain ⟨l_c_pad_kind, u_c_pad_kind⟩ : zR c_pad_kind := zWr_at hwr (i := 1) rfl (.inl c_pad_kind) (by simp)
  obtain ⟨l_c_pad_cost, u_c_pad_cost⟩ : zR c_pad_cost := zWr_at hwr (i := 1) rfl (.inl c_pad_cost) (by simp)
  obtain ⟨l_c_book_lineLength, u_c_book_lineLength⟩ : zR c_book_lineLength := zWr_at hwr (i := 3) rfl (.inl c_book_lineLength) (by simp)
  obtain ⟨l_c_book_dictionary_count, u_c_book_dictionary_count⟩ : zR c_book_dictionary_count := zWr_at hwr (i := 4) rfl (.inl c_book_dictionary_count) (by simp)
  obtain ⟨l_c_net_lineLength, u_c_net_lineLength⟩ : zR c_net_lineLength := zWr_at hwr (i := 13) rfl (.inl c_net_lineLength) (by simp)
  obtain ⟨l_c_net_count, u_c_net_count⟩ : zR c_net_count := zWr_at hwr (i := 13) rfl (.inl c_net_count) (by simp)
  obtain ⟨l_c_writing_count, u_c_writing_count⟩ : zR c_writing_count := zWr_at hwr (i := 28) rfl (.inl c_writing_count) (by simp)
  obtain ⟨h1, h2, h3, h4, h5, h6, h7⟩ := id hP
  obtain ⟨h3a, h3b⟩ := id h3
  obtain ⟨h2a, h2b, h2c⟩ := id h2
  obtain ⟨h4a, h4b, h4c, h4d, h4e, h4f, h4g⟩ := id h4
  obtain ⟨h5a, h5b, h5c⟩ := id h5
  show Z 0 0 0 [some (.inr (some c_a)), some (.inl sg)] [] _
  refine B.iload_n (pc := 0) (i := 1) dX6_say_0 rfl rfl ?_
  refine B.bipush (pc := 1) dX6_say_1 ⟨by decide, by decide⟩ ?_
  refine B.icmp_lt (pc := 3) (tgt := 12) dX6_say_3 (by decide) (fun c3 => ?_) (fun c3 => ?_)
  · refine B.bipush (pc := 12) dX6_say_12 ⟨by decide, by decide⟩ ?_
    refine B.ireturn (pc := 14) (by simp) dX6_say_14 (Nat.le_refl _) (Nat.le_refl _) (fun rz rw => ⟨_, _, rfl, ?_⟩)
    exact ⟨hP, Or.inl ⟨by omega, rfl, rfl, rfl⟩⟩
  · refine B.iload_n (pc := 6) (i := 1) dX6_say_6 rfl rfl ?_
    refine B.bipush (pc := 7) dX6_say_7 ⟨by decide, by decide⟩ ?_
    refine B.icmp_le (pc := 9) (tgt := 15) dX6_say_9 (by decide) (fun c9 => ?_) (fun c9 => ?_)
    · refine B.aload_n (pc := 15) (i := 0) dX6_say_15 rfl rfl ?_
      refine B.getfield (pc := 16) 0 rfl rfl inX6z 0 (by decide) fl_X6_10 rfl dX6_say_16 ?_
      refine B.iload_n (pc := 19) (i := 1) dX6_say_19 rfl rfl ?_
      refine B.callVi (pc := 20) 1 (mX3_add hE _ _ _ _ _ _ _ _) 1 rfl rfl ml_X6_48 im_X3_add se_X3_add it_X3 co_X3_add (by decide +kernel) rfl rfl rfl ⟨by decide, by decide⟩ ⟨by decide, by decide⟩ [1, 2] rfl rfl rfl (Nat.le_of_ble_eq_true rfl) dX6_say_20 (fun _ => by omega) (fun zk20 uk20 rzk20 ruk20 rak20 hqk20 => ?_)
      obtain ⟨lzk20, uzk20⟩ := rzk20
      obtain ⟨p_count_k20, p_signs_k20, rfl, hk20⟩ := hqk20
      simp only [zput, List.set_cons_zero, List.set_cons_succ, List.append_nil, Nat.add_zero]
      refine B.if_eq (pc := 23) (tgt := 36) dX6_say_23 (by decide) (fun c23 => ?_) (fun c23 => ?_)
      · refine B.bipush (pc := 36) dX6_say_36 ⟨by decide, by decide⟩ ?_
        refine B.ireturn (pc := 38) (by simp) dX6_say_38 (Nat.le_refl _) (Nat.le_refl _) (fun rz rw => ⟨_, _, rfl, ?_⟩)
        by_cases e40 : c_pad_count = 40
        · obtain ⟨a1, a2, a3⟩ := hk20.2.1 e40
          first
            | (exfalso; omega)
            | exact ⟨⟨by omega, h2, h3, h4, h5, h6, h7⟩, Or.inr (Or.inl ⟨by omega, by omega, e40, rfl, a2, a3⟩)⟩
        · obtain ⟨a1, a2, a3⟩ := hk20.2.2 e40
          first
            | (exfalso; omega)
            | exact ⟨⟨by omega, h2, h3, h4, h5, h6, h7⟩, Or.inr (Or.inr ⟨by omega, by omega, e40, a2, a2, a3⟩)⟩
      · refine B.aload_n (pc := 26) (i := 0) dX6_say_26 rfl rfl ?_
        refine B.getfield (pc := 27) 0 rfl rfl inX6z 0 (by decide) fl_X6_10 rfl dX6_say_27 ?_
        refine B.getfield (pc := 30) 1 rfl rfl inX3z 1 (by decide) fl_X6_52 rfl dX6_say_30 ?_
        refine B.goto (pc := 33) (tgt := 38) dX6_say_33 (by decide) ?_
        refine B.ireturn (pc := 38) (by simp) dX6_say_38 (Nat.le_refl _) (Nat.le_refl _) (fun rz rw => ⟨_, _, rfl, ?_⟩)
        by_cases e40 : c_pad_count = 40
        · obtain ⟨a1, a2, a3⟩ := hk20.2.1 e40
          first
            | (exfalso; omega)
            | exact ⟨⟨by omega, h2, h3, h4, h5, h6, h7⟩, Or.inr (Or.inl ⟨by omega, by omega, e40, rfl, a2, a3⟩)⟩
        · obtain ⟨a1, a2, a3⟩ := hk20.2.2 e40
          first
            | (exfalso; omega)
            | exact ⟨⟨by omega, h2, h3, h4, h5, h6, h7⟩, Or.inr (Or.inr ⟨by omega, by omega, e40, a2, a2, a3⟩)⟩
    · refine B.bipush (pc := 12) dX6_say_12 ⟨by decide, by decide⟩ ?_
      refine B.ireturn (pc := 14) (by simp) dX6_say_14 (Nat.le_refl _) (Nat.le_refl _) (fun rz rw => ⟨_, _, rfl, ?_⟩)
      exact ⟨hP, Or.inl ⟨by omega, rfl, rfl, rfl⟩⟩
set_option maxHeartbeats 4000000 in
set_option maxRecDepth 100000 in
theorem mX6_wipe {l : Launch} {D : va_G} {k : zK} {E : zE} (hE : zEok E) (c_a c_pad_a c_pad_signs_a c_book_a c_book_dictionary_a c_book_dictionary_letters_a c_book_dictionary_lengths_a c_book_dictionary_kinds_a c_book_dictionary_costs_a c_book_joins_a c_book_rules_a c_book_line_a c_images_a c_net_a c_net_places_a c_net_lengths_a c_net_kinds_a c_net_costs_a c_net_words_a c_net_firsts_a c_net_joins_a c_net_slots_a c_net_routes_a c_ranking_a c_ranking_before_a c_ranking_counts_a c_ranking_kept_a c_ranking_followed_a c_writing_a c_writing_signs_a : Nat) (c_pad_count c_pad_letters c_pad_kind c_pad_cost c_book_dictionary_count c_book_lineLength c_net_lineLength c_net_count c_writing_count c_netStands c_rankingStands : Int) (c_pad_signs c_book_dictionary_letters c_book_dictionary_lengths c_book_dictionary_kinds c_book_dictionary_costs c_book_joins c_book_rules c_book_line c_net_places c_net_lengths c_net_kinds c_net_costs c_net_words c_net_firsts c_net_joins c_net_slots c_net_routes c_ranking_before c_ranking_counts c_ranking_kept c_ranking_followed c_writing_signs : Nat → Int) (c_images : Nat → Option Nat) : zMi l D k E yX6_wipe cX6_wipe 2 .int { frames := 1, cells := 0, slots := 0, locals := 20 } 0 0 [.inr (some c_a)] [(c_a, .inr (.inr (6, [.inr (some c_pad_a), .inr (some c_book_a), .inr (some c_images_a), .inr (some c_net_a), .inr (some c_ranking_a), .inr (some c_writing_a), .inl c_netStands, .inl c_rankingStands]))), (c_pad_a, .inr (.inr (3, [.inr (some c_pad_signs_a), .inl c_pad_count, .inl c_pad_letters, .inl c_pad_kind, .inl c_pad_cost]))), (c_pad_signs_a, .inl (false, 40, c_pad_signs)), (c_book_a, .inr (.inr (0, [.inr (some c_book_dictionary_a), .inr (some c_book_joins_a), .inr (some c_book_rules_a), .inr (some c_book_line_a), .inl c_book_lineLength]))), (c_book_dictionary_a, .inr (.inr (1, [.inr (some c_book_dictionary_letters_a), .inr (some c_book_dictionary_lengths_a), .inr (some c_book_dictionary_kinds_a), .inr (some c_book_dictionary_costs_a), .inl c_book_dictionary_count]))), (c_book_dictionary_letters_a, .inl (false, 96, c_book_dictionary_letters)), (c_book_dictionary_lengths_a, .inl (false, 16, c_book_dictionary_lengths)), (c_book_dictionary_kinds_a, .inl (false, 16, c_book_dictionary_kinds)), (c_book_dictionary_costs_a, .inl (false, 16, c_book_dictionary_costs)), (c_book_joins_a, .inl (false, 25, c_book_joins)), (c_book_rules_a, .inl (false, 4, c_book_rules)), (c_book_line_a, .inl (false, 24, c_book_line)), (c_images_a, .inr (.inl (2, c_images))), (c_net_a, .inr (.inr (2, [.inl c_net_lineLength, .inl c_net_count, .inr (some c_net_places_a), .inr (some c_net_lengths_a), .inr (some c_net_kinds_a), .inr (some c_net_costs_a), .inr (some c_net_words_a), .inr (some c_net_firsts_a), .inr (some c_net_joins_a), .inr (some c_net_slots_a), .inr (some c_net_routes_a)]))), (c_net_places_a, .inl (false, 480, c_net_places)), (c_net_lengths_a, .inl (false, 480, c_net_lengths)), (c_net_kinds_a, .inl (false, 480, c_net_kinds)), (c_net_costs_a, .inl (false, 480, c_net_costs)), (c_net_words_a, .inl (false, 480, c_net_words)), (c_net_firsts_a, .inl (false, 25, c_net_firsts)), (c_net_joins_a, .inl (false, 25, c_net_joins)), (c_net_slots_a, .inl (false, 28, c_net_slots)), (c_net_routes_a, .inl (false, 25, c_net_routes)), (c_ranking_a, .inr (.inr (4, [.inr (some c_ranking_before_a), .inr (some c_ranking_counts_a), .inr (some c_ranking_kept_a), .inr (some c_ranking_followed_a)]))), (c_ranking_before_a, .inl (false, 125, c_ranking_before)), (c_ranking_counts_a, .inl (false, 125, c_ranking_counts)), (c_ranking_kept_a, .inl (false, 1500, c_ranking_kept)), (c_ranking_followed_a, .inl (false, 24, c_ranking_followed)), (c_writing_a, .inr (.inr (5, [.inr (some c_writing_signs_a), .inl c_writing_count]))), (c_writing_signs_a, .inl (false, 71, c_writing_signs))] (CI c_pad_count c_book_dictionary_count c_book_dictionary_lengths c_book_dictionary_kinds c_book_dictionary_costs c_book_joins c_book_rules c_book_lineLength c_net_lineLength c_net_count c_net_places c_net_lengths c_net_kinds c_net_costs c_net_firsts c_net_joins c_ranking_counts c_ranking_kept c_ranking_followed c_writing_count c_netStands) (fun z u => ∃ (c_pad_count' : Int), u = [(c_a, .inr (.inr (6, [.inr (some c_pad_a), .inr (some c_book_a), .inr (some c_images_a), .inr (some c_net_a), .inr (some c_ranking_a), .inr (some c_writing_a), .inl c_netStands, .inl c_rankingStands]))), (c_pad_a, .inr (.inr (3, [.inr (some c_pad_signs_a), .inl c_pad_count', .inl c_pad_letters, .inl c_pad_kind, .inl c_pad_cost]))), (c_pad_signs_a, .inl (false, 40, c_pad_signs)), (c_book_a, .inr (.inr (0, [.inr (some c_book_dictionary_a), .inr (some c_book_joins_a), .inr (some c_book_rules_a), .inr (some c_book_line_a), .inl c_book_lineLength]))), (c_book_dictionary_a, .inr (.inr (1, [.inr (some c_book_dictionary_letters_a), .inr (some c_book_dictionary_lengths_a), .inr (some c_book_dictionary_kinds_a), .inr (some c_book_dictionary_costs_a), .inl c_book_dictionary_count]))), (c_book_dictionary_letters_a, .inl (false, 96, c_book_dictionary_letters)), (c_book_dictionary_lengths_a, .inl (false, 16, c_book_dictionary_lengths)), (c_book_dictionary_kinds_a, .inl (false, 16, c_book_dictionary_kinds)), (c_book_dictionary_costs_a, .inl (false, 16, c_book_dictionary_costs)), (c_book_joins_a, .inl (false, 25, c_book_joins)), (c_book_rules_a, .inl (false, 4, c_book_rules)), (c_book_line_a, .inl (false, 24, c_book_line)), (c_images_a, .inr (.inl (2, c_images))), (c_net_a, .inr (.inr (2, [.inl c_net_lineLength, .inl c_net_count, .inr (some c_net_places_a), .inr (some c_net_lengths_a), .inr (some c_net_kinds_a), .inr (some c_net_costs_a), .inr (some c_net_words_a), .inr (some c_net_firsts_a), .inr (some c_net_joins_a), .inr (some c_net_slots_a), .inr (some c_net_routes_a)]))), (c_net_places_a, .inl (false, 480, c_net_places)), (c_net_lengths_a, .inl (false, 480, c_net_lengths)), (c_net_kinds_a, .inl (false, 480, c_net_kinds)), (c_net_costs_a, .inl (false, 480, c_net_costs)), (c_net_words_a, .inl (false, 480, c_net_words)), (c_net_firsts_a, .inl (false, 25, c_net_firsts)), (c_net_joins_a, .inl (false, 25, c_net_joins)), (c_net_slots_a, .inl (false, 28, c_net_slots)), (c_net_routes_a, .inl (false, 25, c_net_routes)), (c_ranking_a, .inr (.inr (4, [.inr (some c_ranking_before_a), .inr (some c_ranking_counts_a), .inr (some c_ranking_kept_a), .inr (some c_ranking_followed_a)]))), (c_ranking_before_a, .inl (false, 125, c_ranking_before)), (c_ranking_counts_a, .inl (false, 125, c_ranking_counts)), (c_ranking_kept_a, .inl (false, 1500, c_ranking_kept)), (c_ranking_followed_a, .inl (false, 24, c_ranking_followed)), (c_writing_a, .inr (.inr (5, [.inr (some c_writing_signs_a), .inl c_writing_count]))), (c_writing_signs_a, .inl (false, 71, c_writing_signs))] ∧ (CI c_pad_count' c_book_dictionary_count c_book_dictionary_lengths c_book_dictionary_kinds c_book_dictionary_costs c_book_joins c_book_rules c_book_lineLength c_net_lineLength c_net_count c_net_places c_net_lengths c_net_kinds c_net_costs c_net_firsts c_net_joins c_ranking_counts c_ranking_kept c_ranking_followed c_writing_count c_netStands ∧ zWP c_pad_count z c_pad_count')) := by
  refine zMi.of RX6 hE (by decide) rfl (by simp) (fun _ _ _ _ => rfl) ?_
  intro Z hP hav hwr B
  obtain ⟨l_c_netStands, u_c_netStands⟩ : zR c_netStands := zWr_at hwr (i := 0) rfl (.inl c_netStands) (by simp)
  obtain ⟨l_c_rankingStands, u_c_rankingStands⟩ : zR c_rankingStands := zWr_at hwr (i := 0) rfl (.inl c_rankingStands) (by simp)
  obtain ⟨l_c_pad_count, u_c_pad_count⟩ : zR c_pad_count := zWr_at hwr (i := 1) rfl (.inl c_pad_count) (by simp)
  obtain ⟨l_c_pad_letters, u_c_pad_letters⟩ : zR c_pad_letters := zWr_at hwr (i := 1) rfl (.inl c_pad_letters) (by simp)
  obtain ⟨l_c_pad_kind, u_c_pad_kind⟩ : zR c_pad_kind := zWr_at hwr (i := 1) rfl (.inl c_pad_kind) (by simp)
  obtain ⟨l_c_pad_cost, u_c_pad_cost⟩ : zR c_pad_cost := zWr_at hwr (i := 1) rfl (.inl c_pad_cost) (by simp)
  obtain ⟨l_c_book_lineLength, u_c_book_lineLength⟩ : zR c_book_lineLength := zWr_at hwr (i := 3) rfl (.inl c_book_lineLength) (by simp)
  obtain ⟨l_c_book_dictionary_count, u_c_book_dictionary_count⟩ : zR c_book_dictionary_count := zWr_at hwr (i := 4) rfl (.inl c_book_dictionary_count) (by simp)
  obtain ⟨l_c_net_lineLength, u_c_net_lineLength⟩ : zR c_net_lineLength := zWr_at hwr (i := 13) rfl (.inl c_net_lineLength) (by simp)
  obtain ⟨l_c_net_count, u_c_net_count⟩ : zR c_net_count := zWr_at hwr (i := 13) rfl (.inl c_net_count) (by simp)
  obtain ⟨l_c_writing_count, u_c_writing_count⟩ : zR c_writing_count := zWr_at hwr (i := 28) rfl (.inl c_writing_count) (by simp)
  obtain ⟨h1, h2, h3, h4, h5, h6, h7⟩ := id hP
  obtain ⟨h3a, h3b⟩ := id h3
  obtain ⟨h2a, h2b, h2c⟩ := id h2
  obtain ⟨h4a, h4b, h4c, h4d, h4e, h4f, h4g⟩ := id h4
  obtain ⟨h5a, h5b, h5c⟩ := id h5
  show Z 0 0 0 [some (.inr (some c_a)), none] [] _
  refine B.aload_n (pc := 0) (i := 0) dX6_wipe_0 rfl rfl ?_
  refine B.getfield (pc := 1) 0 rfl rfl inX6z 0 (by decide) fl_X6_10 rfl dX6_wipe_1 ?_
  refine B.getfield (pc := 4) 1 rfl rfl inX3z 1 (by decide) fl_X6_52 rfl dX6_wipe_4 ?_
  refine B.istore_n (pc := 7) (i := 1) dX6_wipe_7 rfl (by decide) ?_
  simp only [List.set_cons_zero, List.set_cons_succ]
  refine B.aload_n (pc := 8) (i := 0) dX6_wipe_8 rfl rfl ?_
  refine B.getfield (pc := 9) 0 rfl rfl inX6z 0 (by decide) fl_X6_10 rfl dX6_wipe_9 ?_
  refine B.callVv (pc := 12) 0 (mX3_clear hE _ _ _ _ _ _ _) 1 rfl rfl ml_X6_56 im_X3_clear se_X3_clear it_X3 co_X3_clear (by decide +kernel) rfl rfl rfl ⟨by decide, by decide⟩ ⟨by decide, by decide⟩ [1, 2] rfl rfl rfl (Nat.le_of_ble_eq_true rfl) dX6_wipe_12 (fun _ => trivial) (fun uk12 ruk12 rak12 hqk12 => ?_)
  obtain ⟨p_count_k12, rfl, hk12⟩ := hqk12
  simp only [zput, List.set_cons_zero, List.set_cons_succ, List.append_nil, Nat.add_zero]
  refine B.iload_n (pc := 15) (i := 1) dX6_wipe_15 rfl rfl ?_
  refine B.ireturn (pc := 16) (by simp) dX6_wipe_16 (Nat.le_refl _) (Nat.le_refl _) (fun rz rw => ⟨_, rfl, ?_⟩)
  exact ⟨⟨by omega, h2, h3, h4, h5, h6, h7⟩, rfl, hk12⟩
set_option maxHeartbeats 4000000 in
set_option maxRecDepth 100000 in
theorem mX6_forget {l : Launch} {D : va_G} {k : zK} {E : zE} (hE : zEok E) (c_a c_pad_a c_pad_signs_a c_book_a c_book_dictionary_a c_book_dictionary_letters_a c_book_dictionary_lengths_a c_book_dictionary_kinds_a c_book_dictionary_costs_a c_book_joins_a c_book_rules_a c_book_line_a c_images_a c_net_a c_net_places_a c_net_lengths_a c_net_kinds_a c_net_costs_a c_net_words_a c_net_firsts_a c_net_joins_a c_net_slots_a c_net_routes_a c_ranking_a c_ranking_before_a c_ranking_counts_a c_ranking_kept_a c_ranking_followed_a c_writing_a c_writing_signs_a : Nat) (c_pad_count c_pad_letters c_pad_kind c_pad_cost c_book_dictionary_count c_book_lineLength c_net_lineLength c_net_count c_writing_count c_netStands c_rankingStands word : Int) (c_pad_signs c_book_dictionary_letters c_book_dictionary_lengths c_book_dictionary_kinds c_book_dictionary_costs c_book_joins c_book_rules c_book_line c_net_places c_net_lengths c_net_kinds c_net_costs c_net_words c_net_firsts c_net_joins c_net_slots c_net_routes c_ranking_before c_ranking_counts c_ranking_kept c_ranking_followed c_writing_signs : Nat → Int) (c_images : Nat → Option Nat) : zMi l D k E yX6_forget cX6_forget 2 .int { frames := 2, cells := 0, slots := 0, locals := 48 } 0 0 [.inr (some c_a), .inl word] [(c_a, .inr (.inr (6, [.inr (some c_pad_a), .inr (some c_book_a), .inr (some c_images_a), .inr (some c_net_a), .inr (some c_ranking_a), .inr (some c_writing_a), .inl c_netStands, .inl c_rankingStands]))), (c_pad_a, .inr (.inr (3, [.inr (some c_pad_signs_a), .inl c_pad_count, .inl c_pad_letters, .inl c_pad_kind, .inl c_pad_cost]))), (c_pad_signs_a, .inl (false, 40, c_pad_signs)), (c_book_a, .inr (.inr (0, [.inr (some c_book_dictionary_a), .inr (some c_book_joins_a), .inr (some c_book_rules_a), .inr (some c_book_line_a), .inl c_book_lineLength]))), (c_book_dictionary_a, .inr (.inr (1, [.inr (some c_book_dictionary_letters_a), .inr (some c_book_dictionary_lengths_a), .inr (some c_book_dictionary_kinds_a), .inr (some c_book_dictionary_costs_a), .inl c_book_dictionary_count]))), (c_book_dictionary_letters_a, .inl (false, 96, c_book_dictionary_letters)), (c_book_dictionary_lengths_a, .inl (false, 16, c_book_dictionary_lengths)), (c_book_dictionary_kinds_a, .inl (false, 16, c_book_dictionary_kinds)), (c_book_dictionary_costs_a, .inl (false, 16, c_book_dictionary_costs)), (c_book_joins_a, .inl (false, 25, c_book_joins)), (c_book_rules_a, .inl (false, 4, c_book_rules)), (c_book_line_a, .inl (false, 24, c_book_line)), (c_images_a, .inr (.inl (2, c_images))), (c_net_a, .inr (.inr (2, [.inl c_net_lineLength, .inl c_net_count, .inr (some c_net_places_a), .inr (some c_net_lengths_a), .inr (some c_net_kinds_a), .inr (some c_net_costs_a), .inr (some c_net_words_a), .inr (some c_net_firsts_a), .inr (some c_net_joins_a), .inr (some c_net_slots_a), .inr (some c_net_routes_a)]))), (c_net_places_a, .inl (false, 480, c_net_places)), (c_net_lengths_a, .inl (false, 480, c_net_lengths)), (c_net_kinds_a, .inl (false, 480, c_net_kinds)), (c_net_costs_a, .inl (false, 480, c_net_costs)), (c_net_words_a, .inl (false, 480, c_net_words)), (c_net_firsts_a, .inl (false, 25, c_net_firsts)), (c_net_joins_a, .inl (false, 25, c_net_joins)), (c_net_slots_a, .inl (false, 28, c_net_slots)), (c_net_routes_a, .inl (false, 25, c_net_routes)), (c_ranking_a, .inr (.inr (4, [.inr (some c_ranking_before_a), .inr (some c_ranking_counts_a), .inr (some c_ranking_kept_a), .inr (some c_ranking_followed_a)]))), (c_ranking_before_a, .inl (false, 125, c_ranking_before)), (c_ranking_counts_a, .inl (false, 125, c_ranking_counts)), (c_ranking_kept_a, .inl (false, 1500, c_ranking_kept)), (c_ranking_followed_a, .inl (false, 24, c_ranking_followed)), (c_writing_a, .inr (.inr (5, [.inr (some c_writing_signs_a), .inl c_writing_count]))), (c_writing_signs_a, .inl (false, 71, c_writing_signs))] (CI c_pad_count c_book_dictionary_count c_book_dictionary_lengths c_book_dictionary_kinds c_book_dictionary_costs c_book_joins c_book_rules c_book_lineLength c_net_lineLength c_net_count c_net_places c_net_lengths c_net_kinds c_net_costs c_net_firsts c_net_joins c_ranking_counts c_ranking_kept c_ranking_followed c_writing_count c_netStands) (fun z u => ∃ (c_book_dictionary_count' : Int) (c_book_dictionary_letters' : Nat → Int) (c_book_dictionary_lengths' : Nat → Int) (c_book_dictionary_kinds' : Nat → Int) (c_book_dictionary_costs' : Nat → Int) (c_netStands' : Int) (c_rankingStands' : Int), u = [(c_a, .inr (.inr (6, [.inr (some c_pad_a), .inr (some c_book_a), .inr (some c_images_a), .inr (some c_net_a), .inr (some c_ranking_a), .inr (some c_writing_a), .inl c_netStands', .inl c_rankingStands']))), (c_pad_a, .inr (.inr (3, [.inr (some c_pad_signs_a), .inl c_pad_count, .inl c_pad_letters, .inl c_pad_kind, .inl c_pad_cost]))), (c_pad_signs_a, .inl (false, 40, c_pad_signs)), (c_book_a, .inr (.inr (0, [.inr (some c_book_dictionary_a), .inr (some c_book_joins_a), .inr (some c_book_rules_a), .inr (some c_book_line_a), .inl c_book_lineLength]))), (c_book_dictionary_a, .inr (.inr (1, [.inr (some c_book_dictionary_letters_a), .inr (some c_book_dictionary_lengths_a), .inr (some c_book_dictionary_kinds_a), .inr (some c_book_dictionary_costs_a), .inl c_book_dictionary_count']))), (c_book_dictionary_letters_a, .inl (false, 96, c_book_dictionary_letters')), (c_book_dictionary_lengths_a, .inl (false, 16, c_book_dictionary_lengths')), (c_book_dictionary_kinds_a, .inl (false, 16, c_book_dictionary_kinds')), (c_book_dictionary_costs_a, .inl (false, 16, c_book_dictionary_costs')), (c_book_joins_a, .inl (false, 25, c_book_joins)), (c_book_rules_a, .inl (false, 4, c_book_rules)), (c_book_line_a, .inl (false, 24, c_book_line)), (c_images_a, .inr (.inl (2, c_images))), (c_net_a, .inr (.inr (2, [.inl c_net_lineLength, .inl c_net_count, .inr (some c_net_places_a), .inr (some c_net_lengths_a), .inr (some c_net_kinds_a), .inr (some c_net_costs_a), .inr (some c_net_words_a), .inr (some c_net_firsts_a), .inr (some c_net_joins_a), .inr (some c_net_slots_a), .inr (some c_net_routes_a)]))), (c_net_places_a, .inl (false, 480, c_net_places)), (c_net_lengths_a, .inl (false, 480, c_net_lengths)), (c_net_kinds_a, .inl (false, 480, c_net_kinds)), (c_net_costs_a, .inl (false, 480, c_net_costs)), (c_net_words_a, .inl (false, 480, c_net_words)), (c_net_firsts_a, .inl (false, 25, c_net_firsts)), (c_net_joins_a, .inl (false, 25, c_net_joins)), (c_net_slots_a, .inl (false, 28, c_net_slots)), (c_net_routes_a, .inl (false, 25, c_net_routes)), (c_ranking_a, .inr (.inr (4, [.inr (some c_ranking_before_a), .inr (some c_ranking_counts_a), .inr (some c_ranking_kept_a), .inr (some c_ranking_followed_a)]))), (c_ranking_before_a, .inl (false, 125, c_ranking_before)), (c_ranking_counts_a, .inl (false, 125, c_ranking_counts)), (c_ranking_kept_a, .inl (false, 1500, c_ranking_kept)), (c_ranking_followed_a, .inl (false, 24, c_ranking_followed)), (c_writing_a, .inr (.inr (5, [.inr (some c_writing_signs_a), .inl c_writing_count]))), (c_writing_signs_a, .inl (false, 71, c_writing_signs))] ∧ (CI c_pad_count c_book_dictionary_count' c_book_dictionary_lengths' c_book_dictionary_kinds' c_book_dictionary_costs' c_book_joins c_book_rules c_book_lineLength c_net_lineLength c_net_count c_net_places c_net_lengths c_net_kinds c_net_costs c_net_firsts c_net_joins c_ranking_counts c_ranking_kept c_ranking_followed c_writing_count c_netStands' ∧ zFG word z c_book_dictionary_count c_book_dictionary_letters c_book_dictionary_lengths c_book_dictionary_kinds c_book_dictionary_costs c_book_dictionary_count' c_book_dictionary_letters' c_book_dictionary_lengths' c_book_dictionary_kinds' c_book_dictionary_costs')) := by
  refine zMi.of RX6 hE (by decide) rfl (by simp) (fun _ _ _ _ => rfl) ?_
  intro Z hP hav hwr B
  obtain ⟨l_word, u_word⟩ : zR word := hav (.inl word) (by simp)
  obtain ⟨l_c_netStands, u_c_netStands⟩ : zR c_netStands := zWr_at hwr (i := 0) rfl (.inl c_netStands) (by simp)
  obtain ⟨l_c_rankingStands, u_c_rankingStands⟩ : zR c_rankingStands := zWr_at hwr (i := 0) rfl (.inl c_rankingStands) (by simp)
  obtain ⟨l_c_pad_count, u_c_pad_count⟩ : zR c_pad_count := zWr_at hwr (i := 1) rfl (.inl c_pad_count) (by simp)
  obtain ⟨l_c_pad_letters, u_c_pad_letters⟩ : zR c_pad_letters := zWr_at hwr (i := 1) rfl (.inl c_pad_letters) (by simp)
  obtain ⟨l_c_pad_kind, u_c_pad_kind⟩ : zR c_pad_kind := zWr_at hwr (i := 1) rfl (.inl c_pad_kind) (by simp)
  obtain ⟨l_c_pad_cost, u_c_pad_cost⟩ : zR c_pad_cost := zWr_at hwr (i := 1) rfl (.inl c_pad_cost) (by simp)
  obtain ⟨l_c_book_lineLength, u_c_book_lineLength⟩ : zR c_book_lineLength := zWr_at hwr (i := 3) rfl (.inl c_book_lineLength) (by simp)
  obtain ⟨l_c_book_dictionary_count, u_c_book_dictionary_count⟩ : zR c_book_dictionary_count := zWr_at hwr (i := 4) rfl (.inl c_book_dictionary_count) (by simp)
  obtain ⟨l_c_net_lineLength, u_c_net_lineLength⟩ : zR c_net_lineLength := zWr_at hwr (i := 13) rfl (.inl c_net_lineLength) (by simp)
  obtain ⟨l_c_net_count, u_c_net_count⟩ : zR c_net_count := zWr_at hwr (i := 13) rfl (.inl c_net_count) (by simp)
  obtain ⟨l_c_writing_count, u_c_writing_count⟩ : zR c_writing_count := zWr_at hwr (i := 28) rfl (.inl c_writing_count) (by simp)
  obtain ⟨h1, h2, h3, h4, h5, h6, h7⟩ := id hP
  obtain ⟨h3a, h3b⟩ := id h3
  obtain ⟨h2a, h2b, h2c⟩ := id h2
  obtain ⟨h4a, h4b, h4c, h4d, h4e, h4f, h4g⟩ := id h4
  obtain ⟨h5a, h5b, h5c⟩ := id h5
  show Z 0 0 0 [some (.inr (some c_a)), some (.inl word)] [] _
  refine B.aload_n (pc := 0) (i := 0) dX6_forget_0 rfl rfl ?_
  refine B.getfield (pc := 1) 0 rfl rfl inX6z 1 (by decide) fl_X6_19 rfl dX6_forget_1 ?_
  refine B.getfield (pc := 4) 3 rfl rfl inX0z 0 (by decide) fl_X6_66 rfl dX6_forget_4 ?_
  refine B.iload_n (pc := 7) (i := 1) dX6_forget_7 rfl rfl ?_
  refine B.callVi (pc := 8) 1 (mX1_has hE _ _ _ _ _ _ _ _ _ _ _) 4 rfl rfl ml_X6_79 im_X1_has se_X1_has it_X1 co_X1_has (by decide +kernel) rfl rfl rfl ⟨by decide, by decide⟩ ⟨by decide, by decide⟩ [4, 5, 6, 7, 8] rfl rfl rfl (Nat.le_of_ble_eq_true rfl) dX6_forget_8 (fun _ => trivial) (fun zk8 uk8 rzk8 ruk8 rak8 hqk8 => ?_)
  obtain ⟨lzk8, uzk8⟩ := rzk8
  obtain ⟨rfl, hk8⟩ := hqk8
  simp only [zput, List.set_cons_zero, List.set_cons_succ, List.append_nil, Nat.add_zero]
  refine B.if_ne (pc := 11) (tgt := 16) dX6_forget_11 (by decide) (fun c11 => ?_) (fun c11 => ?_)
  · refine B.aload_n (pc := 16) (i := 0) dX6_forget_16 rfl rfl ?_
    refine B.getfield (pc := 17) 0 rfl rfl inX6z 1 (by decide) fl_X6_19 rfl dX6_forget_17 ?_
    refine B.getfield (pc := 20) 3 rfl rfl inX0z 0 (by decide) fl_X6_66 rfl dX6_forget_20 ?_
    refine B.iload_n (pc := 23) (i := 1) dX6_forget_23 rfl rfl ?_
    refine B.callVv (pc := 24) 1 (mX1_remove hE _ _ _ _ _ _ _ _ _ _ _) 4 rfl rfl ml_X6_82 im_X1_remove se_X1_remove it_X1 co_X1_remove (by decide +kernel) rfl rfl rfl ⟨by decide, by decide⟩ ⟨by decide, by decide⟩ [4, 5, 6, 7, 8] rfl rfl rfl (Nat.le_of_ble_eq_true rfl) dX6_forget_24 (fun _ => ⟨h2, by omega, by omega⟩) (fun uk24 ruk24 rak24 hqk24 => ?_)
    obtain ⟨d_count_k24, d_letters_k24, d_lengths_k24, d_kinds_k24, d_costs_k24, rfl, hk24⟩ := hqk24
    simp only [zput, List.set_cons_zero, List.set_cons_succ, List.append_nil, Nat.add_zero]
    refine B.aload_n (pc := 27) (i := 0) dX6_forget_27 rfl rfl ?_
    refine B.callVv (pc := 28) 0 (mX6_somethingChanged hE _ _ _ _ _ _ _ _ _ _ _ _ _ _ _ _ _ _ _ _ _ _ _ _ _ _ _ _ _ _ _ _ _ _ _ _ _ _ _ _ _ _ _ _ _ _ _ _ _ _ _ _ _ _ _ _ _ _ _ _ _ _ _ _) 0 rfl rfl ml_X6_76 im_X6_somethingChanged se_X6_somethingChanged it_X6 co_X6_somethingChanged (by decide +kernel) rfl rfl rfl ⟨by decide, by decide⟩ ⟨by decide, by decide⟩ [0, 1, 2, 3, 4, 5, 6, 7, 8, 9, 10, 11, 12, 13, 14, 15, 16, 17, 18, 19, 20, 21, 22, 23, 24, 25, 26, 27, 28, 29] rfl rfl rfl (Nat.le_of_ble_eq_true rfl) dX6_forget_28 (fun _ => trivial) (fun uk28 ruk28 rak28 hqk28 => ?_)
    obtain ⟨c_netStands_k28, c_rankingStands_k28, rfl, hk28⟩ := hqk28
    simp only [zput, List.set_cons_zero, List.set_cons_succ, List.append_nil, Nat.add_zero]
    refine B.aload_n (pc := 31) (i := 0) dX6_forget_31 rfl rfl ?_
    refine B.getfield (pc := 32) 0 rfl rfl inX6z 1 (by decide) fl_X6_19 rfl dX6_forget_32 ?_
    refine B.getfield (pc := 35) 3 rfl rfl inX0z 0 (by decide) fl_X6_66 rfl dX6_forget_35 ?_
    refine B.getfield (pc := 38) 4 rfl rfl inX1z 4 (by decide) fl_X6_86 rfl dX6_forget_38 ?_
    refine B.ireturn (pc := 41) (by simp) dX6_forget_41 (Nat.le_refl _) (Nat.le_refl _) (fun rz rw => ⟨_, _, _, _, _, _, _, rfl, ?_⟩)
    exact ⟨⟨h1, hk24.1, h3, h4, h5, h6, fun q => absurd hk28.1 q⟩, Or.inr ⟨by omega, by omega, hk24.2.1, hk24.2.1, hk24.2.2⟩⟩
  · refine B.iconst (pc := 14) dX6_forget_14 ⟨by decide, by decide⟩ ?_
    refine B.ireturn (pc := 15) (by simp) dX6_forget_15 (Nat.le_refl _) (Nat.le_refl _) (fun rz rw => ⟨_, _, _, _, _, _, _, rfl, ?_⟩)
    exact ⟨hP, Or.inl ⟨by omega, rfl, rfl, rfl, rfl, rfl, rfl⟩⟩
set_option maxHeartbeats 4000000 in
set_option maxRecDepth 100000 in
theorem mX6_word {l : Launch} {D : va_G} {k : zK} {E : zE} (hE : zEok E) (c_a c_pad_a c_pad_signs_a c_book_a c_book_dictionary_a c_book_dictionary_letters_a c_book_dictionary_lengths_a c_book_dictionary_kinds_a c_book_dictionary_costs_a c_book_joins_a c_book_rules_a c_book_line_a c_images_a c_net_a c_net_places_a c_net_lengths_a c_net_kinds_a c_net_costs_a c_net_words_a c_net_firsts_a c_net_joins_a c_net_slots_a c_net_routes_a c_ranking_a c_ranking_before_a c_ranking_counts_a c_ranking_kept_a c_ranking_followed_a c_writing_a c_writing_signs_a : Nat) (c_pad_count c_pad_letters c_pad_kind c_pad_cost c_book_dictionary_count c_book_lineLength c_net_lineLength c_net_count c_writing_count c_netStands c_rankingStands word what : Int) (c_pad_signs c_book_dictionary_letters c_book_dictionary_lengths c_book_dictionary_kinds c_book_dictionary_costs c_book_joins c_book_rules c_book_line c_net_places c_net_lengths c_net_kinds c_net_costs c_net_words c_net_firsts c_net_joins c_net_slots c_net_routes c_ranking_before c_ranking_counts c_ranking_kept c_ranking_followed c_writing_signs : Nat → Int) (c_images : Nat → Option Nat) : zMi l D k E yX6_word cX6_word 3 .int { frames := 1, cells := 0, slots := 0, locals := 23 } 0 0 [.inr (some c_a), .inl word, .inl what] [(c_a, .inr (.inr (6, [.inr (some c_pad_a), .inr (some c_book_a), .inr (some c_images_a), .inr (some c_net_a), .inr (some c_ranking_a), .inr (some c_writing_a), .inl c_netStands, .inl c_rankingStands]))), (c_pad_a, .inr (.inr (3, [.inr (some c_pad_signs_a), .inl c_pad_count, .inl c_pad_letters, .inl c_pad_kind, .inl c_pad_cost]))), (c_pad_signs_a, .inl (false, 40, c_pad_signs)), (c_book_a, .inr (.inr (0, [.inr (some c_book_dictionary_a), .inr (some c_book_joins_a), .inr (some c_book_rules_a), .inr (some c_book_line_a), .inl c_book_lineLength]))), (c_book_dictionary_a, .inr (.inr (1, [.inr (some c_book_dictionary_letters_a), .inr (some c_book_dictionary_lengths_a), .inr (some c_book_dictionary_kinds_a), .inr (some c_book_dictionary_costs_a), .inl c_book_dictionary_count]))), (c_book_dictionary_letters_a, .inl (false, 96, c_book_dictionary_letters)), (c_book_dictionary_lengths_a, .inl (false, 16, c_book_dictionary_lengths)), (c_book_dictionary_kinds_a, .inl (false, 16, c_book_dictionary_kinds)), (c_book_dictionary_costs_a, .inl (false, 16, c_book_dictionary_costs)), (c_book_joins_a, .inl (false, 25, c_book_joins)), (c_book_rules_a, .inl (false, 4, c_book_rules)), (c_book_line_a, .inl (false, 24, c_book_line)), (c_images_a, .inr (.inl (2, c_images))), (c_net_a, .inr (.inr (2, [.inl c_net_lineLength, .inl c_net_count, .inr (some c_net_places_a), .inr (some c_net_lengths_a), .inr (some c_net_kinds_a), .inr (some c_net_costs_a), .inr (some c_net_words_a), .inr (some c_net_firsts_a), .inr (some c_net_joins_a), .inr (some c_net_slots_a), .inr (some c_net_routes_a)]))), (c_net_places_a, .inl (false, 480, c_net_places)), (c_net_lengths_a, .inl (false, 480, c_net_lengths)), (c_net_kinds_a, .inl (false, 480, c_net_kinds)), (c_net_costs_a, .inl (false, 480, c_net_costs)), (c_net_words_a, .inl (false, 480, c_net_words)), (c_net_firsts_a, .inl (false, 25, c_net_firsts)), (c_net_joins_a, .inl (false, 25, c_net_joins)), (c_net_slots_a, .inl (false, 28, c_net_slots)), (c_net_routes_a, .inl (false, 25, c_net_routes)), (c_ranking_a, .inr (.inr (4, [.inr (some c_ranking_before_a), .inr (some c_ranking_counts_a), .inr (some c_ranking_kept_a), .inr (some c_ranking_followed_a)]))), (c_ranking_before_a, .inl (false, 125, c_ranking_before)), (c_ranking_counts_a, .inl (false, 125, c_ranking_counts)), (c_ranking_kept_a, .inl (false, 1500, c_ranking_kept)), (c_ranking_followed_a, .inl (false, 24, c_ranking_followed)), (c_writing_a, .inr (.inr (5, [.inr (some c_writing_signs_a), .inl c_writing_count]))), (c_writing_signs_a, .inl (false, 71, c_writing_signs))] (CI c_pad_count c_book_dictionary_count c_book_dictionary_lengths c_book_dictionary_kinds c_book_dictionary_costs c_book_joins c_book_rules c_book_lineLength c_net_lineLength c_net_count c_net_places c_net_lengths c_net_kinds c_net_costs c_net_firsts c_net_joins c_ranking_counts c_ranking_kept c_ranking_followed c_writing_count c_netStands) (fun z u => u = [(c_a, .inr (.inr (6, [.inr (some c_pad_a), .inr (some c_book_a), .inr (some c_images_a), .inr (some c_net_a), .inr (some c_ranking_a), .inr (some c_writing_a), .inl c_netStands, .inl c_rankingStands]))), (c_pad_a, .inr (.inr (3, [.inr (some c_pad_signs_a), .inl c_pad_count, .inl c_pad_letters, .inl c_pad_kind, .inl c_pad_cost]))), (c_pad_signs_a, .inl (false, 40, c_pad_signs)), (c_book_a, .inr (.inr (0, [.inr (some c_book_dictionary_a), .inr (some c_book_joins_a), .inr (some c_book_rules_a), .inr (some c_book_line_a), .inl c_book_lineLength]))), (c_book_dictionary_a, .inr (.inr (1, [.inr (some c_book_dictionary_letters_a), .inr (some c_book_dictionary_lengths_a), .inr (some c_book_dictionary_kinds_a), .inr (some c_book_dictionary_costs_a), .inl c_book_dictionary_count]))), (c_book_dictionary_letters_a, .inl (false, 96, c_book_dictionary_letters)), (c_book_dictionary_lengths_a, .inl (false, 16, c_book_dictionary_lengths)), (c_book_dictionary_kinds_a, .inl (false, 16, c_book_dictionary_kinds)), (c_book_dictionary_costs_a, .inl (false, 16, c_book_dictionary_costs)), (c_book_joins_a, .inl (false, 25, c_book_joins)), (c_book_rules_a, .inl (false, 4, c_book_rules)), (c_book_line_a, .inl (false, 24, c_book_line)), (c_images_a, .inr (.inl (2, c_images))), (c_net_a, .inr (.inr (2, [.inl c_net_lineLength, .inl c_net_count, .inr (some c_net_places_a), .inr (some c_net_lengths_a), .inr (some c_net_kinds_a), .inr (some c_net_costs_a), .inr (some c_net_words_a), .inr (some c_net_firsts_a), .inr (some c_net_joins_a), .inr (some c_net_slots_a), .inr (some c_net_routes_a)]))), (c_net_places_a, .inl (false, 480, c_net_places)), (c_net_lengths_a, .inl (false, 480, c_net_lengths)), (c_net_kinds_a, .inl (false, 480, c_net_kinds)), (c_net_costs_a, .inl (false, 480, c_net_costs)), (c_net_words_a, .inl (false, 480, c_net_words)), (c_net_firsts_a, .inl (false, 25, c_net_firsts)), (c_net_joins_a, .inl (false, 25, c_net_joins)), (c_net_slots_a, .inl (false, 28, c_net_slots)), (c_net_routes_a, .inl (false, 25, c_net_routes)), (c_ranking_a, .inr (.inr (4, [.inr (some c_ranking_before_a), .inr (some c_ranking_counts_a), .inr (some c_ranking_kept_a), .inr (some c_ranking_followed_a)]))), (c_ranking_before_a, .inl (false, 125, c_ranking_before)), (c_ranking_counts_a, .inl (false, 125, c_ranking_counts)), (c_ranking_kept_a, .inl (false, 1500, c_ranking_kept)), (c_ranking_followed_a, .inl (false, 24, c_ranking_followed)), (c_writing_a, .inr (.inr (5, [.inr (some c_writing_signs_a), .inl c_writing_count]))), (c_writing_signs_a, .inl (false, 71, c_writing_signs))] ∧ (zWS c_book_dictionary_count c_book_dictionary_letters c_book_dictionary_lengths c_book_dictionary_kinds c_book_dictionary_costs word what z)) := by
  refine zMi.of RX6 hE (by decide) rfl (by simp) (fun _ _ _ _ => rfl) ?_
  intro Z hP hav hwr B
  obtain ⟨l_word, u_word⟩ : zR word := hav (.inl word) (by simp)
  obtain ⟨l_what, u_what⟩ : zR what := hav (.inl what) (by simp)
  obtain ⟨l_c_netStands, u_c_netStands⟩ : zR c_netStands := zWr_at hwr (i := 0) rfl (.inl c_netStands) (by simp)
  obtain ⟨l_c_rankingStands, u_c_rankingStands⟩ : zR c_rankingStands := zWr_at hwr (i := 0) rfl (.inl c_rankingStands) (by simp)
  obtain ⟨l_c_pad_count, u_c_pad_count⟩ : zR c_pad_count := zWr_at hwr (i := 1) rfl (.inl c_pad_count) (by simp)
  obtain ⟨l_c_pad_letters, u_c_pad_letters⟩ : zR c_pad_letters := zWr_at hwr (i := 1) rfl (.inl c_pad_letters) (by simp)
  obtain ⟨l_c_pad_kind, u_c_pad_kind⟩ : zR c_pad_kind := zWr_at hwr (i := 1) rfl (.inl c_pad_kind) (by simp)
  obtain ⟨l_c_pad_cost, u_c_pad_cost⟩ : zR c_pad_cost := zWr_at hwr (i := 1) rfl (.inl c_pad_cost) (by simp)
  obtain ⟨l_c_book_lineLength, u_c_book_lineLength⟩ : zR c_book_lineLength := zWr_at hwr (i := 3) rfl (.inl c_book_lineLength) (by simp)
  obtain ⟨l_c_book_dictionary_count, u_c_book_dictionary_count⟩ : zR c_book_dictionary_count := zWr_at hwr (i := 4) rfl (.inl c_book_dictionary_count) (by simp)
  obtain ⟨l_c_net_lineLength, u_c_net_lineLength⟩ : zR c_net_lineLength := zWr_at hwr (i := 13) rfl (.inl c_net_lineLength) (by simp)
  obtain ⟨l_c_net_count, u_c_net_count⟩ : zR c_net_count := zWr_at hwr (i := 13) rfl (.inl c_net_count) (by simp)
  obtain ⟨l_c_writing_count, u_c_writing_count⟩ : zR c_writing_count := zWr_at hwr (i := 28) rfl (.inl c_writing_count) (by simp)
  obtain ⟨h1, h2, h3, h4, h5, h6, h7⟩ := id hP
  obtain ⟨h3a, h3b⟩ := id h3
  obtain ⟨h2a, h2b, h2c⟩ := id h2
  obtain ⟨h4a, h4b, h4c, h4d, h4e, h4f, h4g⟩ := id h4
  obtain ⟨h5a, h5b, h5c⟩ := id h5
  show Z 0 0 0 [some (.inr (some c_a)), some (.inl word), some (.inl what)] [] _
  refine B.aload_n (pc := 0) (i := 0) dX6_word_0 rfl rfl ?_
  refine B.getfield (pc := 1) 0 rfl rfl inX6z 1 (by decide) fl_X6_19 rfl dX6_word_1 ?_
  refine B.getfield (pc := 4) 3 rfl rfl inX0z 0 (by decide) fl_X6_66 rfl dX6_word_4 ?_
  refine B.iload_n (pc := 7) (i := 1) dX6_word_7 rfl rfl ?_
  refine B.callVi (pc := 8) 1 (mX1_has hE _ _ _ _ _ _ _ _ _ _ _) 4 rfl rfl ml_X6_79 im_X1_has se_X1_has it_X1 co_X1_has (by decide +kernel) rfl rfl rfl ⟨by decide, by decide⟩ ⟨by decide, by decide⟩ [4, 5, 6, 7, 8] rfl rfl rfl (Nat.le_of_ble_eq_true rfl) dX6_word_8 (fun _ => trivial) (fun zk8 uk8 rzk8 ruk8 rak8 hqk8 => ?_)
  obtain ⟨lzk8, uzk8⟩ := rzk8
  obtain ⟨rfl, hk8⟩ := hqk8
  simp only [zput, List.set_cons_zero, List.set_cons_succ, List.append_nil, Nat.add_zero]
  refine B.if_ne (pc := 11) (tgt := 16) dX6_word_11 (by decide) (fun c11 => ?_) (fun c11 => ?_)
  · refine B.iload_n (pc := 16) (i := 2) dX6_word_16 rfl rfl ?_
    refine B.if_ge (pc := 17) (tgt := 25) dX6_word_17 (by decide) (fun c17 => ?_) (fun c17 => ?_)
    · have hd := h2.at (x := word) (by omega) (by omega)
      refine B.aload_n (pc := 25) (i := 0) dX6_word_25 rfl rfl ?_
      refine B.getfield (pc := 26) 0 rfl rfl inX6z 1 (by decide) fl_X6_19 rfl dX6_word_26 ?_
      refine B.getfield (pc := 29) 3 rfl rfl inX0z 0 (by decide) fl_X6_66 rfl dX6_word_29 ?_
      refine B.iload_n (pc := 32) (i := 1) dX6_word_32 rfl rfl ?_
      refine B.iload_n (pc := 33) (i := 2) dX6_word_33 rfl rfl ?_
      refine B.callVi (pc := 34) 2 (mX1_tell hE _ _ _ _ _ _ _ _ _ _ _ _) 4 rfl rfl ml_X6_87 im_X1_tell se_X1_tell it_X1 co_X1_tell (by decide +kernel) rfl rfl rfl ⟨by decide, by decide⟩ ⟨by decide, by decide⟩ [4, 5, 6, 7, 8] rfl rfl rfl (Nat.le_of_ble_eq_true rfl) dX6_word_34 (fun _ => by omega) (fun zk34 uk34 rzk34 ruk34 rak34 hqk34 => ?_)
      obtain ⟨lzk34, uzk34⟩ := rzk34
      obtain ⟨rfl, hk34⟩ := hqk34
      simp only [zput, List.set_cons_zero, List.set_cons_succ, List.append_nil, Nat.add_zero]
      refine B.ireturn (pc := 37) (by simp) dX6_word_37 (Nat.le_refl _) (Nat.le_refl _) (fun rz rw => ⟨rfl, ?_⟩)
      first | exact Or.inr (Or.inl ⟨by omega, by omega, by omega, rfl⟩) | exact Or.inr (Or.inr ⟨by omega, by omega, by omega, hk34⟩)
    · refine B.bipush (pc := 20) dX6_word_20 ⟨by decide, by decide⟩ ?_
      refine B.goto (pc := 22) (tgt := 37) dX6_word_22 (by decide) ?_
      refine B.ireturn (pc := 37) (by simp) dX6_word_37 (Nat.le_refl _) (Nat.le_refl _) (fun rz rw => ⟨rfl, ?_⟩)
      first | exact Or.inr (Or.inl ⟨by omega, by omega, by omega, rfl⟩) | exact Or.inr (Or.inr ⟨by omega, by omega, by omega, hk34⟩)
  · refine B.iconst (pc := 14) dX6_word_14 ⟨by decide, by decide⟩ ?_
    refine B.ireturn (pc := 15) (by simp) dX6_word_15 (Nat.le_refl _) (Nat.le_refl _) (fun rz rw => ⟨rfl, ?_⟩)
    exact Or.inl ⟨by omega, rfl⟩
set_option maxHeartbeats 4000000 in
set_option maxRecDepth 100000 in
theorem mX6_line {l : Launch} {D : va_G} {k : zK} {E : zE} (hE : zEok E) (c_a c_pad_a c_pad_signs_a c_book_a c_book_dictionary_a c_book_dictionary_letters_a c_book_dictionary_lengths_a c_book_dictionary_kinds_a c_book_dictionary_costs_a c_book_joins_a c_book_rules_a c_book_line_a c_images_a c_net_a c_net_places_a c_net_lengths_a c_net_kinds_a c_net_costs_a c_net_words_a c_net_firsts_a c_net_joins_a c_net_slots_a c_net_routes_a c_ranking_a c_ranking_before_a c_ranking_counts_a c_ranking_kept_a c_ranking_followed_a c_writing_a c_writing_signs_a : Nat) (c_pad_count c_pad_letters c_pad_kind c_pad_cost c_book_dictionary_count c_book_lineLength c_net_lineLength c_net_count c_writing_count c_netStands c_rankingStands : Int) (c_pad_signs c_book_dictionary_letters c_book_dictionary_lengths c_book_dictionary_kinds c_book_dictionary_costs c_book_joins c_book_rules c_book_line c_net_places c_net_lengths c_net_kinds c_net_costs c_net_words c_net_firsts c_net_joins c_net_slots c_net_routes c_ranking_before c_ranking_counts c_ranking_kept c_ranking_followed c_writing_signs : Nat → Int) (c_images : Nat → Option Nat) : zMi l D k E yX6_line cX6_line 1 .int { frames := 3, cells := 0, slots := 0, locals := 64 } 0 0 [.inr (some c_a)] [(c_a, .inr (.inr (6, [.inr (some c_pad_a), .inr (some c_book_a), .inr (some c_images_a), .inr (some c_net_a), .inr (some c_ranking_a), .inr (some c_writing_a), .inl c_netStands, .inl c_rankingStands]))), (c_pad_a, .inr (.inr (3, [.inr (some c_pad_signs_a), .inl c_pad_count, .inl c_pad_letters, .inl c_pad_kind, .inl c_pad_cost]))), (c_pad_signs_a, .inl (false, 40, c_pad_signs)), (c_book_a, .inr (.inr (0, [.inr (some c_book_dictionary_a), .inr (some c_book_joins_a), .inr (some c_book_rules_a), .inr (some c_book_line_a), .inl c_book_lineLength]))), (c_book_dictionary_a, .inr (.inr (1, [.inr (some c_book_dictionary_letters_a), .inr (some c_book_dictionary_lengths_a), .inr (some c_book_dictionary_kinds_a), .inr (some c_book_dictionary_costs_a), .inl c_book_dictionary_count]))), (c_book_dictionary_letters_a, .inl (false, 96, c_book_dictionary_letters)), (c_book_dictionary_lengths_a, .inl (false, 16, c_book_dictionary_lengths)), (c_book_dictionary_kinds_a, .inl (false, 16, c_book_dictionary_kinds)), (c_book_dictionary_costs_a, .inl (false, 16, c_book_dictionary_costs)), (c_book_joins_a, .inl (false, 25, c_book_joins)), (c_book_rules_a, .inl (false, 4, c_book_rules)), (c_book_line_a, .inl (false, 24, c_book_line)), (c_images_a, .inr (.inl (2, c_images))), (c_net_a, .inr (.inr (2, [.inl c_net_lineLength, .inl c_net_count, .inr (some c_net_places_a), .inr (some c_net_lengths_a), .inr (some c_net_kinds_a), .inr (some c_net_costs_a), .inr (some c_net_words_a), .inr (some c_net_firsts_a), .inr (some c_net_joins_a), .inr (some c_net_slots_a), .inr (some c_net_routes_a)]))), (c_net_places_a, .inl (false, 480, c_net_places)), (c_net_lengths_a, .inl (false, 480, c_net_lengths)), (c_net_kinds_a, .inl (false, 480, c_net_kinds)), (c_net_costs_a, .inl (false, 480, c_net_costs)), (c_net_words_a, .inl (false, 480, c_net_words)), (c_net_firsts_a, .inl (false, 25, c_net_firsts)), (c_net_joins_a, .inl (false, 25, c_net_joins)), (c_net_slots_a, .inl (false, 28, c_net_slots)), (c_net_routes_a, .inl (false, 25, c_net_routes)), (c_ranking_a, .inr (.inr (4, [.inr (some c_ranking_before_a), .inr (some c_ranking_counts_a), .inr (some c_ranking_kept_a), .inr (some c_ranking_followed_a)]))), (c_ranking_before_a, .inl (false, 125, c_ranking_before)), (c_ranking_counts_a, .inl (false, 125, c_ranking_counts)), (c_ranking_kept_a, .inl (false, 1500, c_ranking_kept)), (c_ranking_followed_a, .inl (false, 24, c_ranking_followed)), (c_writing_a, .inr (.inr (5, [.inr (some c_writing_signs_a), .inl c_writing_count]))), (c_writing_signs_a, .inl (false, 71, c_writing_signs))] (CI c_pad_count c_book_dictionary_count c_book_dictionary_lengths c_book_dictionary_kinds c_book_dictionary_costs c_book_joins c_book_rules c_book_lineLength c_net_lineLength c_net_count c_net_places c_net_lengths c_net_kinds c_net_costs c_net_firsts c_net_joins c_ranking_counts c_ranking_kept c_ranking_followed c_writing_count c_netStands) (fun z u => ∃ (c_book_line' : Nat → Int) (c_book_lineLength' : Int) (c_pad_count' : Int) (c_netStands' : Int) (c_rankingStands' : Int), u = [(c_a, .inr (.inr (6, [.inr (some c_pad_a), .inr (some c_book_a), .inr (some c_images_a), .inr (some c_net_a), .inr (some c_ranking_a), .inr (some c_writing_a), .inl c_netStands', .inl c_rankingStands']))), (c_pad_a, .inr (.inr (3, [.inr (some c_pad_signs_a), .inl c_pad_count', .inl c_pad_letters, .inl c_pad_kind, .inl c_pad_cost]))), (c_pad_signs_a, .inl (false, 40, c_pad_signs)), (c_book_a, .inr (.inr (0, [.inr (some c_book_dictionary_a), .inr (some c_book_joins_a), .inr (some c_book_rules_a), .inr (some c_book_line_a), .inl c_book_lineLength']))), (c_book_dictionary_a, .inr (.inr (1, [.inr (some c_book_dictionary_letters_a), .inr (some c_book_dictionary_lengths_a), .inr (some c_book_dictionary_kinds_a), .inr (some c_book_dictionary_costs_a), .inl c_book_dictionary_count]))), (c_book_dictionary_letters_a, .inl (false, 96, c_book_dictionary_letters)), (c_book_dictionary_lengths_a, .inl (false, 16, c_book_dictionary_lengths)), (c_book_dictionary_kinds_a, .inl (false, 16, c_book_dictionary_kinds)), (c_book_dictionary_costs_a, .inl (false, 16, c_book_dictionary_costs)), (c_book_joins_a, .inl (false, 25, c_book_joins)), (c_book_rules_a, .inl (false, 4, c_book_rules)), (c_book_line_a, .inl (false, 24, c_book_line')), (c_images_a, .inr (.inl (2, c_images))), (c_net_a, .inr (.inr (2, [.inl c_net_lineLength, .inl c_net_count, .inr (some c_net_places_a), .inr (some c_net_lengths_a), .inr (some c_net_kinds_a), .inr (some c_net_costs_a), .inr (some c_net_words_a), .inr (some c_net_firsts_a), .inr (some c_net_joins_a), .inr (some c_net_slots_a), .inr (some c_net_routes_a)]))), (c_net_places_a, .inl (false, 480, c_net_places)), (c_net_lengths_a, .inl (false, 480, c_net_lengths)), (c_net_kinds_a, .inl (false, 480, c_net_kinds)), (c_net_costs_a, .inl (false, 480, c_net_costs)), (c_net_words_a, .inl (false, 480, c_net_words)), (c_net_firsts_a, .inl (false, 25, c_net_firsts)), (c_net_joins_a, .inl (false, 25, c_net_joins)), (c_net_slots_a, .inl (false, 28, c_net_slots)), (c_net_routes_a, .inl (false, 25, c_net_routes)), (c_ranking_a, .inr (.inr (4, [.inr (some c_ranking_before_a), .inr (some c_ranking_counts_a), .inr (some c_ranking_kept_a), .inr (some c_ranking_followed_a)]))), (c_ranking_before_a, .inl (false, 125, c_ranking_before)), (c_ranking_counts_a, .inl (false, 125, c_ranking_counts)), (c_ranking_kept_a, .inl (false, 1500, c_ranking_kept)), (c_ranking_followed_a, .inl (false, 24, c_ranking_followed)), (c_writing_a, .inr (.inr (5, [.inr (some c_writing_signs_a), .inl c_writing_count]))), (c_writing_signs_a, .inl (false, 71, c_writing_signs))] ∧ (CI c_pad_count' c_book_dictionary_count c_book_dictionary_lengths c_book_dictionary_kinds c_book_dictionary_costs c_book_joins c_book_rules c_book_lineLength' c_net_lineLength c_net_count c_net_places c_net_lengths c_net_kinds c_net_costs c_net_firsts c_net_joins c_ranking_counts c_ranking_kept c_ranking_followed c_writing_count c_netStands' ∧ zLN c_pad_count c_pad_signs z c_pad_count' c_book_line c_book_lineLength c_book_line' c_book_lineLength')) := by
  refine zMi.of RX6 hE (by decide) rfl (by simp) (fun _ _ _ _ => rfl) ?_
  intro Z hP hav hwr B
  obtain ⟨l_c_netStands, u_c_netStands⟩ : zR c_netStands := zWr_at hwr (i := 0) rfl (.inl c_netStands) (by simp)
  obtain ⟨l_c_rankingStands, u_c_rankingStands⟩ : zR c_rankingStands := zWr_at hwr (i := 0) rfl (.inl c_rankingStands) (by simp)
  obtain ⟨l_c_pad_count, u_c_pad_count⟩ : zR c_pad_count := zWr_at hwr (i := 1) rfl (.inl c_pad_count) (by simp)
  obtain ⟨l_c_pad_letters, u_c_pad_letters⟩ : zR c_pad_letters := zWr_at hwr (i := 1) rfl (.inl c_pad_letters) (by simp)
  obtain ⟨l_c_pad_kind, u_c_pad_kind⟩ : zR c_pad_kind := zWr_at hwr (i := 1) rfl (.inl c_pad_kind) (by simp)
  obtain ⟨l_c_pad_cost, u_c_pad_cost⟩ : zR c_pad_cost := zWr_at hwr (i := 1) rfl (.inl c_pad_cost) (by simp)
  obtain ⟨l_c_book_lineLength, u_c_book_lineLength⟩ : zR c_book_lineLength := zWr_at hwr (i := 3) rfl (.inl c_book_lineLength) (by simp)
  obtain ⟨l_c_book_dictionary_count, u_c_book_dictionary_count⟩ : zR c_book_dictionary_count := zWr_at hwr (i := 4) rfl (.inl c_book_dictionary_count) (by simp)
  obtain ⟨l_c_net_lineLength, u_c_net_lineLength⟩ : zR c_net_lineLength := zWr_at hwr (i := 13) rfl (.inl c_net_lineLength) (by simp)
  obtain ⟨l_c_net_count, u_c_net_count⟩ : zR c_net_count := zWr_at hwr (i := 13) rfl (.inl c_net_count) (by simp)
  obtain ⟨l_c_writing_count, u_c_writing_count⟩ : zR c_writing_count := zWr_at hwr (i := 28) rfl (.inl c_writing_count) (by simp)
  obtain ⟨h1, h2, h3, h4, h5, h6, h7⟩ := id hP
  obtain ⟨h3a, h3b⟩ := id h3
  obtain ⟨h2a, h2b, h2c⟩ := id h2
  obtain ⟨h4a, h4b, h4c, h4d, h4e, h4f, h4g⟩ := id h4
  obtain ⟨h5a, h5b, h5c⟩ := id h5
  show Z 0 0 0 [some (.inr (some c_a))] [] _
  refine B.aload_n (pc := 0) (i := 0) dX6_line_0 rfl rfl ?_
  refine B.getfield (pc := 1) 0 rfl rfl inX6z 0 (by decide) fl_X6_10 rfl dX6_line_1 ?_
  refine B.callVi (pc := 4) 0 (mX3_readLine hE _ _ _ _ _ _ _) 1 rfl rfl ml_X6_63 im_X3_readLine se_X3_readLine it_X3 co_X3_readLine (by decide +kernel) rfl rfl rfl ⟨by decide, by decide⟩ ⟨by decide, by decide⟩ [1, 2] rfl rfl rfl (Nat.le_of_ble_eq_true rfl) dX6_line_4 (fun _ => by omega) (fun zk4 uk4 rzk4 ruk4 rak4 hqk4 => ?_)
  obtain ⟨lzk4, uzk4⟩ := rzk4
  obtain ⟨rfl, hk4⟩ := hqk4
  simp only [zput, List.set_cons_zero, List.set_cons_succ, List.append_nil, Nat.add_zero]
  refine B.bipush (pc := 7) dX6_line_7 ⟨by decide, by decide⟩ ?_
  refine B.icmp_eq (pc := 9) (tgt := 15) dX6_line_9 (by decide) (fun c9 => ?_) (fun c9 => ?_)
  · refine B.aload_n (pc := 15) (i := 0) dX6_line_15 rfl rfl ?_
    refine B.getfield (pc := 16) 0 rfl rfl inX6z 1 (by decide) fl_X6_19 rfl dX6_line_16 ?_
    refine B.aload_n (pc := 19) (i := 0) dX6_line_19 rfl rfl ?_
    refine B.getfield (pc := 20) 0 rfl rfl inX6z 0 (by decide) fl_X6_10 rfl dX6_line_20 ?_
    refine B.callVv (pc := 23) 1 (mX0_takeLine hE _ _ _ _ _ _ _ _ _ _ _ _ _ _ _ _ _ _ _ _ _ _ _ _ _) 3 rfl rfl ml_X6_91 im_X0_takeLine se_X0_takeLine it_X0 co_X0_takeLine (by decide +kernel) rfl rfl rfl ⟨by decide, by decide⟩ ⟨by decide, by decide⟩ [3, 4, 5, 6, 7, 8, 9, 10, 11, 1, 2] rfl rfl rfl (Nat.le_of_ble_eq_true rfl) dX6_line_23 (fun _ => by omega) (fun uk23 ruk23 rak23 hqk23 => ?_)
    obtain ⟨b_line_k23, b_lineLength_k23, rfl, hk23⟩ := hqk23
    simp only [zput, List.set_cons_zero, List.set_cons_succ, List.append_nil, Nat.add_zero]
    refine B.aload_n (pc := 26) (i := 0) dX6_line_26 rfl rfl ?_
    refine B.getfield (pc := 27) 0 rfl rfl inX6z 0 (by decide) fl_X6_10 rfl dX6_line_27 ?_
    refine B.callVv (pc := 30) 0 (mX3_clear hE _ _ _ _ _ _ _) 1 rfl rfl ml_X6_56 im_X3_clear se_X3_clear it_X3 co_X3_clear (by decide +kernel) rfl rfl rfl ⟨by decide, by decide⟩ ⟨by decide, by decide⟩ [1, 2] rfl rfl rfl (Nat.le_of_ble_eq_true rfl) dX6_line_30 (fun _ => trivial) (fun uk30 ruk30 rak30 hqk30 => ?_)
    obtain ⟨p_count_k30, rfl, hk30⟩ := hqk30
    simp only [zput, List.set_cons_zero, List.set_cons_succ, List.append_nil, Nat.add_zero]
    refine B.aload_n (pc := 33) (i := 0) dX6_line_33 rfl rfl ?_
    refine B.callVv (pc := 34) 0 (mX6_somethingChanged hE _ _ _ _ _ _ _ _ _ _ _ _ _ _ _ _ _ _ _ _ _ _ _ _ _ _ _ _ _ _ _ _ _ _ _ _ _ _ _ _ _ _ _ _ _ _ _ _ _ _ _ _ _ _ _ _ _ _ _ _ _ _ _ _) 0 rfl rfl ml_X6_76 im_X6_somethingChanged se_X6_somethingChanged it_X6 co_X6_somethingChanged (by decide +kernel) rfl rfl rfl ⟨by decide, by decide⟩ ⟨by decide, by decide⟩ [0, 1, 2, 3, 4, 5, 6, 7, 8, 9, 10, 11, 12, 13, 14, 15, 16, 17, 18, 19, 20, 21, 22, 23, 24, 25, 26, 27, 28, 29] rfl rfl rfl (Nat.le_of_ble_eq_true rfl) dX6_line_34 (fun _ => trivial) (fun uk34 ruk34 rak34 hqk34 => ?_)
    obtain ⟨c_netStands_k34, c_rankingStands_k34, rfl, hk34⟩ := hqk34
    simp only [zput, List.set_cons_zero, List.set_cons_succ, List.append_nil, Nat.add_zero]
    refine B.aload_n (pc := 37) (i := 0) dX6_line_37 rfl rfl ?_
    refine B.getfield (pc := 38) 0 rfl rfl inX6z 1 (by decide) fl_X6_19 rfl dX6_line_38 ?_
    refine B.getfield (pc := 41) 3 rfl rfl inX0z 4 (by decide) fl_X6_95 rfl dX6_line_41 ?_
    refine B.ireturn (pc := 44) (by simp) dX6_line_44 (Nat.le_refl _) (Nat.le_refl _) (fun rz rw => ⟨_, _, _, _, _, rfl, ?_⟩)
    obtain ⟨L, g1, g2⟩ := id hk4
    have gL := g1.2.1
    have gL0 := g1.1
    have e23 := hk23.2.2.1 (by omega)
    exact ⟨⟨by omega, h2, h3.len hk23.1 hk23.2.1, h4, h5, h6, fun q => absurd hk34.1 q⟩, _, hk4, Or.inr ⟨by omega, by omega, by omega, fun j hj => hk23.2.2.2 j (by omega), hk30⟩⟩
  · refine B.bipush (pc := 12) dX6_line_12 ⟨by decide, by decide⟩ ?_
    refine B.ireturn (pc := 14) (by simp) dX6_line_14 (Nat.le_refl _) (Nat.le_refl _) (fun rz rw => ⟨_, _, _, _, _, rfl, ?_⟩)
    exact ⟨hP, _, hk4, Or.inl ⟨by omega, rfl, rfl, rfl, rfl⟩⟩
set_option maxHeartbeats 4000000 in
set_option maxRecDepth 100000 in
theorem mX6_join {l : Launch} {D : va_G} {k : zK} {E : zE} (hE : zEok E) (c_a c_pad_a c_pad_signs_a c_book_a c_book_dictionary_a c_book_dictionary_letters_a c_book_dictionary_lengths_a c_book_dictionary_kinds_a c_book_dictionary_costs_a c_book_joins_a c_book_rules_a c_book_line_a c_images_a c_net_a c_net_places_a c_net_lengths_a c_net_kinds_a c_net_costs_a c_net_words_a c_net_firsts_a c_net_joins_a c_net_slots_a c_net_routes_a c_ranking_a c_ranking_before_a c_ranking_counts_a c_ranking_kept_a c_ranking_followed_a c_writing_a c_writing_signs_a : Nat) (c_pad_count c_pad_letters c_pad_kind c_pad_cost c_book_dictionary_count c_book_lineLength c_net_lineLength c_net_count c_writing_count c_netStands c_rankingStands one other cost : Int) (c_pad_signs c_book_dictionary_letters c_book_dictionary_lengths c_book_dictionary_kinds c_book_dictionary_costs c_book_joins c_book_rules c_book_line c_net_places c_net_lengths c_net_kinds c_net_costs c_net_words c_net_firsts c_net_joins c_net_slots c_net_routes c_ranking_before c_ranking_counts c_ranking_kept c_ranking_followed c_writing_signs : Nat → Int) (c_images : Nat → Option Nat) : zMi l D k E yX6_join cX6_join 6 .int { frames := 1, cells := 0, slots := 0, locals := 21 } 0 0 [.inr (some c_a), .inl one, .inl other, .inl cost] [(c_a, .inr (.inr (6, [.inr (some c_pad_a), .inr (some c_book_a), .inr (some c_images_a), .inr (some c_net_a), .inr (some c_ranking_a), .inr (some c_writing_a), .inl c_netStands, .inl c_rankingStands]))), (c_pad_a, .inr (.inr (3, [.inr (some c_pad_signs_a), .inl c_pad_count, .inl c_pad_letters, .inl c_pad_kind, .inl c_pad_cost]))), (c_pad_signs_a, .inl (false, 40, c_pad_signs)), (c_book_a, .inr (.inr (0, [.inr (some c_book_dictionary_a), .inr (some c_book_joins_a), .inr (some c_book_rules_a), .inr (some c_book_line_a), .inl c_book_lineLength]))), (c_book_dictionary_a, .inr (.inr (1, [.inr (some c_book_dictionary_letters_a), .inr (some c_book_dictionary_lengths_a), .inr (some c_book_dictionary_kinds_a), .inr (some c_book_dictionary_costs_a), .inl c_book_dictionary_count]))), (c_book_dictionary_letters_a, .inl (false, 96, c_book_dictionary_letters)), (c_book_dictionary_lengths_a, .inl (false, 16, c_book_dictionary_lengths)), (c_book_dictionary_kinds_a, .inl (false, 16, c_book_dictionary_kinds)), (c_book_dictionary_costs_a, .inl (false, 16, c_book_dictionary_costs)), (c_book_joins_a, .inl (false, 25, c_book_joins)), (c_book_rules_a, .inl (false, 4, c_book_rules)), (c_book_line_a, .inl (false, 24, c_book_line)), (c_images_a, .inr (.inl (2, c_images))), (c_net_a, .inr (.inr (2, [.inl c_net_lineLength, .inl c_net_count, .inr (some c_net_places_a), .inr (some c_net_lengths_a), .inr (some c_net_kinds_a), .inr (some c_net_costs_a), .inr (some c_net_words_a), .inr (some c_net_firsts_a), .inr (some c_net_joins_a), .inr (some c_net_slots_a), .inr (some c_net_routes_a)]))), (c_net_places_a, .inl (false, 480, c_net_places)), (c_net_lengths_a, .inl (false, 480, c_net_lengths)), (c_net_kinds_a, .inl (false, 480, c_net_kinds)), (c_net_costs_a, .inl (false, 480, c_net_costs)), (c_net_words_a, .inl (false, 480, c_net_words)), (c_net_firsts_a, .inl (false, 25, c_net_firsts)), (c_net_joins_a, .inl (false, 25, c_net_joins)), (c_net_slots_a, .inl (false, 28, c_net_slots)), (c_net_routes_a, .inl (false, 25, c_net_routes)), (c_ranking_a, .inr (.inr (4, [.inr (some c_ranking_before_a), .inr (some c_ranking_counts_a), .inr (some c_ranking_kept_a), .inr (some c_ranking_followed_a)]))), (c_ranking_before_a, .inl (false, 125, c_ranking_before)), (c_ranking_counts_a, .inl (false, 125, c_ranking_counts)), (c_ranking_kept_a, .inl (false, 1500, c_ranking_kept)), (c_ranking_followed_a, .inl (false, 24, c_ranking_followed)), (c_writing_a, .inr (.inr (5, [.inr (some c_writing_signs_a), .inl c_writing_count]))), (c_writing_signs_a, .inl (false, 71, c_writing_signs))] (CI c_pad_count c_book_dictionary_count c_book_dictionary_lengths c_book_dictionary_kinds c_book_dictionary_costs c_book_joins c_book_rules c_book_lineLength c_net_lineLength c_net_count c_net_places c_net_lengths c_net_kinds c_net_costs c_net_firsts c_net_joins c_ranking_counts c_ranking_kept c_ranking_followed c_writing_count c_netStands) (fun z u => ∃ (c_book_joins' : Nat → Int) (c_netStands' : Int) (c_rankingStands' : Int), u = [(c_a, .inr (.inr (6, [.inr (some c_pad_a), .inr (some c_book_a), .inr (some c_images_a), .inr (some c_net_a), .inr (some c_ranking_a), .inr (some c_writing_a), .inl c_netStands', .inl c_rankingStands']))), (c_pad_a, .inr (.inr (3, [.inr (some c_pad_signs_a), .inl c_pad_count, .inl c_pad_letters, .inl c_pad_kind, .inl c_pad_cost]))), (c_pad_signs_a, .inl (false, 40, c_pad_signs)), (c_book_a, .inr (.inr (0, [.inr (some c_book_dictionary_a), .inr (some c_book_joins_a), .inr (some c_book_rules_a), .inr (some c_book_line_a), .inl c_book_lineLength]))), (c_book_dictionary_a, .inr (.inr (1, [.inr (some c_book_dictionary_letters_a), .inr (some c_book_dictionary_lengths_a), .inr (some c_book_dictionary_kinds_a), .inr (some c_book_dictionary_costs_a), .inl c_book_dictionary_count]))), (c_book_dictionary_letters_a, .inl (false, 96, c_book_dictionary_letters)), (c_book_dictionary_lengths_a, .inl (false, 16, c_book_dictionary_lengths)), (c_book_dictionary_kinds_a, .inl (false, 16, c_book_dictionary_kinds)), (c_book_dictionary_costs_a, .inl (false, 16, c_book_dictionary_costs)), (c_book_joins_a, .inl (false, 25, c_book_joins')), (c_book_rules_a, .inl (false, 4, c_book_rules)), (c_book_line_a, .inl (false, 24, c_book_line)), (c_images_a, .inr (.inl (2, c_images))), (c_net_a, .inr (.inr (2, [.inl c_net_lineLength, .inl c_net_count, .inr (some c_net_places_a), .inr (some c_net_lengths_a), .inr (some c_net_kinds_a), .inr (some c_net_costs_a), .inr (some c_net_words_a), .inr (some c_net_firsts_a), .inr (some c_net_joins_a), .inr (some c_net_slots_a), .inr (some c_net_routes_a)]))), (c_net_places_a, .inl (false, 480, c_net_places)), (c_net_lengths_a, .inl (false, 480, c_net_lengths)), (c_net_kinds_a, .inl (false, 480, c_net_kinds)), (c_net_costs_a, .inl (false, 480, c_net_costs)), (c_net_words_a, .inl (false, 480, c_net_words)), (c_net_firsts_a, .inl (false, 25, c_net_firsts)), (c_net_joins_a, .inl (false, 25, c_net_joins)), (c_net_slots_a, .inl (false, 28, c_net_slots)), (c_net_routes_a, .inl (false, 25, c_net_routes)), (c_ranking_a, .inr (.inr (4, [.inr (some c_ranking_before_a), .inr (some c_ranking_counts_a), .inr (some c_ranking_kept_a), .inr (some c_ranking_followed_a)]))), (c_ranking_before_a, .inl (false, 125, c_ranking_before)), (c_ranking_counts_a, .inl (false, 125, c_ranking_counts)), (c_ranking_kept_a, .inl (false, 1500, c_ranking_kept)), (c_ranking_followed_a, .inl (false, 24, c_ranking_followed)), (c_writing_a, .inr (.inr (5, [.inr (some c_writing_signs_a), .inl c_writing_count]))), (c_writing_signs_a, .inl (false, 71, c_writing_signs))] ∧ (CI c_pad_count c_book_dictionary_count c_book_dictionary_lengths c_book_dictionary_kinds c_book_dictionary_costs c_book_joins' c_book_rules c_book_lineLength c_net_lineLength c_net_count c_net_places c_net_lengths c_net_kinds c_net_costs c_net_firsts c_net_joins c_ranking_counts c_ranking_kept c_ranking_followed c_writing_count c_netStands' ∧ JS one other cost z c_book_joins c_book_joins')) := by
  refine zMi.of RX6 hE (by decide) rfl (by simp) (fun _ _ _ _ => rfl) ?_
  intro Z hP hav hwr B
  obtain ⟨l_one, u_one⟩ : zR one := hav (.inl one) (by simp)
  obtain ⟨l_other, u_other⟩ : zR other := hav (.inl other) (by simp)
  obtain ⟨l_cost, u_cost⟩ : zR cost := hav (.inl cost) (by simp)
  obtain ⟨l_c_netStands, u_c_netStands⟩ : zR c_netStands := zWr_at hwr (i := 0) rfl (.inl c_netStands) (by simp)
  obtain ⟨l_c_rankingStands, u_c_rankingStands⟩ : zR c_rankingStands := zWr_at hwr (i := 0) rfl (.inl c_rankingStands) (by simp)
  obtain ⟨l_c_pad_count, u_c_pad_count⟩ : zR c_pad_count := zWr_at hwr (i := 1) rfl (.inl c_pad_count) (by simp)
  obtain ⟨l_c_pad_letters, u_c_pad_letters⟩ : zR c_pad_letters := zWr_at hwr (i := 1) rfl (.inl c_pad_letters) (by simp)
  obtain ⟨l_c_pad_kind, u_c_pad_kind⟩ : zR c_pad_kind := zWr_at hwr (i := 1) rfl (.inl c_pad_kind) (by simp)
  obtain ⟨l_c_pad_cost, u_c_pad_cost⟩ : zR c_pad_cost := zWr_at hwr (i := 1) rfl (.inl c_pad_cost) (by simp)
  obtain ⟨l_c_book_lineLength, u_c_book_lineLength⟩ : zR c_book_lineLength := zWr_at hwr (i := 3) rfl (.inl c_book_lineLength) (by simp)
  obtain ⟨l_c_book_dictionary_count, u_c_book_dictionary_count⟩ : zR c_book_dictionary_count := zWr_at hwr (i := 4) rfl (.inl c_book_dictionary_count) (by simp)
  obtain ⟨l_c_net_lineLength, u_c_net_lineLength⟩ : zR c_net_lineLength := zWr_at hwr (i := 13) rfl (.inl c_net_lineLength) (by simp)
  obtain ⟨l_c_net_count, u_c_net_count⟩ : zR c_net_count := zWr_at hwr (i := 13) rfl (.inl c_net_count) (by simp)
  obtain ⟨l_c_writing_count, u_c_writing_count⟩ : zR c_writing_count := zWr_at hwr (i := 28) rfl (.inl c_writing_count) (by simp)
  obtain ⟨h1, h2, h3, h4, h5, h6, h7⟩ := id hP
  obtain ⟨h3a, h3b⟩ := id h3
  obtain ⟨h2a, h2b, h2c⟩ := id h2
  obtain ⟨h4a, h4b, h4c, h4d, h4e, h4f, h4g⟩ := id h4
  obtain ⟨h5a, h5b, h5c⟩ := id h5
  show Z 0 0 0 [some (.inr (some c_a)), some (.inl one), some (.inl other), some (.inl cost), none, none] [] _
  refine B.iload_n (pc := 0) (i := 1) dX6_join_0 rfl rfl ?_
  refine B.iload_n (pc := 1) (i := 2) dX6_join_1 rfl rfl ?_
  refine B.callSi (pc := 2) 2 (mX6_isJoin hE _ _) ml_X6_98 sm_X6_isJoin it_X6 co_X6_isJoin (by decide +kernel) rfl rfl rfl ⟨by decide, by decide⟩ ⟨by decide, by decide⟩ [] rfl rfl rfl (Nat.le_of_ble_eq_true rfl) dX6_join_2 (fun _ => trivial) (fun zk2 uk2 rzk2 ruk2 rak2 hqk2 => ?_)
  obtain ⟨lzk2, uzk2⟩ := rzk2
  obtain ⟨rfl, hk2⟩ := hqk2
  simp only [zput, List.append_nil, Nat.add_zero]
  refine B.if_ne (pc := 5) (tgt := 10) dX6_join_5 (by decide) (fun c5 => ?_) (fun c5 => ?_)
  · refine B.iload_n (pc := 10) (i := 3) dX6_join_10 rfl rfl ?_
    refine B.if_lt (pc := 11) (tgt := 20) dX6_join_11 (by decide) (fun c11 => ?_) (fun c11 => ?_)
    · refine B.bipush (pc := 20) dX6_join_20 ⟨by decide, by decide⟩ ?_
      refine B.ireturn (pc := 22) (by simp) dX6_join_22 (Nat.le_refl _) (Nat.le_refl _) (fun rz rw => ⟨_, _, _, rfl, ?_⟩)
      exact ⟨hP, Or.inr (Or.inl ⟨by unfold JV; omega, by omega, rfl, rfl⟩)⟩
    · refine B.iload_n (pc := 14) (i := 3) dX6_join_14 rfl rfl ?_
      refine B.bipush (pc := 15) dX6_join_15 ⟨by decide, by decide⟩ ?_
      refine B.icmp_le (pc := 17) (tgt := 23) dX6_join_17 (by decide) (fun c17 => ?_) (fun c17 => ?_)
      · refine B.iload_n (pc := 23) (i := 1) dX6_join_23 rfl rfl ?_
        refine B.iconst (pc := 24) dX6_join_24 ⟨by decide, by decide⟩ ?_
        refine B.imul (pc := 25) dX6_join_25 ⟨by omega, by omega⟩ ?_
        refine B.iload_n (pc := 26) (i := 2) dX6_join_26 rfl rfl ?_
        refine B.iadd (pc := 27) dX6_join_27 ⟨by omega, by omega⟩ ?_
        refine B.istore (pc := 28) (i := 4) dX6_join_28 (by decide) ?_
        simp only [List.set_cons_zero, List.set_cons_succ]
        refine B.aload_n (pc := 30) (i := 0) dX6_join_30 rfl rfl ?_
        refine B.getfield (pc := 31) 0 rfl rfl inX6z 1 (by decide) fl_X6_19 rfl dX6_join_31 ?_
        refine B.getfield (pc := 34) 3 rfl rfl inX0z 1 (by decide) fl_X6_102 rfl dX6_join_34 ?_
        refine B.iload (pc := 37) dX6_join_37 rfl ?_
        refine B.iaload (pc := 39) 9 rfl (by omega) (by omega) dX6_join_39 (fun r39 => ?_)
        obtain ⟨lr39, ur39⟩ := r39
        refine B.istore (pc := 40) (i := 5) dX6_join_40 (by decide) ?_
        simp only [List.set_cons_zero, List.set_cons_succ]
        refine B.aload_n (pc := 42) (i := 0) dX6_join_42 rfl rfl ?_
        refine B.getfield (pc := 43) 0 rfl rfl inX6z 1 (by decide) fl_X6_19 rfl dX6_join_43 ?_
        refine B.getfield (pc := 46) 3 rfl rfl inX0z 1 (by decide) fl_X6_102 rfl dX6_join_46 ?_
        refine B.iload (pc := 49) dX6_join_49 rfl ?_
        refine B.iload_n (pc := 51) (i := 3) dX6_join_51 rfl rfl ?_
        refine B.iastore (pc := 52) 9 rfl (by omega) (by omega) dX6_join_52 ?_
        simp only [List.set_cons_zero, List.set_cons_succ]
        refine B.aload_n (pc := 53) (i := 0) dX6_join_53 rfl rfl ?_
        refine B.callVv (pc := 54) 0 (mX6_somethingChanged hE _ _ _ _ _ _ _ _ _ _ _ _ _ _ _ _ _ _ _ _ _ _ _ _ _ _ _ _ _ _ _ _ _ _ _ _ _ _ _ _ _ _ _ _ _ _ _ _ _ _ _ _ _ _ _ _ _ _ _ _ _ _ _ _) 0 rfl rfl ml_X6_76 im_X6_somethingChanged se_X6_somethingChanged it_X6 co_X6_somethingChanged (by decide +kernel) rfl rfl rfl ⟨by decide, by decide⟩ ⟨by decide, by decide⟩ [0, 1, 2, 3, 4, 5, 6, 7, 8, 9, 10, 11, 12, 13, 14, 15, 16, 17, 18, 19, 20, 21, 22, 23, 24, 25, 26, 27, 28, 29] rfl rfl rfl (Nat.le_of_ble_eq_true rfl) dX6_join_54 (fun _ => trivial) (fun uk54 ruk54 rak54 hqk54 => ?_)
        obtain ⟨c_netStands_k54, c_rankingStands_k54, rfl, hk54⟩ := hqk54
        simp only [zput, List.set_cons_zero, List.set_cons_succ, List.append_nil, Nat.add_zero]
        refine B.iload (pc := 57) dX6_join_57 rfl ?_
        refine B.ireturn (pc := 59) (by simp) dX6_join_59 (Nat.le_refl _) (Nat.le_refl _) (fun rz rw => ⟨_, _, _, rfl, ?_⟩)
        exact ⟨⟨h1, h2, h3.join _ (by omega), h4, h5, h6, fun q => absurd hk54.1 q⟩, Or.inr (Or.inr ⟨by unfold JV; omega, by omega, by omega, rfl, rfl⟩)⟩
      · refine B.bipush (pc := 20) dX6_join_20 ⟨by decide, by decide⟩ ?_
        refine B.ireturn (pc := 22) (by simp) dX6_join_22 (Nat.le_refl _) (Nat.le_refl _) (fun rz rw => ⟨_, _, _, rfl, ?_⟩)
        exact ⟨hP, Or.inr (Or.inl ⟨by unfold JV; omega, by omega, rfl, rfl⟩)⟩
  · refine B.iconst (pc := 8) dX6_join_8 ⟨by decide, by decide⟩ ?_
    refine B.ireturn (pc := 9) (by simp) dX6_join_9 (Nat.le_refl _) (Nat.le_refl _) (fun rz rw => ⟨_, _, _, rfl, ?_⟩)
    exact ⟨hP, Or.inl ⟨by unfold JV; omega, rfl, rfl⟩⟩
set_option maxHeartbeats 4000000 in
set_option maxRecDepth 100000 in
theorem mX6_makeNet {l : Launch} {D : va_G} {k : zK} {E : zE} (hE : zEok E) (c_a c_pad_a c_pad_signs_a c_book_a c_book_dictionary_a c_book_dictionary_letters_a c_book_dictionary_lengths_a c_book_dictionary_kinds_a c_book_dictionary_costs_a c_book_joins_a c_book_rules_a c_book_line_a c_images_a c_net_a c_net_places_a c_net_lengths_a c_net_kinds_a c_net_costs_a c_net_words_a c_net_firsts_a c_net_joins_a c_net_slots_a c_net_routes_a c_ranking_a c_ranking_before_a c_ranking_counts_a c_ranking_kept_a c_ranking_followed_a c_writing_a c_writing_signs_a : Nat) (c_pad_count c_pad_letters c_pad_kind c_pad_cost c_book_dictionary_count c_book_lineLength c_net_lineLength c_net_count c_writing_count c_netStands c_rankingStands : Int) (c_pad_signs c_book_dictionary_letters c_book_dictionary_lengths c_book_dictionary_kinds c_book_dictionary_costs c_book_joins c_book_rules c_book_line c_net_places c_net_lengths c_net_kinds c_net_costs c_net_words c_net_firsts c_net_joins c_net_slots c_net_routes c_ranking_before c_ranking_counts c_ranking_kept c_ranking_followed c_writing_signs : Nat → Int) (c_images : Nat → Option Nat) : zMv l D k E yX6_makeNet cX6_makeNet 1 { frames := 5, cells := 0, slots := 0, locals := 114 } 0 0 [.inr (some c_a)] [(c_a, .inr (.inr (6, [.inr (some c_pad_a), .inr (some c_book_a), .inr (some c_images_a), .inr (some c_net_a), .inr (some c_ranking_a), .inr (some c_writing_a), .inl c_netStands, .inl c_rankingStands]))), (c_pad_a, .inr (.inr (3, [.inr (some c_pad_signs_a), .inl c_pad_count, .inl c_pad_letters, .inl c_pad_kind, .inl c_pad_cost]))), (c_pad_signs_a, .inl (false, 40, c_pad_signs)), (c_book_a, .inr (.inr (0, [.inr (some c_book_dictionary_a), .inr (some c_book_joins_a), .inr (some c_book_rules_a), .inr (some c_book_line_a), .inl c_book_lineLength]))), (c_book_dictionary_a, .inr (.inr (1, [.inr (some c_book_dictionary_letters_a), .inr (some c_book_dictionary_lengths_a), .inr (some c_book_dictionary_kinds_a), .inr (some c_book_dictionary_costs_a), .inl c_book_dictionary_count]))), (c_book_dictionary_letters_a, .inl (false, 96, c_book_dictionary_letters)), (c_book_dictionary_lengths_a, .inl (false, 16, c_book_dictionary_lengths)), (c_book_dictionary_kinds_a, .inl (false, 16, c_book_dictionary_kinds)), (c_book_dictionary_costs_a, .inl (false, 16, c_book_dictionary_costs)), (c_book_joins_a, .inl (false, 25, c_book_joins)), (c_book_rules_a, .inl (false, 4, c_book_rules)), (c_book_line_a, .inl (false, 24, c_book_line)), (c_images_a, .inr (.inl (2, c_images))), (c_net_a, .inr (.inr (2, [.inl c_net_lineLength, .inl c_net_count, .inr (some c_net_places_a), .inr (some c_net_lengths_a), .inr (some c_net_kinds_a), .inr (some c_net_costs_a), .inr (some c_net_words_a), .inr (some c_net_firsts_a), .inr (some c_net_joins_a), .inr (some c_net_slots_a), .inr (some c_net_routes_a)]))), (c_net_places_a, .inl (false, 480, c_net_places)), (c_net_lengths_a, .inl (false, 480, c_net_lengths)), (c_net_kinds_a, .inl (false, 480, c_net_kinds)), (c_net_costs_a, .inl (false, 480, c_net_costs)), (c_net_words_a, .inl (false, 480, c_net_words)), (c_net_firsts_a, .inl (false, 25, c_net_firsts)), (c_net_joins_a, .inl (false, 25, c_net_joins)), (c_net_slots_a, .inl (false, 28, c_net_slots)), (c_net_routes_a, .inl (false, 25, c_net_routes)), (c_ranking_a, .inr (.inr (4, [.inr (some c_ranking_before_a), .inr (some c_ranking_counts_a), .inr (some c_ranking_kept_a), .inr (some c_ranking_followed_a)]))), (c_ranking_before_a, .inl (false, 125, c_ranking_before)), (c_ranking_counts_a, .inl (false, 125, c_ranking_counts)), (c_ranking_kept_a, .inl (false, 1500, c_ranking_kept)), (c_ranking_followed_a, .inl (false, 24, c_ranking_followed)), (c_writing_a, .inr (.inr (5, [.inr (some c_writing_signs_a), .inl c_writing_count]))), (c_writing_signs_a, .inl (false, 71, c_writing_signs))] (CI c_pad_count c_book_dictionary_count c_book_dictionary_lengths c_book_dictionary_kinds c_book_dictionary_costs c_book_joins c_book_rules c_book_lineLength c_net_lineLength c_net_count c_net_places c_net_lengths c_net_kinds c_net_costs c_net_firsts c_net_joins c_ranking_counts c_ranking_kept c_ranking_followed c_writing_count c_netStands) (fun z u => ∃ (c_net_lineLength' : Int) (c_net_count' : Int) (c_net_places' : Nat → Int) (c_net_lengths' : Nat → Int) (c_net_kinds' : Nat → Int) (c_net_costs' : Nat → Int) (c_net_words' : Nat → Int) (c_net_firsts' : Nat → Int) (c_net_joins' : Nat → Int) (c_net_slots' : Nat → Int) (c_netStands' : Int), u = [(c_a, .inr (.inr (6, [.inr (some c_pad_a), .inr (some c_book_a), .inr (some c_images_a), .inr (some c_net_a), .inr (some c_ranking_a), .inr (some c_writing_a), .inl c_netStands', .inl c_rankingStands]))), (c_pad_a, .inr (.inr (3, [.inr (some c_pad_signs_a), .inl c_pad_count, .inl c_pad_letters, .inl c_pad_kind, .inl c_pad_cost]))), (c_pad_signs_a, .inl (false, 40, c_pad_signs)), (c_book_a, .inr (.inr (0, [.inr (some c_book_dictionary_a), .inr (some c_book_joins_a), .inr (some c_book_rules_a), .inr (some c_book_line_a), .inl c_book_lineLength]))), (c_book_dictionary_a, .inr (.inr (1, [.inr (some c_book_dictionary_letters_a), .inr (some c_book_dictionary_lengths_a), .inr (some c_book_dictionary_kinds_a), .inr (some c_book_dictionary_costs_a), .inl c_book_dictionary_count]))), (c_book_dictionary_letters_a, .inl (false, 96, c_book_dictionary_letters)), (c_book_dictionary_lengths_a, .inl (false, 16, c_book_dictionary_lengths)), (c_book_dictionary_kinds_a, .inl (false, 16, c_book_dictionary_kinds)), (c_book_dictionary_costs_a, .inl (false, 16, c_book_dictionary_costs)), (c_book_joins_a, .inl (false, 25, c_book_joins)), (c_book_rules_a, .inl (false, 4, c_book_rules)), (c_book_line_a, .inl (false, 24, c_book_line)), (c_images_a, .inr (.inl (2, c_images))), (c_net_a, .inr (.inr (2, [.inl c_net_lineLength', .inl c_net_count', .inr (some c_net_places_a), .inr (some c_net_lengths_a), .inr (some c_net_kinds_a), .inr (some c_net_costs_a), .inr (some c_net_words_a), .inr (some c_net_firsts_a), .inr (some c_net_joins_a), .inr (some c_net_slots_a), .inr (some c_net_routes_a)]))), (c_net_places_a, .inl (false, 480, c_net_places')), (c_net_lengths_a, .inl (false, 480, c_net_lengths')), (c_net_kinds_a, .inl (false, 480, c_net_kinds')), (c_net_costs_a, .inl (false, 480, c_net_costs')), (c_net_words_a, .inl (false, 480, c_net_words')), (c_net_firsts_a, .inl (false, 25, c_net_firsts')), (c_net_joins_a, .inl (false, 25, c_net_joins')), (c_net_slots_a, .inl (false, 28, c_net_slots')), (c_net_routes_a, .inl (false, 25, c_net_routes)), (c_ranking_a, .inr (.inr (4, [.inr (some c_ranking_before_a), .inr (some c_ranking_counts_a), .inr (some c_ranking_kept_a), .inr (some c_ranking_followed_a)]))), (c_ranking_before_a, .inl (false, 125, c_ranking_before)), (c_ranking_counts_a, .inl (false, 125, c_ranking_counts)), (c_ranking_kept_a, .inl (false, 1500, c_ranking_kept)), (c_ranking_followed_a, .inl (false, 24, c_ranking_followed)), (c_writing_a, .inr (.inr (5, [.inr (some c_writing_signs_a), .inl c_writing_count]))), (c_writing_signs_a, .inl (false, 71, c_writing_signs))] ∧ (CI c_pad_count c_book_dictionary_count c_book_dictionary_lengths c_book_dictionary_kinds c_book_dictionary_costs c_book_joins c_book_rules c_book_lineLength c_net_lineLength' c_net_count' c_net_places' c_net_lengths' c_net_kinds' c_net_costs' c_net_firsts' c_net_joins' c_ranking_counts c_ranking_kept c_ranking_followed c_writing_count c_netStands' ∧ c_netStands' ≠ 0)) := by
  refine zMv.of RX6 hE (by decide) rfl (by simp) ?_
  intro Z hP hav hwr B
  obtain ⟨l_c_netStands, u_c_netStands⟩ : zR c_netStands := zWr_at hwr (i := 0) rfl (.inl c_netStands) (by simp)
  obtain ⟨l_c_rankingStands, u_c_rankingStands⟩ : zR c_rankingStands := zWr_at hwr (i := 0) rfl (.inl c_rankingStands) (by simp)
  obtain ⟨l_c_pad_count, u_c_pad_count⟩ : zR c_pad_count := zWr_at hwr (i := 1) rfl (.inl c_pad_count) (by simp)
  obtain ⟨l_c_pad_letters, u_c_pad_letters⟩ : zR c_pad_letters := zWr_at hwr (i := 1) rfl (.inl c_pad_letters) (by simp)
  obtain ⟨l_c_pad_kind, u_c_pad_kind⟩ : zR c_pad_kind := zWr_at hwr (i := 1) rfl (.inl c_pad_kind) (by simp)
  obtain ⟨l_c_pad_cost, u_c_pad_cost⟩ : zR c_pad_cost := zWr_at hwr (i := 1) rfl (.inl c_pad_cost) (by simp)
  obtain ⟨l_c_book_lineLength, u_c_book_lineLength⟩ : zR c_book_lineLength := zWr_at hwr (i := 3) rfl (.inl c_book_lineLength) (by simp)
  obtain ⟨l_c_book_dictionary_count, u_c_book_dictionary_count⟩ : zR c_book_dictionary_count := zWr_at hwr (i := 4) rfl (.inl c_book_dictionary_count) (by simp)
  obtain ⟨l_c_net_lineLength, u_c_net_lineLength⟩ : zR c_net_lineLength := zWr_at hwr (i := 13) rfl (.inl c_net_lineLength) (by simp)
  obtain ⟨l_c_net_count, u_c_net_count⟩ : zR c_net_count := zWr_at hwr (i := 13) rfl (.inl c_net_count) (by simp)
  obtain ⟨l_c_writing_count, u_c_writing_count⟩ : zR c_writing_count := zWr_at hwr (i := 28) rfl (.inl c_writing_count) (by simp)
  obtain ⟨h1, h2, h3, h4, h5, h6, h7⟩ := id hP
  obtain ⟨h3a, h3b⟩ := id h3
  obtain ⟨h2a, h2b, h2c⟩ := id h2
  obtain ⟨h4a, h4b, h4c, h4d, h4e, h4f, h4g⟩ := id h4
  obtain ⟨h5a, h5b, h5c⟩ := id h5
  show Z 0 0 0 [some (.inr (some c_a))] [] _
  refine B.aload_n (pc := 0) (i := 0) dX6_makeNet_0 rfl rfl ?_
  refine B.getfield (pc := 1) 0 rfl rfl inX6z 6 (by decide) fl_X6_176 rfl dX6_makeNet_1 ?_
  refine B.if_ne (pc := 4) (tgt := 23) dX6_makeNet_4 (by decide) (fun c4 => ?_) (fun c4 => ?_)
  · refine B.vreturn (pc := 23) rfl dX6_makeNet_23 (Nat.le_refl _) (Nat.le_refl _) (fun rw => ⟨_, _, _, _, _, _, _, _, _, _, _, rfl, ?_⟩)
    first | exact ⟨hP, c4⟩ | exact ⟨⟨h1, h2, h3, ⟨hk15.1, hk15.2.1, hk15.2.2.1, hk15.2.2.2.2.2.1, hk15.2.2.2.2.2.2, by omega, by omega⟩, h5, h6, fun _ => ⟨hk15.2.2.2.1, hk15.2.2.2.2.1⟩⟩, by decide⟩
  · refine B.aload_n (pc := 7) (i := 0) dX6_makeNet_7 rfl rfl ?_
    refine B.getfield (pc := 8) 0 rfl rfl inX6z 3 (by decide) fl_X6_30 rfl dX6_makeNet_8 ?_
    refine B.aload_n (pc := 11) (i := 0) dX6_makeNet_11 rfl rfl ?_
    refine B.getfield (pc := 12) 0 rfl rfl inX6z 1 (by decide) fl_X6_19 rfl dX6_makeNet_12 ?_
    refine B.callVv (pc := 15) 1 (mX2_make hE _ _ _ _ _ _ _ _ _ _ _ _ _ _ _ _ _ _ _ _ _ _ _ _ _ _ _ _ _ _ _ _ _ _ _ _ _ _ _) 13 rfl rfl ml_X6_183 im_X2_make se_X2_make it_X2 co_X2_make (by decide +kernel) rfl rfl rfl ⟨by decide, by decide⟩ ⟨by decide, by decide⟩ [13, 14, 15, 16, 17, 18, 19, 20, 21, 22, 3, 4, 5, 6, 7, 8, 9, 10, 11] rfl rfl rfl (Nat.le_of_ble_eq_true rfl) dX6_makeNet_15 (fun _ => ⟨h2, h3, h4a, h4b⟩) (fun uk15 ruk15 rak15 hqk15 => ?_)
    obtain ⟨n_lineLength_k15, n_count_k15, n_places_k15, n_lengths_k15, n_kinds_k15, n_costs_k15, n_words_k15, n_firsts_k15, n_joins_k15, n_slots_k15, rfl, hk15⟩ := hqk15
    simp only [zput, List.set_cons_zero, List.set_cons_succ, List.append_nil, Nat.add_zero]
    refine B.aload_n (pc := 18) (i := 0) dX6_makeNet_18 rfl rfl ?_
    refine B.iconst (pc := 19) dX6_makeNet_19 ⟨by decide, by decide⟩ ?_
    refine B.putfield (pc := 20) 0 rfl rfl inX6z tyX6 tyX6_ok nmX6 6 (by decide) fl_X6_176 rfl (by decide) (by decide) (Nat.le_of_ble_eq_true rfl) dX6_makeNet_20 ?_
    simp only [List.set_cons_zero, List.set_cons_succ]
    refine B.vreturn (pc := 23) rfl dX6_makeNet_23 (Nat.le_refl _) (Nat.le_refl _) (fun rw => ⟨_, _, _, _, _, _, _, _, _, _, _, rfl, ?_⟩)
    first | exact ⟨hP, c4⟩ | exact ⟨⟨h1, h2, h3, ⟨hk15.1, hk15.2.1, hk15.2.2.1, hk15.2.2.2.2.2.1, hk15.2.2.2.2.2.2, by omega, by omega⟩, h5, h6, fun _ => ⟨hk15.2.2.2.1, hk15.2.2.2.2.1⟩⟩, by decide⟩
set_option maxHeartbeats 4000000 in
set_option maxRecDepth 100000 in
theorem mX6_makeRanking {l : Launch} {D : va_G} {k : zK} {E : zE} (hE : zEok E) (c_a c_pad_a c_pad_signs_a c_book_a c_book_dictionary_a c_book_dictionary_letters_a c_book_dictionary_lengths_a c_book_dictionary_kinds_a c_book_dictionary_costs_a c_book_joins_a c_book_rules_a c_book_line_a c_images_a c_net_a c_net_places_a c_net_lengths_a c_net_kinds_a c_net_costs_a c_net_words_a c_net_firsts_a c_net_joins_a c_net_slots_a c_net_routes_a c_ranking_a c_ranking_before_a c_ranking_counts_a c_ranking_kept_a c_ranking_followed_a c_writing_a c_writing_signs_a : Nat) (c_pad_count c_pad_letters c_pad_kind c_pad_cost c_book_dictionary_count c_book_lineLength c_net_lineLength c_net_count c_writing_count c_netStands c_rankingStands : Int) (c_pad_signs c_book_dictionary_letters c_book_dictionary_lengths c_book_dictionary_kinds c_book_dictionary_costs c_book_joins c_book_rules c_book_line c_net_places c_net_lengths c_net_kinds c_net_costs c_net_words c_net_firsts c_net_joins c_net_slots c_net_routes c_ranking_before c_ranking_counts c_ranking_kept c_ranking_followed c_writing_signs : Nat → Int) (c_images : Nat → Option Nat) : zMv l D k E yX6_makeRanking cX6_makeRanking 1 { frames := 6, cells := 0, slots := 0, locals := 134 } 0 0 [.inr (some c_a)] [(c_a, .inr (.inr (6, [.inr (some c_pad_a), .inr (some c_book_a), .inr (some c_images_a), .inr (some c_net_a), .inr (some c_ranking_a), .inr (some c_writing_a), .inl c_netStands, .inl c_rankingStands]))), (c_pad_a, .inr (.inr (3, [.inr (some c_pad_signs_a), .inl c_pad_count, .inl c_pad_letters, .inl c_pad_kind, .inl c_pad_cost]))), (c_pad_signs_a, .inl (false, 40, c_pad_signs)), (c_book_a, .inr (.inr (0, [.inr (some c_book_dictionary_a), .inr (some c_book_joins_a), .inr (some c_book_rules_a), .inr (some c_book_line_a), .inl c_book_lineLength]))), (c_book_dictionary_a, .inr (.inr (1, [.inr (some c_book_dictionary_letters_a), .inr (some c_book_dictionary_lengths_a), .inr (some c_book_dictionary_kinds_a), .inr (some c_book_dictionary_costs_a), .inl c_book_dictionary_count]))), (c_book_dictionary_letters_a, .inl (false, 96, c_book_dictionary_letters)), (c_book_dictionary_lengths_a, .inl (false, 16, c_book_dictionary_lengths)), (c_book_dictionary_kinds_a, .inl (false, 16, c_book_dictionary_kinds)), (c_book_dictionary_costs_a, .inl (false, 16, c_book_dictionary_costs)), (c_book_joins_a, .inl (false, 25, c_book_joins)), (c_book_rules_a, .inl (false, 4, c_book_rules)), (c_book_line_a, .inl (false, 24, c_book_line)), (c_images_a, .inr (.inl (2, c_images))), (c_net_a, .inr (.inr (2, [.inl c_net_lineLength, .inl c_net_count, .inr (some c_net_places_a), .inr (some c_net_lengths_a), .inr (some c_net_kinds_a), .inr (some c_net_costs_a), .inr (some c_net_words_a), .inr (some c_net_firsts_a), .inr (some c_net_joins_a), .inr (some c_net_slots_a), .inr (some c_net_routes_a)]))), (c_net_places_a, .inl (false, 480, c_net_places)), (c_net_lengths_a, .inl (false, 480, c_net_lengths)), (c_net_kinds_a, .inl (false, 480, c_net_kinds)), (c_net_costs_a, .inl (false, 480, c_net_costs)), (c_net_words_a, .inl (false, 480, c_net_words)), (c_net_firsts_a, .inl (false, 25, c_net_firsts)), (c_net_joins_a, .inl (false, 25, c_net_joins)), (c_net_slots_a, .inl (false, 28, c_net_slots)), (c_net_routes_a, .inl (false, 25, c_net_routes)), (c_ranking_a, .inr (.inr (4, [.inr (some c_ranking_before_a), .inr (some c_ranking_counts_a), .inr (some c_ranking_kept_a), .inr (some c_ranking_followed_a)]))), (c_ranking_before_a, .inl (false, 125, c_ranking_before)), (c_ranking_counts_a, .inl (false, 125, c_ranking_counts)), (c_ranking_kept_a, .inl (false, 1500, c_ranking_kept)), (c_ranking_followed_a, .inl (false, 24, c_ranking_followed)), (c_writing_a, .inr (.inr (5, [.inr (some c_writing_signs_a), .inl c_writing_count]))), (c_writing_signs_a, .inl (false, 71, c_writing_signs))] (CI c_pad_count c_book_dictionary_count c_book_dictionary_lengths c_book_dictionary_kinds c_book_dictionary_costs c_book_joins c_book_rules c_book_lineLength c_net_lineLength c_net_count c_net_places c_net_lengths c_net_kinds c_net_costs c_net_firsts c_net_joins c_ranking_counts c_ranking_kept c_ranking_followed c_writing_count c_netStands ∧ 1 ≤ c_book_lineLength) (fun z u => ∃ (c_net_lineLength' : Int) (c_net_count' : Int) (c_net_places' : Nat → Int) (c_net_lengths' : Nat → Int) (c_net_kinds' : Nat → Int) (c_net_costs' : Nat → Int) (c_net_words' : Nat → Int) (c_net_firsts' : Nat → Int) (c_net_joins' : Nat → Int) (c_net_slots' : Nat → Int) (c_netStands' : Int) (c_rankingStands' : Int) (c_ranking_before' : Nat → Int) (c_ranking_counts' : Nat → Int) (c_ranking_kept' : Nat → Int), u = [(c_a, .inr (.inr (6, [.inr (some c_pad_a), .inr (some c_book_a), .inr (some c_images_a), .inr (some c_net_a), .inr (some c_ranking_a), .inr (some c_writing_a), .inl c_netStands', .inl c_rankingStands']))), (c_pad_a, .inr (.inr (3, [.inr (some c_pad_signs_a), .inl c_pad_count, .inl c_pad_letters, .inl c_pad_kind, .inl c_pad_cost]))), (c_pad_signs_a, .inl (false, 40, c_pad_signs)), (c_book_a, .inr (.inr (0, [.inr (some c_book_dictionary_a), .inr (some c_book_joins_a), .inr (some c_book_rules_a), .inr (some c_book_line_a), .inl c_book_lineLength]))), (c_book_dictionary_a, .inr (.inr (1, [.inr (some c_book_dictionary_letters_a), .inr (some c_book_dictionary_lengths_a), .inr (some c_book_dictionary_kinds_a), .inr (some c_book_dictionary_costs_a), .inl c_book_dictionary_count]))), (c_book_dictionary_letters_a, .inl (false, 96, c_book_dictionary_letters)), (c_book_dictionary_lengths_a, .inl (false, 16, c_book_dictionary_lengths)), (c_book_dictionary_kinds_a, .inl (false, 16, c_book_dictionary_kinds)), (c_book_dictionary_costs_a, .inl (false, 16, c_book_dictionary_costs)), (c_book_joins_a, .inl (false, 25, c_book_joins)), (c_book_rules_a, .inl (false, 4, c_book_rules)), (c_book_line_a, .inl (false, 24, c_book_line)), (c_images_a, .inr (.inl (2, c_images))), (c_net_a, .inr (.inr (2, [.inl c_net_lineLength', .inl c_net_count', .inr (some c_net_places_a), .inr (some c_net_lengths_a), .inr (some c_net_kinds_a), .inr (some c_net_costs_a), .inr (some c_net_words_a), .inr (some c_net_firsts_a), .inr (some c_net_joins_a), .inr (some c_net_slots_a), .inr (some c_net_routes_a)]))), (c_net_places_a, .inl (false, 480, c_net_places')), (c_net_lengths_a, .inl (false, 480, c_net_lengths')), (c_net_kinds_a, .inl (false, 480, c_net_kinds')), (c_net_costs_a, .inl (false, 480, c_net_costs')), (c_net_words_a, .inl (false, 480, c_net_words')), (c_net_firsts_a, .inl (false, 25, c_net_firsts')), (c_net_joins_a, .inl (false, 25, c_net_joins')), (c_net_slots_a, .inl (false, 28, c_net_slots')), (c_net_routes_a, .inl (false, 25, c_net_routes)), (c_ranking_a, .inr (.inr (4, [.inr (some c_ranking_before_a), .inr (some c_ranking_counts_a), .inr (some c_ranking_kept_a), .inr (some c_ranking_followed_a)]))), (c_ranking_before_a, .inl (false, 125, c_ranking_before')), (c_ranking_counts_a, .inl (false, 125, c_ranking_counts')), (c_ranking_kept_a, .inl (false, 1500, c_ranking_kept')), (c_ranking_followed_a, .inl (false, 24, c_ranking_followed)), (c_writing_a, .inr (.inr (5, [.inr (some c_writing_signs_a), .inl c_writing_count]))), (c_writing_signs_a, .inl (false, 71, c_writing_signs))] ∧ (CI c_pad_count c_book_dictionary_count c_book_dictionary_lengths c_book_dictionary_kinds c_book_dictionary_costs c_book_joins c_book_rules c_book_lineLength c_net_lineLength' c_net_count' c_net_places' c_net_lengths' c_net_kinds' c_net_costs' c_net_firsts' c_net_joins' c_ranking_counts' c_ranking_kept' c_ranking_followed c_writing_count c_netStands' ∧ c_netStands' ≠ 0)) := by
  refine zMv.of RX6 hE (by decide) rfl (by simp) ?_
  intro Z hP hav hwr B
  obtain ⟨l_c_netStands, u_c_netStands⟩ : zR c_netStands := zWr_at hwr (i := 0) rfl (.inl c_netStands) (by simp)
  obtain ⟨l_c_rankingStands, u_c_rankingStands⟩ : zR c_rankingStands := zWr_at hwr (i := 0) rfl (.inl c_rankingStands) (by simp)
  obtain ⟨l_c_pad_count, u_c_pad_count⟩ : zR c_pad_count := zWr_at hwr (i := 1) rfl (.inl c_pad_count) (by simp)
  obtain ⟨l_c_pad_letters, u_c_pad_letters⟩ : zR c_pad_letters := zWr_at hwr (i := 1) rfl (.inl c_pad_letters) (by simp)
  obtain ⟨l_c_pad_kind, u_c_pad_kind⟩ : zR c_pad_kind := zWr_at hwr (i := 1) rfl (.inl c_pad_kind) (by simp)
  obtain ⟨l_c_pad_cost, u_c_pad_cost⟩ : zR c_pad_cost := zWr_at hwr (i := 1) rfl (.inl c_pad_cost) (by simp)
  obtain ⟨l_c_book_lineLength, u_c_book_lineLength⟩ : zR c_book_lineLength := zWr_at hwr (i := 3) rfl (.inl c_book_lineLength) (by simp)
  obtain ⟨l_c_book_dictionary_count, u_c_book_dictionary_count⟩ : zR c_book_dictionary_count := zWr_at hwr (i := 4) rfl (.inl c_book_dictionary_count) (by simp)
  obtain ⟨l_c_net_lineLength, u_c_net_lineLength⟩ : zR c_net_lineLength := zWr_at hwr (i := 13) rfl (.inl c_net_lineLength) (by simp)
  obtain ⟨l_c_net_count, u_c_net_count⟩ : zR c_net_count := zWr_at hwr (i := 13) rfl (.inl c_net_count) (by simp)
  obtain ⟨l_c_writing_count, u_c_writing_count⟩ : zR c_writing_count := zWr_at hwr (i := 28) rfl (.inl c_writing_count) (by simp)
  obtain ⟨hP, hL⟩ := hP
  obtain ⟨h1, h2, h3, h4, h5, h6, h7⟩ := id hP
  obtain ⟨h3a, h3b⟩ := id h3
  obtain ⟨h2a, h2b, h2c⟩ := id h2
  obtain ⟨h4a, h4b, h4c, h4d, h4e, h4f, h4g⟩ := id h4
  obtain ⟨h5a, h5b, h5c⟩ := id h5
  show Z 0 0 0 [some (.inr (some c_a))] [] _
  refine B.aload_n (pc := 0) (i := 0) dX6_makeRanking_0 rfl rfl ?_
  refine B.callVv (pc := 1) 0 (mX6_makeNet hE _ _ _ _ _ _ _ _ _ _ _ _ _ _ _ _ _ _ _ _ _ _ _ _ _ _ _ _ _ _ _ _ _ _ _ _ _ _ _ _ _ _ _ _ _ _ _ _ _ _ _ _ _ _ _ _ _ _ _ _ _ _ _ _) 0 rfl rfl ml_X6_116 im_X6_makeNet se_X6_makeNet it_X6 co_X6_makeNet (by decide +kernel) rfl rfl rfl ⟨by decide, by decide⟩ ⟨by decide, by decide⟩ [0, 1, 2, 3, 4, 5, 6, 7, 8, 9, 10, 11, 12, 13, 14, 15, 16, 17, 18, 19, 20, 21, 22, 23, 24, 25, 26, 27, 28, 29] rfl rfl rfl (Nat.le_of_ble_eq_true rfl) dX6_makeRanking_1 (fun _ => hP) (fun uk1 ruk1 rak1 hqk1 => ?_)
  obtain ⟨c_net_lineLength_k1, c_net_count_k1, c_net_places_k1, c_net_lengths_k1, c_net_kinds_k1, c_net_costs_k1, c_net_words_k1, c_net_firsts_k1, c_net_joins_k1, c_net_slots_k1, c_netStands_k1, rfl, hk1⟩ := hqk1
  simp only [zput, List.set_cons_zero, List.set_cons_succ, List.append_nil, Nat.add_zero]
  obtain ⟨hC, hns⟩ := hk1
  obtain ⟨g1, g2, g3, g4, g5, g6, g7⟩ := id hC
  obtain ⟨g4a, g4b, g4c, g4d, g4e, g4f, g4g⟩ := id g4
  obtain ⟨g7a, g7b⟩ := g7 hns
  refine B.aload_n (pc := 4) (i := 0) dX6_makeRanking_4 rfl rfl ?_
  refine B.getfield (pc := 5) 0 rfl rfl inX6z 7 (by decide) fl_X6_180 rfl dX6_makeRanking_5 ?_
  refine B.if_ne (pc := 8) (tgt := 27) dX6_makeRanking_8 (by decide) (fun c8 => ?_) (fun c8 => ?_)
  · refine B.vreturn (pc := 27) rfl dX6_makeRanking_27 (Nat.le_refl _) (Nat.le_refl _) (fun rw => ⟨_, _, _, _, _, _, _, _, _, _, _, _, _, _, _, rfl, ?_⟩)
    first | exact ⟨hC, hns⟩ | exact ⟨⟨g1, g2, g3, g4, ⟨hk19.1, hk19.2, g5.2.2⟩, g6, g7⟩, hns⟩
  · refine B.aload_n (pc := 11) (i := 0) dX6_makeRanking_11 rfl rfl ?_
    refine B.getfield (pc := 12) 0 rfl rfl inX6z 4 (by decide) fl_X6_37 rfl dX6_makeRanking_12 ?_
    refine B.aload_n (pc := 15) (i := 0) dX6_makeRanking_15 rfl rfl ?_
    refine B.getfield (pc := 16) 0 rfl rfl inX6z 3 (by decide) fl_X6_30 rfl dX6_makeRanking_16 ?_
    refine B.callVv (pc := 19) 1 (mX4_make hE _ _ _ _ _ _ _ _ _ _ _ _ _ _ _ _ _ _ _ _ _ _ _ _ _ _ _ _ _ _) 23 rfl rfl ml_X6_186 im_X4_make se_X4_make it_X4 co_X4_make (by decide +kernel) rfl rfl rfl ⟨by decide, by decide⟩ ⟨by decide, by decide⟩ [23, 24, 25, 26, 27, 13, 14, 15, 16, 17, 18, 19, 20, 21, 22] rfl rfl rfl (Nat.le_of_ble_eq_true rfl) dX6_makeRanking_19 (fun _ => ⟨g4a, g4b, g4c, g7a, g4d, g4e, by omega, g4g, g5.1, g5.2.1⟩) (fun uk19 ruk19 rak19 hqk19 => ?_)
    obtain ⟨k_before_k19, k_counts_k19, k_kept_k19, rfl, hk19⟩ := hqk19
    simp only [zput, List.set_cons_zero, List.set_cons_succ, List.append_nil, Nat.add_zero]
    refine B.aload_n (pc := 22) (i := 0) dX6_makeRanking_22 rfl rfl ?_
    refine B.iconst (pc := 23) dX6_makeRanking_23 ⟨by decide, by decide⟩ ?_
    refine B.putfield (pc := 24) 0 rfl rfl inX6z tyX6 tyX6_ok nmX6 7 (by decide) fl_X6_180 rfl (by decide) (by decide) (Nat.le_of_ble_eq_true rfl) dX6_makeRanking_24 ?_
    simp only [List.set_cons_zero, List.set_cons_succ]
    refine B.vreturn (pc := 27) rfl dX6_makeRanking_27 (Nat.le_refl _) (Nat.le_refl _) (fun rw => ⟨_, _, _, _, _, _, _, _, _, _, _, _, _, _, _, rfl, ?_⟩)
    first | exact ⟨hC, hns⟩ | exact ⟨⟨g1, g2, g3, g4, ⟨hk19.1, hk19.2, g5.2.2⟩, g6, g7⟩, hns⟩
set_option maxHeartbeats 4000000 in
set_option maxRecDepth 100000 in
theorem mX6_pieces {l : Launch} {D : va_G} {k : zK} {E : zE} (hE : zEok E) (c_a c_pad_a c_pad_signs_a c_book_a c_book_dictionary_a c_book_dictionary_letters_a c_book_dictionary_lengths_a c_book_dictionary_kinds_a c_book_dictionary_costs_a c_book_joins_a c_book_rules_a c_book_line_a c_images_a c_net_a c_net_places_a c_net_lengths_a c_net_kinds_a c_net_costs_a c_net_words_a c_net_firsts_a c_net_joins_a c_net_slots_a c_net_routes_a c_ranking_a c_ranking_before_a c_ranking_counts_a c_ranking_kept_a c_ranking_followed_a c_writing_a c_writing_signs_a : Nat) (c_pad_count c_pad_letters c_pad_kind c_pad_cost c_book_dictionary_count c_book_lineLength c_net_lineLength c_net_count c_writing_count c_netStands c_rankingStands : Int) (c_pad_signs c_book_dictionary_letters c_book_dictionary_lengths c_book_dictionary_kinds c_book_dictionary_costs c_book_joins c_book_rules c_book_line c_net_places c_net_lengths c_net_kinds c_net_costs c_net_words c_net_firsts c_net_joins c_net_slots c_net_routes c_ranking_before c_ranking_counts c_ranking_kept c_ranking_followed c_writing_signs : Nat → Int) (c_images : Nat → Option Nat) : zMi l D k E yX6_pieces cX6_pieces 1 .int { frames := 6, cells := 0, slots := 0, locals := 134 } 0 0 [.inr (some c_a)] [(c_a, .inr (.inr (6, [.inr (some c_pad_a), .inr (some c_book_a), .inr (some c_images_a), .inr (some c_net_a), .inr (some c_ranking_a), .inr (some c_writing_a), .inl c_netStands, .inl c_rankingStands]))), (c_pad_a, .inr (.inr (3, [.inr (some c_pad_signs_a), .inl c_pad_count, .inl c_pad_letters, .inl c_pad_kind, .inl c_pad_cost]))), (c_pad_signs_a, .inl (false, 40, c_pad_signs)), (c_book_a, .inr (.inr (0, [.inr (some c_book_dictionary_a), .inr (some c_book_joins_a), .inr (some c_book_rules_a), .inr (some c_book_line_a), .inl c_book_lineLength]))), (c_book_dictionary_a, .inr (.inr (1, [.inr (some c_book_dictionary_letters_a), .inr (some c_book_dictionary_lengths_a), .inr (some c_book_dictionary_kinds_a), .inr (some c_book_dictionary_costs_a), .inl c_book_dictionary_count]))), (c_book_dictionary_letters_a, .inl (false, 96, c_book_dictionary_letters)), (c_book_dictionary_lengths_a, .inl (false, 16, c_book_dictionary_lengths)), (c_book_dictionary_kinds_a, .inl (false, 16, c_book_dictionary_kinds)), (c_book_dictionary_costs_a, .inl (false, 16, c_book_dictionary_costs)), (c_book_joins_a, .inl (false, 25, c_book_joins)), (c_book_rules_a, .inl (false, 4, c_book_rules)), (c_book_line_a, .inl (false, 24, c_book_line)), (c_images_a, .inr (.inl (2, c_images))), (c_net_a, .inr (.inr (2, [.inl c_net_lineLength, .inl c_net_count, .inr (some c_net_places_a), .inr (some c_net_lengths_a), .inr (some c_net_kinds_a), .inr (some c_net_costs_a), .inr (some c_net_words_a), .inr (some c_net_firsts_a), .inr (some c_net_joins_a), .inr (some c_net_slots_a), .inr (some c_net_routes_a)]))), (c_net_places_a, .inl (false, 480, c_net_places)), (c_net_lengths_a, .inl (false, 480, c_net_lengths)), (c_net_kinds_a, .inl (false, 480, c_net_kinds)), (c_net_costs_a, .inl (false, 480, c_net_costs)), (c_net_words_a, .inl (false, 480, c_net_words)), (c_net_firsts_a, .inl (false, 25, c_net_firsts)), (c_net_joins_a, .inl (false, 25, c_net_joins)), (c_net_slots_a, .inl (false, 28, c_net_slots)), (c_net_routes_a, .inl (false, 25, c_net_routes)), (c_ranking_a, .inr (.inr (4, [.inr (some c_ranking_before_a), .inr (some c_ranking_counts_a), .inr (some c_ranking_kept_a), .inr (some c_ranking_followed_a)]))), (c_ranking_before_a, .inl (false, 125, c_ranking_before)), (c_ranking_counts_a, .inl (false, 125, c_ranking_counts)), (c_ranking_kept_a, .inl (false, 1500, c_ranking_kept)), (c_ranking_followed_a, .inl (false, 24, c_ranking_followed)), (c_writing_a, .inr (.inr (5, [.inr (some c_writing_signs_a), .inl c_writing_count]))), (c_writing_signs_a, .inl (false, 71, c_writing_signs))] (CI c_pad_count c_book_dictionary_count c_book_dictionary_lengths c_book_dictionary_kinds c_book_dictionary_costs c_book_joins c_book_rules c_book_lineLength c_net_lineLength c_net_count c_net_places c_net_lengths c_net_kinds c_net_costs c_net_firsts c_net_joins c_ranking_counts c_ranking_kept c_ranking_followed c_writing_count c_netStands) (fun z u => ∃ (c_net_lineLength' : Int) (c_net_count' : Int) (c_net_places' : Nat → Int) (c_net_lengths' : Nat → Int) (c_net_kinds' : Nat → Int) (c_net_costs' : Nat → Int) (c_net_words' : Nat → Int) (c_net_firsts' : Nat → Int) (c_net_joins' : Nat → Int) (c_net_slots' : Nat → Int) (c_netStands' : Int), u = [(c_a, .inr (.inr (6, [.inr (some c_pad_a), .inr (some c_book_a), .inr (some c_images_a), .inr (some c_net_a), .inr (some c_ranking_a), .inr (some c_writing_a), .inl c_netStands', .inl c_rankingStands]))), (c_pad_a, .inr (.inr (3, [.inr (some c_pad_signs_a), .inl c_pad_count, .inl c_pad_letters, .inl c_pad_kind, .inl c_pad_cost]))), (c_pad_signs_a, .inl (false, 40, c_pad_signs)), (c_book_a, .inr (.inr (0, [.inr (some c_book_dictionary_a), .inr (some c_book_joins_a), .inr (some c_book_rules_a), .inr (some c_book_line_a), .inl c_book_lineLength]))), (c_book_dictionary_a, .inr (.inr (1, [.inr (some c_book_dictionary_letters_a), .inr (some c_book_dictionary_lengths_a), .inr (some c_book_dictionary_kinds_a), .inr (some c_book_dictionary_costs_a), .inl c_book_dictionary_count]))), (c_book_dictionary_letters_a, .inl (false, 96, c_book_dictionary_letters)), (c_book_dictionary_lengths_a, .inl (false, 16, c_book_dictionary_lengths)), (c_book_dictionary_kinds_a, .inl (false, 16, c_book_dictionary_kinds)), (c_book_dictionary_costs_a, .inl (false, 16, c_book_dictionary_costs)), (c_book_joins_a, .inl (false, 25, c_book_joins)), (c_book_rules_a, .inl (false, 4, c_book_rules)), (c_book_line_a, .inl (false, 24, c_book_line)), (c_images_a, .inr (.inl (2, c_images))), (c_net_a, .inr (.inr (2, [.inl c_net_lineLength', .inl c_net_count', .inr (some c_net_places_a), .inr (some c_net_lengths_a), .inr (some c_net_kinds_a), .inr (some c_net_costs_a), .inr (some c_net_words_a), .inr (some c_net_firsts_a), .inr (some c_net_joins_a), .inr (some c_net_slots_a), .inr (some c_net_routes_a)]))), (c_net_places_a, .inl (false, 480, c_net_places')), (c_net_lengths_a, .inl (false, 480, c_net_lengths')), (c_net_kinds_a, .inl (false, 480, c_net_kinds')), (c_net_costs_a, .inl (false, 480, c_net_costs')), (c_net_words_a, .inl (false, 480, c_net_words')), (c_net_firsts_a, .inl (false, 25, c_net_firsts')), (c_net_joins_a, .inl (false, 25, c_net_joins')), (c_net_slots_a, .inl (false, 28, c_net_slots')), (c_net_routes_a, .inl (false, 25, c_net_routes)), (c_ranking_a, .inr (.inr (4, [.inr (some c_ranking_before_a), .inr (some c_ranking_counts_a), .inr (some c_ranking_kept_a), .inr (some c_ranking_followed_a)]))), (c_ranking_before_a, .inl (false, 125, c_ranking_before)), (c_ranking_counts_a, .inl (false, 125, c_ranking_counts)), (c_ranking_kept_a, .inl (false, 1500, c_ranking_kept)), (c_ranking_followed_a, .inl (false, 24, c_ranking_followed)), (c_writing_a, .inr (.inr (5, [.inr (some c_writing_signs_a), .inl c_writing_count]))), (c_writing_signs_a, .inl (false, 71, c_writing_signs))] ∧ (CI c_pad_count c_book_dictionary_count c_book_dictionary_lengths c_book_dictionary_kinds c_book_dictionary_costs c_book_joins c_book_rules c_book_lineLength c_net_lineLength' c_net_count' c_net_places' c_net_lengths' c_net_kinds' c_net_costs' c_net_firsts' c_net_joins' c_ranking_counts c_ranking_kept c_ranking_followed c_writing_count c_netStands')) := by
  refine zMi.of RX6 hE (by decide) rfl (by simp) (fun _ _ _ _ => rfl) ?_
  intro Z hP hav hwr B
  obtain ⟨l_c_netStands, u_c_netStands⟩ : zR c_netStands := zWr_at hwr (i := 0) rfl (.inl c_netStands) (by simp)
  obtain ⟨l_c_rankingStands, u_c_rankingStands⟩ : zR c_rankingStands := zWr_at hwr (i := 0) rfl (.inl c_rankingStands) (by simp)
  obtain ⟨l_c_pad_count, u_c_pad_count⟩ : zR c_pad_count := zWr_at hwr (i := 1) rfl (.inl c_pad_count) (by simp)
  obtain ⟨l_c_pad_letters, u_c_pad_letters⟩ : zR c_pad_letters := zWr_at hwr (i := 1) rfl (.inl c_pad_letters) (by simp)
  obtain ⟨l_c_pad_kind, u_c_pad_kind⟩ : zR c_pad_kind := zWr_at hwr (i := 1) rfl (.inl c_pad_kind) (by simp)
  obtain ⟨l_c_pad_cost, u_c_pad_cost⟩ : zR c_pad_cost := zWr_at hwr (i := 1) rfl (.inl c_pad_cost) (by simp)
  obtain ⟨l_c_book_lineLength, u_c_book_lineLength⟩ : zR c_book_lineLength := zWr_at hwr (i := 3) rfl (.inl c_book_lineLength) (by simp)
  obtain ⟨l_c_book_dictionary_count, u_c_book_dictionary_count⟩ : zR c_book_dictionary_count := zWr_at hwr (i := 4) rfl (.inl c_book_dictionary_count) (by simp)
  obtain ⟨l_c_net_lineLength, u_c_net_lineLength⟩ : zR c_net_lineLength := zWr_at hwr (i := 13) rfl (.inl c_net_lineLength) (by simp)
  obtain ⟨l_c_net_count, u_c_net_count⟩ : zR c_net_count := zWr_at hwr (i := 13) rfl (.inl c_net_count) (by simp)
  obtain ⟨l_c_writing_count, u_c_writing_count⟩ : zR c_writing_count := zWr_at hwr (i := 28) rfl (.inl c_writing_count) (by simp)
  obtain ⟨h1, h2, h3, h4, h5, h6, h7⟩ := id hP
  obtain ⟨h3a, h3b⟩ := id h3
  obtain ⟨h2a, h2b, h2c⟩ := id h2
  obtain ⟨h4a, h4b, h4c, h4d, h4e, h4f, h4g⟩ := id h4
  obtain ⟨h5a, h5b, h5c⟩ := id h5
  show Z 0 0 0 [some (.inr (some c_a))] [] _
  refine B.aload_n (pc := 0) (i := 0) dX6_pieces_0 rfl rfl ?_
  refine B.callVi (pc := 1) 0 (mX6_hasLine hE _ _ _ _ _ _ _ _ _ _ _ _ _ _ _ _ _ _ _ _ _ _ _ _ _ _ _ _ _ _ _ _ _ _ _ _ _ _ _ _ _ _ _ _ _ _ _ _ _ _ _ _ _ _ _ _ _ _ _ _ _ _ _ _) 0 rfl rfl ml_X6_112 im_X6_hasLine se_X6_hasLine it_X6 co_X6_hasLine (by decide +kernel) rfl rfl rfl ⟨by decide, by decide⟩ ⟨by decide, by decide⟩ [0, 1, 2, 3, 4, 5, 6, 7, 8, 9, 10, 11, 12, 13, 14, 15, 16, 17, 18, 19, 20, 21, 22, 23, 24, 25, 26, 27, 28, 29] rfl rfl rfl (Nat.le_of_ble_eq_true rfl) dX6_pieces_1 (fun _ => trivial) (fun zk1 uk1 rzk1 ruk1 rak1 hqk1 => ?_)
  obtain ⟨lzk1, uzk1⟩ := rzk1
  obtain ⟨rfl, hk1⟩ := hqk1
  simp only [zput, List.set_cons_zero, List.set_cons_succ, List.append_nil, Nat.add_zero]
  refine B.if_ne (pc := 4) (tgt := 10) dX6_pieces_4 (by decide) (fun c4 => ?_) (fun c4 => ?_)
  · refine B.aload_n (pc := 10) (i := 0) dX6_pieces_10 rfl rfl ?_
    refine B.callVv (pc := 11) 0 (mX6_makeNet hE _ _ _ _ _ _ _ _ _ _ _ _ _ _ _ _ _ _ _ _ _ _ _ _ _ _ _ _ _ _ _ _ _ _ _ _ _ _ _ _ _ _ _ _ _ _ _ _ _ _ _ _ _ _ _ _ _ _ _ _ _ _ _ _) 0 rfl rfl ml_X6_116 im_X6_makeNet se_X6_makeNet it_X6 co_X6_makeNet (by decide +kernel) rfl rfl rfl ⟨by decide, by decide⟩ ⟨by decide, by decide⟩ [0, 1, 2, 3, 4, 5, 6, 7, 8, 9, 10, 11, 12, 13, 14, 15, 16, 17, 18, 19, 20, 21, 22, 23, 24, 25, 26, 27, 28, 29] rfl rfl rfl (Nat.le_of_ble_eq_true rfl) dX6_pieces_11 (fun _ => hP) (fun uk11 ruk11 rak11 hqk11 => ?_)
    obtain ⟨c_net_lineLength_k11, c_net_count_k11, c_net_places_k11, c_net_lengths_k11, c_net_kinds_k11, c_net_costs_k11, c_net_words_k11, c_net_firsts_k11, c_net_joins_k11, c_net_slots_k11, c_netStands_k11, rfl, hk11⟩ := hqk11
    simp only [zput, List.set_cons_zero, List.set_cons_succ, List.append_nil, Nat.add_zero]
    refine B.aload_n (pc := 14) (i := 0) dX6_pieces_14 rfl rfl ?_
    refine B.getfield (pc := 15) 0 rfl rfl inX6z 3 (by decide) fl_X6_30 rfl dX6_pieces_15 ?_
    refine B.getfield (pc := 18) 13 rfl rfl inX2z 1 (by decide) fl_X6_119 rfl dX6_pieces_18 ?_
    refine B.ireturn (pc := 21) (by simp) dX6_pieces_21 (Nat.le_refl _) (Nat.le_refl _) (fun rz rw => ⟨_, _, _, _, _, _, _, _, _, _, _, rfl, ?_⟩)
    exact hk11.1
  · refine B.bipush (pc := 7) dX6_pieces_7 ⟨by decide, by decide⟩ ?_
    refine B.ireturn (pc := 9) (by simp) dX6_pieces_9 (Nat.le_refl _) (Nat.le_refl _) (fun rz rw => ⟨_, _, _, _, _, _, _, _, _, _, _, rfl, ?_⟩)
    exact hP
set_option maxHeartbeats 4000000 in
set_option maxRecDepth 100000 in
theorem mX6_ways {l : Launch} {D : va_G} {k : zK} {E : zE} (hE : zEok E) (c_a c_pad_a c_pad_signs_a c_book_a c_book_dictionary_a c_book_dictionary_letters_a c_book_dictionary_lengths_a c_book_dictionary_kinds_a c_book_dictionary_costs_a c_book_joins_a c_book_rules_a c_book_line_a c_images_a c_net_a c_net_places_a c_net_lengths_a c_net_kinds_a c_net_costs_a c_net_words_a c_net_firsts_a c_net_joins_a c_net_slots_a c_net_routes_a c_ranking_a c_ranking_before_a c_ranking_counts_a c_ranking_kept_a c_ranking_followed_a c_writing_a c_writing_signs_a : Nat) (c_pad_count c_pad_letters c_pad_kind c_pad_cost c_book_dictionary_count c_book_lineLength c_net_lineLength c_net_count c_writing_count c_netStands c_rankingStands : Int) (c_pad_signs c_book_dictionary_letters c_book_dictionary_lengths c_book_dictionary_kinds c_book_dictionary_costs c_book_joins c_book_rules c_book_line c_net_places c_net_lengths c_net_kinds c_net_costs c_net_words c_net_firsts c_net_joins c_net_slots c_net_routes c_ranking_before c_ranking_counts c_ranking_kept c_ranking_followed c_writing_signs : Nat → Int) (c_images : Nat → Option Nat) : zMi l D k E yX6_ways cX6_ways 1 .int { frames := 6, cells := 0, slots := 0, locals := 134 } 0 0 [.inr (some c_a)] [(c_a, .inr (.inr (6, [.inr (some c_pad_a), .inr (some c_book_a), .inr (some c_images_a), .inr (some c_net_a), .inr (some c_ranking_a), .inr (some c_writing_a), .inl c_netStands, .inl c_rankingStands]))), (c_pad_a, .inr (.inr (3, [.inr (some c_pad_signs_a), .inl c_pad_count, .inl c_pad_letters, .inl c_pad_kind, .inl c_pad_cost]))), (c_pad_signs_a, .inl (false, 40, c_pad_signs)), (c_book_a, .inr (.inr (0, [.inr (some c_book_dictionary_a), .inr (some c_book_joins_a), .inr (some c_book_rules_a), .inr (some c_book_line_a), .inl c_book_lineLength]))), (c_book_dictionary_a, .inr (.inr (1, [.inr (some c_book_dictionary_letters_a), .inr (some c_book_dictionary_lengths_a), .inr (some c_book_dictionary_kinds_a), .inr (some c_book_dictionary_costs_a), .inl c_book_dictionary_count]))), (c_book_dictionary_letters_a, .inl (false, 96, c_book_dictionary_letters)), (c_book_dictionary_lengths_a, .inl (false, 16, c_book_dictionary_lengths)), (c_book_dictionary_kinds_a, .inl (false, 16, c_book_dictionary_kinds)), (c_book_dictionary_costs_a, .inl (false, 16, c_book_dictionary_costs)), (c_book_joins_a, .inl (false, 25, c_book_joins)), (c_book_rules_a, .inl (false, 4, c_book_rules)), (c_book_line_a, .inl (false, 24, c_book_line)), (c_images_a, .inr (.inl (2, c_images))), (c_net_a, .inr (.inr (2, [.inl c_net_lineLength, .inl c_net_count, .inr (some c_net_places_a), .inr (some c_net_lengths_a), .inr (some c_net_kinds_a), .inr (some c_net_costs_a), .inr (some c_net_words_a), .inr (some c_net_firsts_a), .inr (some c_net_joins_a), .inr (some c_net_slots_a), .inr (some c_net_routes_a)]))), (c_net_places_a, .inl (false, 480, c_net_places)), (c_net_lengths_a, .inl (false, 480, c_net_lengths)), (c_net_kinds_a, .inl (false, 480, c_net_kinds)), (c_net_costs_a, .inl (false, 480, c_net_costs)), (c_net_words_a, .inl (false, 480, c_net_words)), (c_net_firsts_a, .inl (false, 25, c_net_firsts)), (c_net_joins_a, .inl (false, 25, c_net_joins)), (c_net_slots_a, .inl (false, 28, c_net_slots)), (c_net_routes_a, .inl (false, 25, c_net_routes)), (c_ranking_a, .inr (.inr (4, [.inr (some c_ranking_before_a), .inr (some c_ranking_counts_a), .inr (some c_ranking_kept_a), .inr (some c_ranking_followed_a)]))), (c_ranking_before_a, .inl (false, 125, c_ranking_before)), (c_ranking_counts_a, .inl (false, 125, c_ranking_counts)), (c_ranking_kept_a, .inl (false, 1500, c_ranking_kept)), (c_ranking_followed_a, .inl (false, 24, c_ranking_followed)), (c_writing_a, .inr (.inr (5, [.inr (some c_writing_signs_a), .inl c_writing_count]))), (c_writing_signs_a, .inl (false, 71, c_writing_signs))] (CI c_pad_count c_book_dictionary_count c_book_dictionary_lengths c_book_dictionary_kinds c_book_dictionary_costs c_book_joins c_book_rules c_book_lineLength c_net_lineLength c_net_count c_net_places c_net_lengths c_net_kinds c_net_costs c_net_firsts c_net_joins c_ranking_counts c_ranking_kept c_ranking_followed c_writing_count c_netStands) (fun z u => ∃ (c_net_lineLength' : Int) (c_net_count' : Int) (c_net_places' : Nat → Int) (c_net_lengths' : Nat → Int) (c_net_kinds' : Nat → Int) (c_net_costs' : Nat → Int) (c_net_words' : Nat → Int) (c_net_firsts' : Nat → Int) (c_net_joins' : Nat → Int) (c_net_slots' : Nat → Int) (c_netStands' : Int) (c_net_routes' : Nat → Int), u = [(c_a, .inr (.inr (6, [.inr (some c_pad_a), .inr (some c_book_a), .inr (some c_images_a), .inr (some c_net_a), .inr (some c_ranking_a), .inr (some c_writing_a), .inl c_netStands', .inl c_rankingStands]))), (c_pad_a, .inr (.inr (3, [.inr (some c_pad_signs_a), .inl c_pad_count, .inl c_pad_letters, .inl c_pad_kind, .inl c_pad_cost]))), (c_pad_signs_a, .inl (false, 40, c_pad_signs)), (c_book_a, .inr (.inr (0, [.inr (some c_book_dictionary_a), .inr (some c_book_joins_a), .inr (some c_book_rules_a), .inr (some c_book_line_a), .inl c_book_lineLength]))), (c_book_dictionary_a, .inr (.inr (1, [.inr (some c_book_dictionary_letters_a), .inr (some c_book_dictionary_lengths_a), .inr (some c_book_dictionary_kinds_a), .inr (some c_book_dictionary_costs_a), .inl c_book_dictionary_count]))), (c_book_dictionary_letters_a, .inl (false, 96, c_book_dictionary_letters)), (c_book_dictionary_lengths_a, .inl (false, 16, c_book_dictionary_lengths)), (c_book_dictionary_kinds_a, .inl (false, 16, c_book_dictionary_kinds)), (c_book_dictionary_costs_a, .inl (false, 16, c_book_dictionary_costs)), (c_book_joins_a, .inl (false, 25, c_book_joins)), (c_book_rules_a, .inl (false, 4, c_book_rules)), (c_book_line_a, .inl (false, 24, c_book_line)), (c_images_a, .inr (.inl (2, c_images))), (c_net_a, .inr (.inr (2, [.inl c_net_lineLength', .inl c_net_count', .inr (some c_net_places_a), .inr (some c_net_lengths_a), .inr (some c_net_kinds_a), .inr (some c_net_costs_a), .inr (some c_net_words_a), .inr (some c_net_firsts_a), .inr (some c_net_joins_a), .inr (some c_net_slots_a), .inr (some c_net_routes_a)]))), (c_net_places_a, .inl (false, 480, c_net_places')), (c_net_lengths_a, .inl (false, 480, c_net_lengths')), (c_net_kinds_a, .inl (false, 480, c_net_kinds')), (c_net_costs_a, .inl (false, 480, c_net_costs')), (c_net_words_a, .inl (false, 480, c_net_words')), (c_net_firsts_a, .inl (false, 25, c_net_firsts')), (c_net_joins_a, .inl (false, 25, c_net_joins')), (c_net_slots_a, .inl (false, 28, c_net_slots')), (c_net_routes_a, .inl (false, 25, c_net_routes')), (c_ranking_a, .inr (.inr (4, [.inr (some c_ranking_before_a), .inr (some c_ranking_counts_a), .inr (some c_ranking_kept_a), .inr (some c_ranking_followed_a)]))), (c_ranking_before_a, .inl (false, 125, c_ranking_before)), (c_ranking_counts_a, .inl (false, 125, c_ranking_counts)), (c_ranking_kept_a, .inl (false, 1500, c_ranking_kept)), (c_ranking_followed_a, .inl (false, 24, c_ranking_followed)), (c_writing_a, .inr (.inr (5, [.inr (some c_writing_signs_a), .inl c_writing_count]))), (c_writing_signs_a, .inl (false, 71, c_writing_signs))] ∧ (CI c_pad_count c_book_dictionary_count c_book_dictionary_lengths c_book_dictionary_kinds c_book_dictionary_costs c_book_joins c_book_rules c_book_lineLength c_net_lineLength' c_net_count' c_net_places' c_net_lengths' c_net_kinds' c_net_costs' c_net_firsts' c_net_joins' c_ranking_counts c_ranking_kept c_ranking_followed c_writing_count c_netStands')) := by
  refine zMi.of RX6 hE (by decide) rfl (by simp) (fun _ _ _ _ => rfl) ?_
  intro Z hP hav hwr B
  obtain ⟨l_c_netStands, u_c_netStands⟩ : zR c_netStands := zWr_at hwr (i := 0) rfl (.inl c_netStands) (by simp)
  obtain ⟨l_c_rankingStands, u_c_rankingStands⟩ : zR c_rankingStands := zWr_at hwr (i := 0) rfl (.inl c_rankingStands) (by simp)
  obtain ⟨l_c_pad_count, u_c_pad_count⟩ : zR c_pad_count := zWr_at hwr (i := 1) rfl (.inl c_pad_count) (by simp)
  obtain ⟨l_c_pad_letters, u_c_pad_letters⟩ : zR c_pad_letters := zWr_at hwr (i := 1) rfl (.inl c_pad_letters) (by simp)
  obtain ⟨l_c_pad_kind, u_c_pad_kind⟩ : zR c_pad_kind := zWr_at hwr (i := 1) rfl (.inl c_pad_kind) (by simp)
  obtain ⟨l_c_pad_cost, u_c_pad_cost⟩ : zR c_pad_cost := zWr_at hwr (i := 1) rfl (.inl c_pad_cost) (by simp)
  obtain ⟨l_c_book_lineLength, u_c_book_lineLength⟩ : zR c_book_lineLength := zWr_at hwr (i := 3) rfl (.inl c_book_lineLength) (by simp)
  obtain ⟨l_c_book_dictionary_count, u_c_book_dictionary_count⟩ : zR c_book_dictionary_count := zWr_at hwr (i := 4) rfl (.inl c_book_dictionary_count) (by simp)
  obtain ⟨l_c_net_lineLength, u_c_net_lineLength⟩ : zR c_net_lineLength := zWr_at hwr (i := 13) rfl (.inl c_net_lineLength) (by simp)
  obtain ⟨l_c_net_count, u_c_net_count⟩ : zR c_net_count := zWr_at hwr (i := 13) rfl (.inl c_net_count) (by simp)
  obtain ⟨l_c_writing_count, u_c_writing_count⟩ : zR c_writing_count := zWr_at hwr (i := 28) rfl (.inl c_writing_count) (by simp)
  obtain ⟨h1, h2, h3, h4, h5, h6, h7⟩ := id hP
  obtain ⟨h3a, h3b⟩ := id h3
  obtain ⟨h2a, h2b, h2c⟩ := id h2
  obtain ⟨h4a, h4b, h4c, h4d, h4e, h4f, h4g⟩ := id h4
  obtain ⟨h5a, h5b, h5c⟩ := id h5
  show Z 0 0 0 [some (.inr (some c_a))] [] _
  refine B.aload_n (pc := 0) (i := 0) dX6_ways_0 rfl rfl ?_
  refine B.callVi (pc := 1) 0 (mX6_hasLine hE _ _ _ _ _ _ _ _ _ _ _ _ _ _ _ _ _ _ _ _ _ _ _ _ _ _ _ _ _ _ _ _ _ _ _ _ _ _ _ _ _ _ _ _ _ _ _ _ _ _ _ _ _ _ _ _ _ _ _ _ _ _ _ _) 0 rfl rfl ml_X6_112 im_X6_hasLine se_X6_hasLine it_X6 co_X6_hasLine (by decide +kernel) rfl rfl rfl ⟨by decide, by decide⟩ ⟨by decide, by decide⟩ [0, 1, 2, 3, 4, 5, 6, 7, 8, 9, 10, 11, 12, 13, 14, 15, 16, 17, 18, 19, 20, 21, 22, 23, 24, 25, 26, 27, 28, 29] rfl rfl rfl (Nat.le_of_ble_eq_true rfl) dX6_ways_1 (fun _ => trivial) (fun zk1 uk1 rzk1 ruk1 rak1 hqk1 => ?_)
  obtain ⟨lzk1, uzk1⟩ := rzk1
  obtain ⟨rfl, hk1⟩ := hqk1
  simp only [zput, List.set_cons_zero, List.set_cons_succ, List.append_nil, Nat.add_zero]
  refine B.if_ne (pc := 4) (tgt := 10) dX6_ways_4 (by decide) (fun c4 => ?_) (fun c4 => ?_)
  · refine B.aload_n (pc := 10) (i := 0) dX6_ways_10 rfl rfl ?_
    refine B.callVv (pc := 11) 0 (mX6_makeNet hE _ _ _ _ _ _ _ _ _ _ _ _ _ _ _ _ _ _ _ _ _ _ _ _ _ _ _ _ _ _ _ _ _ _ _ _ _ _ _ _ _ _ _ _ _ _ _ _ _ _ _ _ _ _ _ _ _ _ _ _ _ _ _ _) 0 rfl rfl ml_X6_116 im_X6_makeNet se_X6_makeNet it_X6 co_X6_makeNet (by decide +kernel) rfl rfl rfl ⟨by decide, by decide⟩ ⟨by decide, by decide⟩ [0, 1, 2, 3, 4, 5, 6, 7, 8, 9, 10, 11, 12, 13, 14, 15, 16, 17, 18, 19, 20, 21, 22, 23, 24, 25, 26, 27, 28, 29] rfl rfl rfl (Nat.le_of_ble_eq_true rfl) dX6_ways_11 (fun _ => hP) (fun uk11 ruk11 rak11 hqk11 => ?_)
    obtain ⟨c_net_lineLength_k11, c_net_count_k11, c_net_places_k11, c_net_lengths_k11, c_net_kinds_k11, c_net_costs_k11, c_net_words_k11, c_net_firsts_k11, c_net_joins_k11, c_net_slots_k11, c_netStands_k11, rfl, hk11⟩ := hqk11
    simp only [zput, List.set_cons_zero, List.set_cons_succ, List.append_nil, Nat.add_zero]
    obtain ⟨hC, hns⟩ := hk11
    obtain ⟨g1, g2, g3, g4, g5, g6, g7⟩ := id hC
    obtain ⟨g4a, g4b, g4c, g4d, g4e, g4f, g4g⟩ := id g4
    obtain ⟨g5a, g5b, g5c⟩ := id g5
    refine B.aload_n (pc := 14) (i := 0) dX6_ways_14 rfl rfl ?_
    refine B.getfield (pc := 15) 0 rfl rfl inX6z 3 (by decide) fl_X6_30 rfl dX6_ways_15 ?_
    refine B.callVi (pc := 18) 0 (mX2_countWays hE _ _ _ _ _ _ _ _ _ _ _ _ _ _ _ _ _ _ _ _ _) 13 rfl rfl ml_X6_142 im_X2_countWays se_X2_countWays it_X2 co_X2_countWays (by decide +kernel) rfl rfl rfl ⟨by decide, by decide⟩ ⟨by decide, by decide⟩ [13, 14, 15, 16, 17, 18, 19, 20, 21, 22] rfl rfl rfl (Nat.le_of_ble_eq_true rfl) dX6_ways_18 (fun _ => ⟨g4a, g4d, g4e, g4f, g4g⟩) (fun zk18 uk18 rzk18 ruk18 rak18 hqk18 => ?_)
    obtain ⟨lzk18, uzk18⟩ := rzk18
    obtain ⟨n_routes_k18, rfl, hk18⟩ := hqk18
    simp only [zput, List.set_cons_zero, List.set_cons_succ, List.append_nil, Nat.add_zero]
    refine B.ireturn (pc := 21) (by simp) dX6_ways_21 (Nat.le_refl _) (Nat.le_refl _) (fun rz rw => ⟨_, _, _, _, _, _, _, _, _, _, _, _, rfl, ?_⟩)
    exact hC
  · refine B.bipush (pc := 7) dX6_ways_7 ⟨by decide, by decide⟩ ?_
    refine B.ireturn (pc := 9) (by simp) dX6_ways_9 (Nat.le_refl _) (Nat.le_refl _) (fun rz rw => ⟨_, _, _, _, _, _, _, _, _, _, _, _, rfl, ?_⟩)
    exact hP
set_option maxHeartbeats 4000000 in
set_option maxRecDepth 100000 in
theorem mX6_piece {l : Launch} {D : va_G} {k : zK} {E : zE} (hE : zEok E) (c_a c_pad_a c_pad_signs_a c_book_a c_book_dictionary_a c_book_dictionary_letters_a c_book_dictionary_lengths_a c_book_dictionary_kinds_a c_book_dictionary_costs_a c_book_joins_a c_book_rules_a c_book_line_a c_images_a c_net_a c_net_places_a c_net_lengths_a c_net_kinds_a c_net_costs_a c_net_words_a c_net_firsts_a c_net_joins_a c_net_slots_a c_net_routes_a c_ranking_a c_ranking_before_a c_ranking_counts_a c_ranking_kept_a c_ranking_followed_a c_writing_a c_writing_signs_a : Nat) (c_pad_count c_pad_letters c_pad_kind c_pad_cost c_book_dictionary_count c_book_lineLength c_net_lineLength c_net_count c_writing_count c_netStands c_rankingStands i what : Int) (c_pad_signs c_book_dictionary_letters c_book_dictionary_lengths c_book_dictionary_kinds c_book_dictionary_costs c_book_joins c_book_rules c_book_line c_net_places c_net_lengths c_net_kinds c_net_costs c_net_words c_net_firsts c_net_joins c_net_slots c_net_routes c_ranking_before c_ranking_counts c_ranking_kept c_ranking_followed c_writing_signs : Nat → Int) (c_images : Nat → Option Nat) : zMi l D k E yX6_piece cX6_piece 3 .int { frames := 7, cells := 0, slots := 0, locals := 154 } 0 0 [.inr (some c_a), .inl i, .inl what] [(c_a, .inr (.inr (6, [.inr (some c_pad_a), .inr (some c_book_a), .inr (some c_images_a), .inr (some c_net_a), .inr (some c_ranking_a), .inr (some c_writing_a), .inl c_netStands, .inl c_rankingStands]))), (c_pad_a, .inr (.inr (3, [.inr (some c_pad_signs_a), .inl c_pad_count, .inl c_pad_letters, .inl c_pad_kind, .inl c_pad_cost]))), (c_pad_signs_a, .inl (false, 40, c_pad_signs)), (c_book_a, .inr (.inr (0, [.inr (some c_book_dictionary_a), .inr (some c_book_joins_a), .inr (some c_book_rules_a), .inr (some c_book_line_a), .inl c_book_lineLength]))), (c_book_dictionary_a, .inr (.inr (1, [.inr (some c_book_dictionary_letters_a), .inr (some c_book_dictionary_lengths_a), .inr (some c_book_dictionary_kinds_a), .inr (some c_book_dictionary_costs_a), .inl c_book_dictionary_count]))), (c_book_dictionary_letters_a, .inl (false, 96, c_book_dictionary_letters)), (c_book_dictionary_lengths_a, .inl (false, 16, c_book_dictionary_lengths)), (c_book_dictionary_kinds_a, .inl (false, 16, c_book_dictionary_kinds)), (c_book_dictionary_costs_a, .inl (false, 16, c_book_dictionary_costs)), (c_book_joins_a, .inl (false, 25, c_book_joins)), (c_book_rules_a, .inl (false, 4, c_book_rules)), (c_book_line_a, .inl (false, 24, c_book_line)), (c_images_a, .inr (.inl (2, c_images))), (c_net_a, .inr (.inr (2, [.inl c_net_lineLength, .inl c_net_count, .inr (some c_net_places_a), .inr (some c_net_lengths_a), .inr (some c_net_kinds_a), .inr (some c_net_costs_a), .inr (some c_net_words_a), .inr (some c_net_firsts_a), .inr (some c_net_joins_a), .inr (some c_net_slots_a), .inr (some c_net_routes_a)]))), (c_net_places_a, .inl (false, 480, c_net_places)), (c_net_lengths_a, .inl (false, 480, c_net_lengths)), (c_net_kinds_a, .inl (false, 480, c_net_kinds)), (c_net_costs_a, .inl (false, 480, c_net_costs)), (c_net_words_a, .inl (false, 480, c_net_words)), (c_net_firsts_a, .inl (false, 25, c_net_firsts)), (c_net_joins_a, .inl (false, 25, c_net_joins)), (c_net_slots_a, .inl (false, 28, c_net_slots)), (c_net_routes_a, .inl (false, 25, c_net_routes)), (c_ranking_a, .inr (.inr (4, [.inr (some c_ranking_before_a), .inr (some c_ranking_counts_a), .inr (some c_ranking_kept_a), .inr (some c_ranking_followed_a)]))), (c_ranking_before_a, .inl (false, 125, c_ranking_before)), (c_ranking_counts_a, .inl (false, 125, c_ranking_counts)), (c_ranking_kept_a, .inl (false, 1500, c_ranking_kept)), (c_ranking_followed_a, .inl (false, 24, c_ranking_followed)), (c_writing_a, .inr (.inr (5, [.inr (some c_writing_signs_a), .inl c_writing_count]))), (c_writing_signs_a, .inl (false, 71, c_writing_signs))] (CI c_pad_count c_book_dictionary_count c_book_dictionary_lengths c_book_dictionary_kinds c_book_dictionary_costs c_book_joins c_book_rules c_book_lineLength c_net_lineLength c_net_count c_net_places c_net_lengths c_net_kinds c_net_costs c_net_firsts c_net_joins c_ranking_counts c_ranking_kept c_ranking_followed c_writing_count c_netStands) (fun z u => ∃ (c_net_lineLength' : Int) (c_net_count' : Int) (c_net_places' : Nat → Int) (c_net_lengths' : Nat → Int) (c_net_kinds' : Nat → Int) (c_net_costs' : Nat → Int) (c_net_words' : Nat → Int) (c_net_firsts' : Nat → Int) (c_net_joins' : Nat → Int) (c_net_slots' : Nat → Int) (c_netStands' : Int) (c_rankingStands' : Int) (c_ranking_before' : Nat → Int) (c_ranking_counts' : Nat → Int) (c_ranking_kept' : Nat → Int), u = [(c_a, .inr (.inr (6, [.inr (some c_pad_a), .inr (some c_book_a), .inr (some c_images_a), .inr (some c_net_a), .inr (some c_ranking_a), .inr (some c_writing_a), .inl c_netStands', .inl c_rankingStands']))), (c_pad_a, .inr (.inr (3, [.inr (some c_pad_signs_a), .inl c_pad_count, .inl c_pad_letters, .inl c_pad_kind, .inl c_pad_cost]))), (c_pad_signs_a, .inl (false, 40, c_pad_signs)), (c_book_a, .inr (.inr (0, [.inr (some c_book_dictionary_a), .inr (some c_book_joins_a), .inr (some c_book_rules_a), .inr (some c_book_line_a), .inl c_book_lineLength]))), (c_book_dictionary_a, .inr (.inr (1, [.inr (some c_book_dictionary_letters_a), .inr (some c_book_dictionary_lengths_a), .inr (some c_book_dictionary_kinds_a), .inr (some c_book_dictionary_costs_a), .inl c_book_dictionary_count]))), (c_book_dictionary_letters_a, .inl (false, 96, c_book_dictionary_letters)), (c_book_dictionary_lengths_a, .inl (false, 16, c_book_dictionary_lengths)), (c_book_dictionary_kinds_a, .inl (false, 16, c_book_dictionary_kinds)), (c_book_dictionary_costs_a, .inl (false, 16, c_book_dictionary_costs)), (c_book_joins_a, .inl (false, 25, c_book_joins)), (c_book_rules_a, .inl (false, 4, c_book_rules)), (c_book_line_a, .inl (false, 24, c_book_line)), (c_images_a, .inr (.inl (2, c_images))), (c_net_a, .inr (.inr (2, [.inl c_net_lineLength', .inl c_net_count', .inr (some c_net_places_a), .inr (some c_net_lengths_a), .inr (some c_net_kinds_a), .inr (some c_net_costs_a), .inr (some c_net_words_a), .inr (some c_net_firsts_a), .inr (some c_net_joins_a), .inr (some c_net_slots_a), .inr (some c_net_routes_a)]))), (c_net_places_a, .inl (false, 480, c_net_places')), (c_net_lengths_a, .inl (false, 480, c_net_lengths')), (c_net_kinds_a, .inl (false, 480, c_net_kinds')), (c_net_costs_a, .inl (false, 480, c_net_costs')), (c_net_words_a, .inl (false, 480, c_net_words')), (c_net_firsts_a, .inl (false, 25, c_net_firsts')), (c_net_joins_a, .inl (false, 25, c_net_joins')), (c_net_slots_a, .inl (false, 28, c_net_slots')), (c_net_routes_a, .inl (false, 25, c_net_routes)), (c_ranking_a, .inr (.inr (4, [.inr (some c_ranking_before_a), .inr (some c_ranking_counts_a), .inr (some c_ranking_kept_a), .inr (some c_ranking_followed_a)]))), (c_ranking_before_a, .inl (false, 125, c_ranking_before')), (c_ranking_counts_a, .inl (false, 125, c_ranking_counts')), (c_ranking_kept_a, .inl (false, 1500, c_ranking_kept')), (c_ranking_followed_a, .inl (false, 24, c_ranking_followed)), (c_writing_a, .inr (.inr (5, [.inr (some c_writing_signs_a), .inl c_writing_count]))), (c_writing_signs_a, .inl (false, 71, c_writing_signs))] ∧ (CI c_pad_count c_book_dictionary_count c_book_dictionary_lengths c_book_dictionary_kinds c_book_dictionary_costs c_book_joins c_book_rules c_book_lineLength c_net_lineLength' c_net_count' c_net_places' c_net_lengths' c_net_kinds' c_net_costs' c_net_firsts' c_net_joins' c_ranking_counts' c_ranking_kept' c_ranking_followed c_writing_count c_netStands')) := by
  refine zMi.of RX6 hE (by decide) rfl (by simp) (fun _ _ _ _ => rfl) ?_
  intro Z hP hav hwr B
  obtain ⟨l_i, u_i⟩ : zR i := hav (.inl i) (by simp)
  obtain ⟨l_what, u_what⟩ : zR what := hav (.inl what) (by simp)
  obtain ⟨l_c_netStands, u_c_netStands⟩ : zR c_netStands := zWr_at hwr (i := 0) rfl (.inl c_netStands) (by simp)
  obtain ⟨l_c_rankingStands, u_c_rankingStands⟩ : zR c_rankingStands := zWr_at hwr (i := 0) rfl (.inl c_rankingStands) (by simp)
  obtain ⟨l_c_pad_count, u_c_pad_count⟩ : zR c_pad_count := zWr_at hwr (i := 1) rfl (.inl c_pad_count) (by simp)
  obtain ⟨l_c_pad_letters, u_c_pad_letters⟩ : zR c_pad_letters := zWr_at hwr (i := 1) rfl (.inl c_pad_letters) (by simp)
  obtain ⟨l_c_pad_kind, u_c_pad_kind⟩ : zR c_pad_kind := zWr_at hwr (i := 1) rfl (.inl c_pad_kind) (by simp)
  obtain ⟨l_c_pad_cost, u_c_pad_cost⟩ : zR c_pad_cost := zWr_at hwr (i := 1) rfl (.inl c_pad_cost) (by simp)
  obtain ⟨l_c_book_lineLength, u_c_book_lineLength⟩ : zR c_book_lineLength := zWr_at hwr (i := 3) rfl (.inl c_book_lineLength) (by simp)
  obtain ⟨l_c_book_dictionary_count, u_c_book_dictionary_count⟩ : zR c_book_dictionary_count := zWr_at hwr (i := 4) rfl (.inl c_book_dictionary_count) (by simp)
  obtain ⟨l_c_net_lineLength, u_c_net_lineLength⟩ : zR c_net_lineLength := zWr_at hwr (i := 13) rfl (.inl c_net_lineLength) (by simp)
  obtain ⟨l_c_net_count, u_c_net_count⟩ : zR c_net_count := zWr_at hwr (i := 13) rfl (.inl c_net_count) (by simp)
  obtain ⟨l_c_writing_count, u_c_writing_count⟩ : zR c_writing_count := zWr_at hwr (i := 28) rfl (.inl c_writing_count) (by simp)
  obtain ⟨h1, h2, h3, h4, h5, h6, h7⟩ := id hP
  obtain ⟨h3a, h3b⟩ := id h3
  obtain ⟨h2a, h2b, h2c⟩ := id h2
  obtain ⟨h4a, h4b, h4c, h4d, h4e, h4f, h4g⟩ := id h4
  obtain ⟨h5a, h5b, h5c⟩ := id h5
  show Z 0 0 0 [some (.inr (some c_a)), some (.inl i), some (.inl what)] [] _
  refine B.aload_n (pc := 0) (i := 0) dX6_piece_0 rfl rfl ?_
  refine B.callVi (pc := 1) 0 (mX6_hasLine hE _ _ _ _ _ _ _ _ _ _ _ _ _ _ _ _ _ _ _ _ _ _ _ _ _ _ _ _ _ _ _ _ _ _ _ _ _ _ _ _ _ _ _ _ _ _ _ _ _ _ _ _ _ _ _ _ _ _ _ _ _ _ _ _) 0 rfl rfl ml_X6_112 im_X6_hasLine se_X6_hasLine it_X6 co_X6_hasLine (by decide +kernel) rfl rfl rfl ⟨by decide, by decide⟩ ⟨by decide, by decide⟩ [0, 1, 2, 3, 4, 5, 6, 7, 8, 9, 10, 11, 12, 13, 14, 15, 16, 17, 18, 19, 20, 21, 22, 23, 24, 25, 26, 27, 28, 29] rfl rfl rfl (Nat.le_of_ble_eq_true rfl) dX6_piece_1 (fun _ => trivial) (fun zk1 uk1 rzk1 ruk1 rak1 hqk1 => ?_)
  obtain ⟨lzk1, uzk1⟩ := rzk1
  obtain ⟨rfl, hk1⟩ := hqk1
  simp only [zput, List.set_cons_zero, List.set_cons_succ, List.append_nil, Nat.add_zero]
  refine B.if_ne (pc := 4) (tgt := 10) dX6_piece_4 (by decide) (fun c4 => ?_) (fun c4 => ?_)
  · refine B.aload_n (pc := 10) (i := 0) dX6_piece_10 rfl rfl ?_
    refine B.callVv (pc := 11) 0 (mX6_makeNet hE _ _ _ _ _ _ _ _ _ _ _ _ _ _ _ _ _ _ _ _ _ _ _ _ _ _ _ _ _ _ _ _ _ _ _ _ _ _ _ _ _ _ _ _ _ _ _ _ _ _ _ _ _ _ _ _ _ _ _ _ _ _ _ _) 0 rfl rfl ml_X6_116 im_X6_makeNet se_X6_makeNet it_X6 co_X6_makeNet (by decide +kernel) rfl rfl rfl ⟨by decide, by decide⟩ ⟨by decide, by decide⟩ [0, 1, 2, 3, 4, 5, 6, 7, 8, 9, 10, 11, 12, 13, 14, 15, 16, 17, 18, 19, 20, 21, 22, 23, 24, 25, 26, 27, 28, 29] rfl rfl rfl (Nat.le_of_ble_eq_true rfl) dX6_piece_11 (fun _ => hP) (fun uk11 ruk11 rak11 hqk11 => ?_)
    obtain ⟨c_net_lineLength_k11, c_net_count_k11, c_net_places_k11, c_net_lengths_k11, c_net_kinds_k11, c_net_costs_k11, c_net_words_k11, c_net_firsts_k11, c_net_joins_k11, c_net_slots_k11, c_netStands_k11, rfl, hk11⟩ := hqk11
    simp only [zput, List.set_cons_zero, List.set_cons_succ, List.append_nil, Nat.add_zero]
    obtain ⟨hC, hns⟩ := hk11
    obtain ⟨g1, g2, g3, g4, g5, g6, g7⟩ := id hC
    obtain ⟨g4a, g4b, g4c, g4d, g4e, g4f, g4g⟩ := id g4
    obtain ⟨g5a, g5b, g5c⟩ := id g5
    refine B.iload_n (pc := 14) (i := 1) dX6_piece_14 rfl rfl ?_
    refine B.if_lt (pc := 15) (tgt := 29) dX6_piece_15 (by decide) (fun c15 => ?_) (fun c15 => ?_)
    · refine B.iconst (pc := 29) dX6_piece_29 ⟨by decide, by decide⟩ ?_
      refine B.ireturn (pc := 30) (by simp) dX6_piece_30 (Nat.le_refl _) (Nat.le_refl _) (fun rz rw => ⟨_, _, _, _, _, _, _, _, _, _, _, _, _, _, _, rfl, ?_⟩)
      exact hC
    · refine B.iload_n (pc := 18) (i := 1) dX6_piece_18 rfl rfl ?_
      refine B.aload_n (pc := 19) (i := 0) dX6_piece_19 rfl rfl ?_
      refine B.getfield (pc := 20) 0 rfl rfl inX6z 3 (by decide) fl_X6_30 rfl dX6_piece_20 ?_
      refine B.getfield (pc := 23) 13 rfl rfl inX2z 1 (by decide) fl_X6_119 rfl dX6_piece_23 ?_
      refine B.icmp_lt (pc := 26) (tgt := 31) dX6_piece_26 (by decide) (fun c26 => ?_) (fun c26 => ?_)
      · refine B.iload_n (pc := 31) (i := 2) dX6_piece_31 rfl rfl ?_
        refine zsplitE (X := fun v => Z _ _ 32 _ (.inl v :: _) _) (0) (fun e32_0 => ?_) (fun c32_0 => ?_)
        · refine B.tsIn (pc := 32) (tgt := 72) dX6_piece_32 (by decide) (by decide) rfl (by decide) ?_
          refine B.aload_n (pc := 72) (i := 0) dX6_piece_72 rfl rfl ?_
          refine B.getfield (pc := 73) 0 rfl rfl inX6z 3 (by decide) fl_X6_30 rfl dX6_piece_73 ?_
          refine B.getfield (pc := 76) 13 rfl rfl inX2z 2 (by decide) fl_X6_120 rfl dX6_piece_76 ?_
          refine B.iload_n (pc := 79) (i := 1) dX6_piece_79 rfl rfl ?_
          refine B.iaload (pc := 80) 14 rfl (by omega) (by omega) dX6_piece_80 (fun r80 => ?_)
          obtain ⟨lr80, ur80⟩ := r80
          refine B.ireturn (pc := 81) (by simp) dX6_piece_81 (Nat.le_refl _) (Nat.le_refl _) (fun rz rw => ⟨_, _, _, _, _, _, _, _, _, _, _, _, _, _, _, rfl, ?_⟩)
          exact hC
        refine zsplitE (X := fun v => Z _ _ 32 _ (.inl v :: _) _) (1) (fun e32_1 => ?_) (fun c32_1 => ?_)
        · refine B.tsIn (pc := 32) (tgt := 82) dX6_piece_32 (by decide) (by decide) rfl (by decide) ?_
          refine B.aload_n (pc := 82) (i := 0) dX6_piece_82 rfl rfl ?_
          refine B.getfield (pc := 83) 0 rfl rfl inX6z 3 (by decide) fl_X6_30 rfl dX6_piece_83 ?_
          refine B.getfield (pc := 86) 13 rfl rfl inX2z 3 (by decide) fl_X6_123 rfl dX6_piece_86 ?_
          refine B.iload_n (pc := 89) (i := 1) dX6_piece_89 rfl rfl ?_
          refine B.iaload (pc := 90) 15 rfl (by omega) (by omega) dX6_piece_90 (fun r90 => ?_)
          obtain ⟨lr90, ur90⟩ := r90
          refine B.ireturn (pc := 91) (by simp) dX6_piece_91 (Nat.le_refl _) (Nat.le_refl _) (fun rz rw => ⟨_, _, _, _, _, _, _, _, _, _, _, _, _, _, _, rfl, ?_⟩)
          exact hC
        refine zsplitE (X := fun v => Z _ _ 32 _ (.inl v :: _) _) (2) (fun e32_2 => ?_) (fun c32_2 => ?_)
        · refine B.tsIn (pc := 32) (tgt := 92) dX6_piece_32 (by decide) (by decide) rfl (by decide) ?_
          refine B.aload_n (pc := 92) (i := 0) dX6_piece_92 rfl rfl ?_
          refine B.getfield (pc := 93) 0 rfl rfl inX6z 3 (by decide) fl_X6_30 rfl dX6_piece_93 ?_
          refine B.getfield (pc := 96) 13 rfl rfl inX2z 4 (by decide) fl_X6_126 rfl dX6_piece_96 ?_
          refine B.iload_n (pc := 99) (i := 1) dX6_piece_99 rfl rfl ?_
          refine B.iaload (pc := 100) 16 rfl (by omega) (by omega) dX6_piece_100 (fun r100 => ?_)
          obtain ⟨lr100, ur100⟩ := r100
          refine B.ireturn (pc := 101) (by simp) dX6_piece_101 (Nat.le_refl _) (Nat.le_refl _) (fun rz rw => ⟨_, _, _, _, _, _, _, _, _, _, _, _, _, _, _, rfl, ?_⟩)
          exact hC
        refine zsplitE (X := fun v => Z _ _ 32 _ (.inl v :: _) _) (3) (fun e32_3 => ?_) (fun c32_3 => ?_)
        · refine B.tsIn (pc := 32) (tgt := 102) dX6_piece_32 (by decide) (by decide) rfl (by decide) ?_
          refine B.aload_n (pc := 102) (i := 0) dX6_piece_102 rfl rfl ?_
          refine B.getfield (pc := 103) 0 rfl rfl inX6z 3 (by decide) fl_X6_30 rfl dX6_piece_103 ?_
          refine B.getfield (pc := 106) 13 rfl rfl inX2z 5 (by decide) fl_X6_129 rfl dX6_piece_106 ?_
          refine B.iload_n (pc := 109) (i := 1) dX6_piece_109 rfl rfl ?_
          refine B.iaload (pc := 110) 17 rfl (by omega) (by omega) dX6_piece_110 (fun r110 => ?_)
          obtain ⟨lr110, ur110⟩ := r110
          refine B.ireturn (pc := 111) (by simp) dX6_piece_111 (Nat.le_refl _) (Nat.le_refl _) (fun rz rw => ⟨_, _, _, _, _, _, _, _, _, _, _, _, _, _, _, rfl, ?_⟩)
          exact hC
        refine zsplitE (X := fun v => Z _ _ 32 _ (.inl v :: _) _) (4) (fun e32_4 => ?_) (fun c32_4 => ?_)
        · refine B.tsIn (pc := 32) (tgt := 112) dX6_piece_32 (by decide) (by decide) rfl (by decide) ?_
          refine B.aload_n (pc := 112) (i := 0) dX6_piece_112 rfl rfl ?_
          refine B.getfield (pc := 113) 0 rfl rfl inX6z 3 (by decide) fl_X6_30 rfl dX6_piece_113 ?_
          refine B.getfield (pc := 116) 13 rfl rfl inX2z 6 (by decide) fl_X6_132 rfl dX6_piece_116 ?_
          refine B.iload_n (pc := 119) (i := 1) dX6_piece_119 rfl rfl ?_
          refine B.iaload (pc := 120) 18 rfl (by omega) (by omega) dX6_piece_120 (fun r120 => ?_)
          obtain ⟨lr120, ur120⟩ := r120
          refine B.ireturn (pc := 121) (by simp) dX6_piece_121 (Nat.le_refl _) (Nat.le_refl _) (fun rz rw => ⟨_, _, _, _, _, _, _, _, _, _, _, _, _, _, _, rfl, ?_⟩)
          exact hC
        refine zsplitE (X := fun v => Z _ _ 32 _ (.inl v :: _) _) (5) (fun e32_5 => ?_) (fun c32_5 => ?_)
        · refine B.tsIn (pc := 32) (tgt := 122) dX6_piece_32 (by decide) (by decide) rfl (by decide) ?_
          refine B.aload_n (pc := 122) (i := 0) dX6_piece_122 rfl rfl ?_
          refine B.callVv (pc := 123) 0 (mX6_makeRanking hE _ _ _ _ _ _ _ _ _ _ _ _ _ _ _ _ _ _ _ _ _ _ _ _ _ _ _ _ _ _ _ _ _ _ _ _ _ _ _ _ _ _ _ _ _ _ _ _ _ _ _ _ _ _ _ _ _ _ _ _ _ _ _ _) 0 rfl rfl ml_X6_135 im_X6_makeRanking se_X6_makeRanking it_X6 co_X6_makeRanking (by decide +kernel) rfl rfl rfl ⟨by decide, by decide⟩ ⟨by decide, by decide⟩ [0, 1, 2, 3, 4, 5, 6, 7, 8, 9, 10, 11, 12, 13, 14, 15, 16, 17, 18, 19, 20, 21, 22, 23, 24, 25, 26, 27, 28, 29] rfl rfl rfl (Nat.le_of_ble_eq_true rfl) dX6_piece_123 (fun _ => ⟨hC, by omega⟩) (fun uk123 ruk123 rak123 hqk123 => ?_)
          obtain ⟨c_net_lineLength_k123, c_net_count_k123, c_net_places_k123, c_net_lengths_k123, c_net_kinds_k123, c_net_costs_k123, c_net_words_k123, c_net_firsts_k123, c_net_joins_k123, c_net_slots_k123, c_netStands_k123, c_rankingStands_k123, c_ranking_before_k123, c_ranking_counts_k123, c_ranking_kept_k123, rfl, hk123⟩ := hqk123
          simp only [zput, List.set_cons_zero, List.set_cons_succ, List.append_nil, Nat.add_zero]
          obtain ⟨hE2, hns2⟩ := hk123
          obtain ⟨e1, e2, e3, e4, e5, e6, e7⟩ := id hE2
          obtain ⟨e4a, e4b, e4c, e4d, e4e, e4f, e4g⟩ := id e4
          obtain ⟨e5a, e5b, e5c⟩ := id e5
          refine B.aload_n (pc := 126) (i := 0) dX6_piece_126 rfl rfl ?_
          refine B.getfield (pc := 127) 0 rfl rfl inX6z 4 (by decide) fl_X6_37 rfl dX6_piece_127 ?_
          refine B.aload_n (pc := 130) (i := 0) dX6_piece_130 rfl rfl ?_
          refine B.getfield (pc := 131) 0 rfl rfl inX6z 3 (by decide) fl_X6_30 rfl dX6_piece_131 ?_
          refine B.iload_n (pc := 134) (i := 1) dX6_piece_134 rfl rfl ?_
          refine B.callVi (pc := 135) 2 (mX4_leastWith hE _ _ _ _ _ _ _ _ _ _ _ _ _ _ _ _ _ _ _ _ _ _ _ _ _ _ _ _ _ _ _) 23 rfl rfl ml_X6_138 im_X4_leastWith se_X4_leastWith it_X4 co_X4_leastWith (by decide +kernel) rfl rfl rfl ⟨by decide, by decide⟩ ⟨by decide, by decide⟩ [23, 24, 25, 26, 27, 13, 14, 15, 16, 17, 18, 19, 20, 21, 22] rfl rfl rfl (Nat.le_of_ble_eq_true rfl) dX6_piece_135 (fun _ => ⟨e4a, e4c, e5a, e5b, by omega, by omega⟩) (fun zk135 uk135 rzk135 ruk135 rak135 hqk135 => ?_)
          obtain ⟨lzk135, uzk135⟩ := rzk135
          obtain ⟨rfl, hk135⟩ := hqk135
          simp only [zput, List.set_cons_zero, List.set_cons_succ, List.append_nil, Nat.add_zero]
          refine B.ireturn (pc := 138) (by simp) dX6_piece_138 (Nat.le_refl _) (Nat.le_refl _) (fun rz rw => ⟨_, _, _, _, _, _, _, _, _, _, _, _, _, _, _, rfl, ?_⟩)
          exact hE2
        refine B.tsOut (pc := 32) (tgt := 139) dX6_piece_32 (by omega) (by decide) ?_
        refine B.bipush (pc := 139) dX6_piece_139 ⟨by decide, by decide⟩ ?_
        refine B.ireturn (pc := 141) (by simp) dX6_piece_141 (Nat.le_refl _) (Nat.le_refl _) (fun rz rw => ⟨_, _, _, _, _, _, _, _, _, _, _, _, _, _, _, rfl, ?_⟩)
        exact hC
      · refine B.iconst (pc := 29) dX6_piece_29 ⟨by decide, by decide⟩ ?_
        refine B.ireturn (pc := 30) (by simp) dX6_piece_30 (Nat.le_refl _) (Nat.le_refl _) (fun rz rw => ⟨_, _, _, _, _, _, _, _, _, _, _, _, _, _, _, rfl, ?_⟩)
        exact hC
  · refine B.bipush (pc := 7) dX6_piece_7 ⟨by decide, by decide⟩ ?_
    refine B.ireturn (pc := 9) (by simp) dX6_piece_9 (Nat.le_refl _) (Nat.le_refl _) (fun rz rw => ⟨_, _, _, _, _, _, _, _, _, _, _, _, _, _, _, rfl, ?_⟩)
    exact hP
set_option maxHeartbeats 4000000 in
set_option maxRecDepth 100000 in
theorem mX6_cutting {l : Launch} {D : va_G} {k : zK} {E : zE} (hE : zEok E) (c_a c_pad_a c_pad_signs_a c_book_a c_book_dictionary_a c_book_dictionary_letters_a c_book_dictionary_lengths_a c_book_dictionary_kinds_a c_book_dictionary_costs_a c_book_joins_a c_book_rules_a c_book_line_a c_images_a c_net_a c_net_places_a c_net_lengths_a c_net_kinds_a c_net_costs_a c_net_words_a c_net_firsts_a c_net_joins_a c_net_slots_a c_net_routes_a c_ranking_a c_ranking_before_a c_ranking_counts_a c_ranking_kept_a c_ranking_followed_a c_writing_a c_writing_signs_a : Nat) (c_pad_count c_pad_letters c_pad_kind c_pad_cost c_book_dictionary_count c_book_lineLength c_net_lineLength c_net_count c_writing_count c_netStands c_rankingStands i j : Int) (c_pad_signs c_book_dictionary_letters c_book_dictionary_lengths c_book_dictionary_kinds c_book_dictionary_costs c_book_joins c_book_rules c_book_line c_net_places c_net_lengths c_net_kinds c_net_costs c_net_words c_net_firsts c_net_joins c_net_slots c_net_routes c_ranking_before c_ranking_counts c_ranking_kept c_ranking_followed c_writing_signs : Nat → Int) (c_images : Nat → Option Nat) : zMi l D k E yX6_cutting cX6_cutting 4 .int { frames := 7, cells := 0, slots := 0, locals := 154 } 0 0 [.inr (some c_a), .inl i, .inl j] [(c_a, .inr (.inr (6, [.inr (some c_pad_a), .inr (some c_book_a), .inr (some c_images_a), .inr (some c_net_a), .inr (some c_ranking_a), .inr (some c_writing_a), .inl c_netStands, .inl c_rankingStands]))), (c_pad_a, .inr (.inr (3, [.inr (some c_pad_signs_a), .inl c_pad_count, .inl c_pad_letters, .inl c_pad_kind, .inl c_pad_cost]))), (c_pad_signs_a, .inl (false, 40, c_pad_signs)), (c_book_a, .inr (.inr (0, [.inr (some c_book_dictionary_a), .inr (some c_book_joins_a), .inr (some c_book_rules_a), .inr (some c_book_line_a), .inl c_book_lineLength]))), (c_book_dictionary_a, .inr (.inr (1, [.inr (some c_book_dictionary_letters_a), .inr (some c_book_dictionary_lengths_a), .inr (some c_book_dictionary_kinds_a), .inr (some c_book_dictionary_costs_a), .inl c_book_dictionary_count]))), (c_book_dictionary_letters_a, .inl (false, 96, c_book_dictionary_letters)), (c_book_dictionary_lengths_a, .inl (false, 16, c_book_dictionary_lengths)), (c_book_dictionary_kinds_a, .inl (false, 16, c_book_dictionary_kinds)), (c_book_dictionary_costs_a, .inl (false, 16, c_book_dictionary_costs)), (c_book_joins_a, .inl (false, 25, c_book_joins)), (c_book_rules_a, .inl (false, 4, c_book_rules)), (c_book_line_a, .inl (false, 24, c_book_line)), (c_images_a, .inr (.inl (2, c_images))), (c_net_a, .inr (.inr (2, [.inl c_net_lineLength, .inl c_net_count, .inr (some c_net_places_a), .inr (some c_net_lengths_a), .inr (some c_net_kinds_a), .inr (some c_net_costs_a), .inr (some c_net_words_a), .inr (some c_net_firsts_a), .inr (some c_net_joins_a), .inr (some c_net_slots_a), .inr (some c_net_routes_a)]))), (c_net_places_a, .inl (false, 480, c_net_places)), (c_net_lengths_a, .inl (false, 480, c_net_lengths)), (c_net_kinds_a, .inl (false, 480, c_net_kinds)), (c_net_costs_a, .inl (false, 480, c_net_costs)), (c_net_words_a, .inl (false, 480, c_net_words)), (c_net_firsts_a, .inl (false, 25, c_net_firsts)), (c_net_joins_a, .inl (false, 25, c_net_joins)), (c_net_slots_a, .inl (false, 28, c_net_slots)), (c_net_routes_a, .inl (false, 25, c_net_routes)), (c_ranking_a, .inr (.inr (4, [.inr (some c_ranking_before_a), .inr (some c_ranking_counts_a), .inr (some c_ranking_kept_a), .inr (some c_ranking_followed_a)]))), (c_ranking_before_a, .inl (false, 125, c_ranking_before)), (c_ranking_counts_a, .inl (false, 125, c_ranking_counts)), (c_ranking_kept_a, .inl (false, 1500, c_ranking_kept)), (c_ranking_followed_a, .inl (false, 24, c_ranking_followed)), (c_writing_a, .inr (.inr (5, [.inr (some c_writing_signs_a), .inl c_writing_count]))), (c_writing_signs_a, .inl (false, 71, c_writing_signs))] (CI c_pad_count c_book_dictionary_count c_book_dictionary_lengths c_book_dictionary_kinds c_book_dictionary_costs c_book_joins c_book_rules c_book_lineLength c_net_lineLength c_net_count c_net_places c_net_lengths c_net_kinds c_net_costs c_net_firsts c_net_joins c_ranking_counts c_ranking_kept c_ranking_followed c_writing_count c_netStands) (fun z u => ∃ (c_net_lineLength' : Int) (c_net_count' : Int) (c_net_places' : Nat → Int) (c_net_lengths' : Nat → Int) (c_net_kinds' : Nat → Int) (c_net_costs' : Nat → Int) (c_net_words' : Nat → Int) (c_net_firsts' : Nat → Int) (c_net_joins' : Nat → Int) (c_net_slots' : Nat → Int) (c_netStands' : Int) (c_rankingStands' : Int) (c_ranking_before' : Nat → Int) (c_ranking_counts' : Nat → Int) (c_ranking_kept' : Nat → Int) (c_ranking_followed' : Nat → Int), u = [(c_a, .inr (.inr (6, [.inr (some c_pad_a), .inr (some c_book_a), .inr (some c_images_a), .inr (some c_net_a), .inr (some c_ranking_a), .inr (some c_writing_a), .inl c_netStands', .inl c_rankingStands']))), (c_pad_a, .inr (.inr (3, [.inr (some c_pad_signs_a), .inl c_pad_count, .inl c_pad_letters, .inl c_pad_kind, .inl c_pad_cost]))), (c_pad_signs_a, .inl (false, 40, c_pad_signs)), (c_book_a, .inr (.inr (0, [.inr (some c_book_dictionary_a), .inr (some c_book_joins_a), .inr (some c_book_rules_a), .inr (some c_book_line_a), .inl c_book_lineLength]))), (c_book_dictionary_a, .inr (.inr (1, [.inr (some c_book_dictionary_letters_a), .inr (some c_book_dictionary_lengths_a), .inr (some c_book_dictionary_kinds_a), .inr (some c_book_dictionary_costs_a), .inl c_book_dictionary_count]))), (c_book_dictionary_letters_a, .inl (false, 96, c_book_dictionary_letters)), (c_book_dictionary_lengths_a, .inl (false, 16, c_book_dictionary_lengths)), (c_book_dictionary_kinds_a, .inl (false, 16, c_book_dictionary_kinds)), (c_book_dictionary_costs_a, .inl (false, 16, c_book_dictionary_costs)), (c_book_joins_a, .inl (false, 25, c_book_joins)), (c_book_rules_a, .inl (false, 4, c_book_rules)), (c_book_line_a, .inl (false, 24, c_book_line)), (c_images_a, .inr (.inl (2, c_images))), (c_net_a, .inr (.inr (2, [.inl c_net_lineLength', .inl c_net_count', .inr (some c_net_places_a), .inr (some c_net_lengths_a), .inr (some c_net_kinds_a), .inr (some c_net_costs_a), .inr (some c_net_words_a), .inr (some c_net_firsts_a), .inr (some c_net_joins_a), .inr (some c_net_slots_a), .inr (some c_net_routes_a)]))), (c_net_places_a, .inl (false, 480, c_net_places')), (c_net_lengths_a, .inl (false, 480, c_net_lengths')), (c_net_kinds_a, .inl (false, 480, c_net_kinds')), (c_net_costs_a, .inl (false, 480, c_net_costs')), (c_net_words_a, .inl (false, 480, c_net_words')), (c_net_firsts_a, .inl (false, 25, c_net_firsts')), (c_net_joins_a, .inl (false, 25, c_net_joins')), (c_net_slots_a, .inl (false, 28, c_net_slots')), (c_net_routes_a, .inl (false, 25, c_net_routes)), (c_ranking_a, .inr (.inr (4, [.inr (some c_ranking_before_a), .inr (some c_ranking_counts_a), .inr (some c_ranking_kept_a), .inr (some c_ranking_followed_a)]))), (c_ranking_before_a, .inl (false, 125, c_ranking_before')), (c_ranking_counts_a, .inl (false, 125, c_ranking_counts')), (c_ranking_kept_a, .inl (false, 1500, c_ranking_kept')), (c_ranking_followed_a, .inl (false, 24, c_ranking_followed')), (c_writing_a, .inr (.inr (5, [.inr (some c_writing_signs_a), .inl c_writing_count]))), (c_writing_signs_a, .inl (false, 71, c_writing_signs))] ∧ (CI c_pad_count c_book_dictionary_count c_book_dictionary_lengths c_book_dictionary_kinds c_book_dictionary_costs c_book_joins c_book_rules c_book_lineLength c_net_lineLength' c_net_count' c_net_places' c_net_lengths' c_net_kinds' c_net_costs' c_net_firsts' c_net_joins' c_ranking_counts' c_ranking_kept' c_ranking_followed' c_writing_count c_netStands')) := by
  refine zMi.of RX6 hE (by decide) rfl (by simp) (fun _ _ _ _ => rfl) ?_
  intro Z hP hav hwr B
  obtain ⟨l_i, u_i⟩ : zR i := hav (.inl i) (by simp)
  obtain ⟨l_j, u_j⟩ : zR j := hav (.inl j) (by simp)
  obtain ⟨l_c_netStands, u_c_netStands⟩ : zR c_netStands := zWr_at hwr (i := 0) rfl (.inl c_netStands) (by simp)
  obtain ⟨l_c_rankingStands, u_c_rankingStands⟩ : zR c_rankingStands := zWr_at hwr (i := 0) rfl (.inl c_rankingStands) (by simp)
  obtain ⟨l_c_pad_count, u_c_pad_count⟩ : zR c_pad_count := zWr_at hwr (i := 1) rfl (.inl c_pad_count) (by simp)
  obtain ⟨l_c_pad_letters, u_c_pad_letters⟩ : zR c_pad_letters := zWr_at hwr (i := 1) rfl (.inl c_pad_letters) (by simp)
  obtain ⟨l_c_pad_kind, u_c_pad_kind⟩ : zR c_pad_kind := zWr_at hwr (i := 1) rfl (.inl c_pad_kind) (by simp)
  obtain ⟨l_c_pad_cost, u_c_pad_cost⟩ : zR c_pad_cost := zWr_at hwr (i := 1) rfl (.inl c_pad_cost) (by simp)
  obtain ⟨l_c_book_lineLength, u_c_book_lineLength⟩ : zR c_book_lineLength := zWr_at hwr (i := 3) rfl (.inl c_book_lineLength) (by simp)
  obtain ⟨l_c_book_dictionary_count, u_c_book_dictionary_count⟩ : zR c_book_dictionary_count := zWr_at hwr (i := 4) rfl (.inl c_book_dictionary_count) (by simp)
  obtain ⟨l_c_net_lineLength, u_c_net_lineLength⟩ : zR c_net_lineLength := zWr_at hwr (i := 13) rfl (.inl c_net_lineLength) (by simp)
  obtain ⟨l_c_net_count, u_c_net_count⟩ : zR c_net_count := zWr_at hwr (i := 13) rfl (.inl c_net_count) (by simp)
  obtain ⟨l_c_writing_count, u_c_writing_count⟩ : zR c_writing_count := zWr_at hwr (i := 28) rfl (.inl c_writing_count) (by simp)
  obtain ⟨h1, h2, h3, h4, h5, h6, h7⟩ := id hP
  obtain ⟨h3a, h3b⟩ := id h3
  obtain ⟨h2a, h2b, h2c⟩ := id h2
  obtain ⟨h4a, h4b, h4c, h4d, h4e, h4f, h4g⟩ := id h4
  obtain ⟨h5a, h5b, h5c⟩ := id h5
  show Z 0 0 0 [some (.inr (some c_a)), some (.inl i), some (.inl j), none] [] _
  refine B.aload_n (pc := 0) (i := 0) dX6_cutting_0 rfl rfl ?_
  refine B.callVi (pc := 1) 0 (mX6_hasLine hE _ _ _ _ _ _ _ _ _ _ _ _ _ _ _ _ _ _ _ _ _ _ _ _ _ _ _ _ _ _ _ _ _ _ _ _ _ _ _ _ _ _ _ _ _ _ _ _ _ _ _ _ _ _ _ _ _ _ _ _ _ _ _ _) 0 rfl rfl ml_X6_112 im_X6_hasLine se_X6_hasLine it_X6 co_X6_hasLine (by decide +kernel) rfl rfl rfl ⟨by decide, by decide⟩ ⟨by decide, by decide⟩ [0, 1, 2, 3, 4, 5, 6, 7, 8, 9, 10, 11, 12, 13, 14, 15, 16, 17, 18, 19, 20, 21, 22, 23, 24, 25, 26, 27, 28, 29] rfl rfl rfl (Nat.le_of_ble_eq_true rfl) dX6_cutting_1 (fun _ => trivial) (fun zk1 uk1 rzk1 ruk1 rak1 hqk1 => ?_)
  obtain ⟨lzk1, uzk1⟩ := rzk1
  obtain ⟨rfl, hk1⟩ := hqk1
  simp only [zput, List.set_cons_zero, List.set_cons_succ, List.append_nil, Nat.add_zero]
  refine B.if_ne (pc := 4) (tgt := 10) dX6_cutting_4 (by decide) (fun c4 => ?_) (fun c4 => ?_)
  · refine B.iload_n (pc := 10) (i := 1) dX6_cutting_10 rfl rfl ?_
    refine B.if_lt (pc := 11) (tgt := 20) dX6_cutting_11 (by decide) (fun c11 => ?_) (fun c11 => ?_)
    · refine B.iconst (pc := 20) dX6_cutting_20 ⟨by decide, by decide⟩ ?_
      refine B.ireturn (pc := 21) (by simp) dX6_cutting_21 (Nat.le_refl _) (Nat.le_refl _) (fun rz rw => ⟨_, _, _, _, _, _, _, _, _, _, _, _, _, _, _, _, rfl, ?_⟩)
      exact hP
    · refine B.iload_n (pc := 14) (i := 1) dX6_cutting_14 rfl rfl ?_
      refine B.bipush (pc := 15) dX6_cutting_15 ⟨by decide, by decide⟩ ?_
      refine B.icmp_lt (pc := 17) (tgt := 22) dX6_cutting_17 (by decide) (fun c17 => ?_) (fun c17 => ?_)
      · refine B.iload_n (pc := 22) (i := 2) dX6_cutting_22 rfl rfl ?_
        refine B.bipush (pc := 23) dX6_cutting_23 ⟨by decide, by decide⟩ ?_
        refine B.icmp_ge (pc := 25) (tgt := 31) dX6_cutting_25 (by decide) (fun c25 => ?_) (fun c25 => ?_)
        · refine B.aload_n (pc := 31) (i := 0) dX6_cutting_31 rfl rfl ?_
          refine B.callVv (pc := 32) 0 (mX6_makeRanking hE _ _ _ _ _ _ _ _ _ _ _ _ _ _ _ _ _ _ _ _ _ _ _ _ _ _ _ _ _ _ _ _ _ _ _ _ _ _ _ _ _ _ _ _ _ _ _ _ _ _ _ _ _ _ _ _ _ _ _ _ _ _ _ _) 0 rfl rfl ml_X6_135 im_X6_makeRanking se_X6_makeRanking it_X6 co_X6_makeRanking (by decide +kernel) rfl rfl rfl ⟨by decide, by decide⟩ ⟨by decide, by decide⟩ [0, 1, 2, 3, 4, 5, 6, 7, 8, 9, 10, 11, 12, 13, 14, 15, 16, 17, 18, 19, 20, 21, 22, 23, 24, 25, 26, 27, 28, 29] rfl rfl rfl (Nat.le_of_ble_eq_true rfl) dX6_cutting_32 (fun _ => ⟨hP, by omega⟩) (fun uk32 ruk32 rak32 hqk32 => ?_)
          obtain ⟨c_net_lineLength_k32, c_net_count_k32, c_net_places_k32, c_net_lengths_k32, c_net_kinds_k32, c_net_costs_k32, c_net_words_k32, c_net_firsts_k32, c_net_joins_k32, c_net_slots_k32, c_netStands_k32, c_rankingStands_k32, c_ranking_before_k32, c_ranking_counts_k32, c_ranking_kept_k32, rfl, hk32⟩ := hqk32
          simp only [zput, List.set_cons_zero, List.set_cons_succ, List.append_nil, Nat.add_zero]
          obtain ⟨hC, hns⟩ := hk32
          obtain ⟨g1, g2, g3, g4, g5, g6, g7⟩ := id hC
          obtain ⟨g4a, g4b, g4c, g4d, g4e, g4f, g4g⟩ := id g4
          obtain ⟨g5a, g5b, g5c⟩ := id g5
          refine B.iload_n (pc := 35) (i := 1) dX6_cutting_35 rfl rfl ?_
          refine B.aload_n (pc := 36) (i := 0) dX6_cutting_36 rfl rfl ?_
          refine B.getfield (pc := 37) 0 rfl rfl inX6z 4 (by decide) fl_X6_37 rfl dX6_cutting_37 ?_
          refine B.callVi (pc := 40) 0 (mX4_cuttings hE _ _ _ _ _ _ _ _ _) 23 rfl rfl ml_X6_145 im_X4_cuttings se_X4_cuttings it_X4 co_X4_cuttings (by decide +kernel) rfl rfl rfl ⟨by decide, by decide⟩ ⟨by decide, by decide⟩ [23, 24, 25, 26, 27] rfl rfl rfl (Nat.le_of_ble_eq_true rfl) dX6_cutting_40 (fun _ => g5a) (fun zk40 uk40 rzk40 ruk40 rak40 hqk40 => ?_)
          obtain ⟨lzk40, uzk40⟩ := rzk40
          obtain ⟨rfl, hk40⟩ := hqk40
          simp only [zput, List.set_cons_zero, List.set_cons_succ, List.append_nil, Nat.add_zero]
          refine B.icmp_lt (pc := 43) (tgt := 49) dX6_cutting_43 (by decide) (fun c43 => ?_) (fun c43 => ?_)
          · refine B.iload_n (pc := 49) (i := 2) dX6_cutting_49 rfl rfl ?_
            refine B.iconst (pc := 50) dX6_cutting_50 ⟨by decide, by decide⟩ ?_
            refine B.icmp_ne (pc := 51) (tgt := 63) dX6_cutting_51 (by decide) (fun c51 => ?_) (fun c51 => ?_)
            · refine B.aload_n (pc := 63) (i := 0) dX6_cutting_63 rfl rfl ?_
              refine B.getfield (pc := 64) 0 rfl rfl inX6z 4 (by decide) fl_X6_37 rfl dX6_cutting_64 ?_
              refine B.aload_n (pc := 67) (i := 0) dX6_cutting_67 rfl rfl ?_
              refine B.getfield (pc := 68) 0 rfl rfl inX6z 3 (by decide) fl_X6_30 rfl dX6_cutting_68 ?_
              refine B.iload_n (pc := 71) (i := 1) dX6_cutting_71 rfl rfl ?_
              refine B.callVi (pc := 72) 2 (mX4_follow hE _ _ _ _ _ _ _ _ _ _ _ _ _ _ _ _ _ _ _ _ _ _ _ _ _ _ _ _ _ _ _) 23 rfl rfl ml_X6_152 im_X4_follow se_X4_follow it_X4 co_X4_follow (by decide +kernel) rfl rfl rfl ⟨by decide, by decide⟩ ⟨by decide, by decide⟩ [23, 24, 25, 26, 27, 13, 14, 15, 16, 17, 18, 19, 20, 21, 22] rfl rfl rfl (Nat.le_of_ble_eq_true rfl) dX6_cutting_72 (fun _ => ⟨g4a, g5b, g5c, g4f, g4g, by omega, by omega⟩) (fun zk72 uk72 rzk72 ruk72 rak72 hqk72 => ?_)
              obtain ⟨lzk72, uzk72⟩ := rzk72
              obtain ⟨k_followed_k72, rfl, hk72⟩ := hqk72
              simp only [zput, List.set_cons_zero, List.set_cons_succ, List.append_nil, Nat.add_zero]
              refine B.istore_n (pc := 75) (i := 3) dX6_cutting_75 rfl (by decide) ?_
              simp only [List.set_cons_zero, List.set_cons_succ]
              refine B.iload_n (pc := 76) (i := 2) dX6_cutting_76 rfl rfl ?_
              refine B.bipush (pc := 77) dX6_cutting_77 ⟨by decide, by decide⟩ ?_
              refine B.icmp_ne (pc := 79) (tgt := 84) dX6_cutting_79 (by decide) (fun c79 => ?_) (fun c79 => ?_)
              · refine B.iload_n (pc := 84) (i := 2) dX6_cutting_84 rfl rfl ?_
                refine B.iload_n (pc := 85) (i := 3) dX6_cutting_85 rfl rfl ?_
                refine B.icmp_ge (pc := 86) (tgt := 101) dX6_cutting_86 (by decide) (fun c86 => ?_) (fun c86 => ?_)
                · refine B.bipush (pc := 101) dX6_cutting_101 ⟨by decide, by decide⟩ ?_
                  refine B.ireturn (pc := 103) (by simp) dX6_cutting_103 (Nat.le_refl _) (Nat.le_refl _) (fun rz rw => ⟨_, _, _, _, _, _, _, _, _, _, _, _, _, _, _, _, rfl, ?_⟩)
                  exact ⟨g1, g2, g3, g4, ⟨g5a, g5b, hk72.2.2⟩, g6, g7⟩
                · refine B.aload_n (pc := 89) (i := 0) dX6_cutting_89 rfl rfl ?_
                  refine B.getfield (pc := 90) 0 rfl rfl inX6z 4 (by decide) fl_X6_37 rfl dX6_cutting_90 ?_
                  refine B.getfield (pc := 93) 23 rfl rfl inX4z 3 (by decide) fl_X6_155 rfl dX6_cutting_93 ?_
                  refine B.iload_n (pc := 96) (i := 2) dX6_cutting_96 rfl rfl ?_
                  refine B.iaload (pc := 97) 27 rfl (by omega) (by omega) dX6_cutting_97 (fun r97 => ?_)
                  obtain ⟨lr97, ur97⟩ := r97
                  refine B.goto (pc := 98) (tgt := 103) dX6_cutting_98 (by decide) ?_
                  refine B.ireturn (pc := 103) (by simp) dX6_cutting_103 (Nat.le_refl _) (Nat.le_refl _) (fun rz rw => ⟨_, _, _, _, _, _, _, _, _, _, _, _, _, _, _, _, rfl, ?_⟩)
                  exact ⟨g1, g2, g3, g4, ⟨g5a, g5b, hk72.2.2⟩, g6, g7⟩
              · refine B.iload_n (pc := 82) (i := 3) dX6_cutting_82 rfl rfl ?_
                refine B.ireturn (pc := 83) (by simp) dX6_cutting_83 (Nat.le_refl _) (Nat.le_refl _) (fun rz rw => ⟨_, _, _, _, _, _, _, _, _, _, _, _, _, _, _, _, rfl, ?_⟩)
                exact ⟨g1, g2, g3, g4, ⟨g5a, g5b, hk72.2.2⟩, g6, g7⟩
            · refine B.aload_n (pc := 54) (i := 0) dX6_cutting_54 rfl rfl ?_
              refine B.getfield (pc := 55) 0 rfl rfl inX6z 4 (by decide) fl_X6_37 rfl dX6_cutting_55 ?_
              refine B.iload_n (pc := 58) (i := 1) dX6_cutting_58 rfl rfl ?_
              refine B.callVi (pc := 59) 1 (mX4_costOf hE _ _ _ _ _ _ _ _ _ _) 23 rfl rfl ml_X6_148 im_X4_costOf se_X4_costOf it_X4 co_X4_costOf (by decide +kernel) rfl rfl rfl ⟨by decide, by decide⟩ ⟨by decide, by decide⟩ [23, 24, 25, 26, 27] rfl rfl rfl (Nat.le_of_ble_eq_true rfl) dX6_cutting_59 (fun _ => ⟨g5b, by omega, by omega⟩) (fun zk59 uk59 rzk59 ruk59 rak59 hqk59 => ?_)
              obtain ⟨lzk59, uzk59⟩ := rzk59
              obtain ⟨rfl, hk59⟩ := hqk59
              simp only [zput, List.set_cons_zero, List.set_cons_succ, List.append_nil, Nat.add_zero]
              refine B.ireturn (pc := 62) (by simp) dX6_cutting_62 (Nat.le_refl _) (Nat.le_refl _) (fun rz rw => ⟨_, _, _, _, _, _, _, _, _, _, _, _, _, _, _, _, rfl, ?_⟩)
              exact hC
          · refine B.bipush (pc := 46) dX6_cutting_46 ⟨by decide, by decide⟩ ?_
            refine B.ireturn (pc := 48) (by simp) dX6_cutting_48 (Nat.le_refl _) (Nat.le_refl _) (fun rz rw => ⟨_, _, _, _, _, _, _, _, _, _, _, _, _, _, _, _, rfl, ?_⟩)
            exact hC
        · refine B.bipush (pc := 28) dX6_cutting_28 ⟨by decide, by decide⟩ ?_
          refine B.ireturn (pc := 30) (by simp) dX6_cutting_30 (Nat.le_refl _) (Nat.le_refl _) (fun rz rw => ⟨_, _, _, _, _, _, _, _, _, _, _, _, _, _, _, _, rfl, ?_⟩)
          exact hP
      · refine B.iconst (pc := 20) dX6_cutting_20 ⟨by decide, by decide⟩ ?_
        refine B.ireturn (pc := 21) (by simp) dX6_cutting_21 (Nat.le_refl _) (Nat.le_refl _) (fun rz rw => ⟨_, _, _, _, _, _, _, _, _, _, _, _, _, _, _, _, rfl, ?_⟩)
        exact hP
  · refine B.bipush (pc := 7) dX6_cutting_7 ⟨by decide, by decide⟩ ?_
    refine B.ireturn (pc := 9) (by simp) dX6_cutting_9 (Nat.le_refl _) (Nat.le_refl _) (fun rz rw => ⟨_, _, _, _, _, _, _, _, _, _, _, _, _, _, _, _, rfl, ?_⟩)
    exact hP
set_option maxHeartbeats 4000000 in
set_option maxRecDepth 100000 in
theorem mX6_sure {l : Launch} {D : va_G} {k : zK} {E : zE} (hE : zEok E) (c_a c_pad_a c_pad_signs_a c_book_a c_book_dictionary_a c_book_dictionary_letters_a c_book_dictionary_lengths_a c_book_dictionary_kinds_a c_book_dictionary_costs_a c_book_joins_a c_book_rules_a c_book_line_a c_images_a c_net_a c_net_places_a c_net_lengths_a c_net_kinds_a c_net_costs_a c_net_words_a c_net_firsts_a c_net_joins_a c_net_slots_a c_net_routes_a c_ranking_a c_ranking_before_a c_ranking_counts_a c_ranking_kept_a c_ranking_followed_a c_writing_a c_writing_signs_a : Nat) (c_pad_count c_pad_letters c_pad_kind c_pad_cost c_book_dictionary_count c_book_lineLength c_net_lineLength c_net_count c_writing_count c_netStands c_rankingStands d : Int) (c_pad_signs c_book_dictionary_letters c_book_dictionary_lengths c_book_dictionary_kinds c_book_dictionary_costs c_book_joins c_book_rules c_book_line c_net_places c_net_lengths c_net_kinds c_net_costs c_net_words c_net_firsts c_net_joins c_net_slots c_net_routes c_ranking_before c_ranking_counts c_ranking_kept c_ranking_followed c_writing_signs : Nat → Int) (c_images : Nat → Option Nat) : zMi l D k E yX6_sure cX6_sure 2 .int { frames := 7, cells := 0, slots := 0, locals := 154 } 0 0 [.inr (some c_a), .inl d] [(c_a, .inr (.inr (6, [.inr (some c_pad_a), .inr (some c_book_a), .inr (some c_images_a), .inr (some c_net_a), .inr (some c_ranking_a), .inr (some c_writing_a), .inl c_netStands, .inl c_rankingStands]))), (c_pad_a, .inr (.inr (3, [.inr (some c_pad_signs_a), .inl c_pad_count, .inl c_pad_letters, .inl c_pad_kind, .inl c_pad_cost]))), (c_pad_signs_a, .inl (false, 40, c_pad_signs)), (c_book_a, .inr (.inr (0, [.inr (some c_book_dictionary_a), .inr (some c_book_joins_a), .inr (some c_book_rules_a), .inr (some c_book_line_a), .inl c_book_lineLength]))), (c_book_dictionary_a, .inr (.inr (1, [.inr (some c_book_dictionary_letters_a), .inr (some c_book_dictionary_lengths_a), .inr (some c_book_dictionary_kinds_a), .inr (some c_book_dictionary_costs_a), .inl c_book_dictionary_count]))), (c_book_dictionary_letters_a, .inl (false, 96, c_book_dictionary_letters)), (c_book_dictionary_lengths_a, .inl (false, 16, c_book_dictionary_lengths)), (c_book_dictionary_kinds_a, .inl (false, 16, c_book_dictionary_kinds)), (c_book_dictionary_costs_a, .inl (false, 16, c_book_dictionary_costs)), (c_book_joins_a, .inl (false, 25, c_book_joins)), (c_book_rules_a, .inl (false, 4, c_book_rules)), (c_book_line_a, .inl (false, 24, c_book_line)), (c_images_a, .inr (.inl (2, c_images))), (c_net_a, .inr (.inr (2, [.inl c_net_lineLength, .inl c_net_count, .inr (some c_net_places_a), .inr (some c_net_lengths_a), .inr (some c_net_kinds_a), .inr (some c_net_costs_a), .inr (some c_net_words_a), .inr (some c_net_firsts_a), .inr (some c_net_joins_a), .inr (some c_net_slots_a), .inr (some c_net_routes_a)]))), (c_net_places_a, .inl (false, 480, c_net_places)), (c_net_lengths_a, .inl (false, 480, c_net_lengths)), (c_net_kinds_a, .inl (false, 480, c_net_kinds)), (c_net_costs_a, .inl (false, 480, c_net_costs)), (c_net_words_a, .inl (false, 480, c_net_words)), (c_net_firsts_a, .inl (false, 25, c_net_firsts)), (c_net_joins_a, .inl (false, 25, c_net_joins)), (c_net_slots_a, .inl (false, 28, c_net_slots)), (c_net_routes_a, .inl (false, 25, c_net_routes)), (c_ranking_a, .inr (.inr (4, [.inr (some c_ranking_before_a), .inr (some c_ranking_counts_a), .inr (some c_ranking_kept_a), .inr (some c_ranking_followed_a)]))), (c_ranking_before_a, .inl (false, 125, c_ranking_before)), (c_ranking_counts_a, .inl (false, 125, c_ranking_counts)), (c_ranking_kept_a, .inl (false, 1500, c_ranking_kept)), (c_ranking_followed_a, .inl (false, 24, c_ranking_followed)), (c_writing_a, .inr (.inr (5, [.inr (some c_writing_signs_a), .inl c_writing_count]))), (c_writing_signs_a, .inl (false, 71, c_writing_signs))] (CI c_pad_count c_book_dictionary_count c_book_dictionary_lengths c_book_dictionary_kinds c_book_dictionary_costs c_book_joins c_book_rules c_book_lineLength c_net_lineLength c_net_count c_net_places c_net_lengths c_net_kinds c_net_costs c_net_firsts c_net_joins c_ranking_counts c_ranking_kept c_ranking_followed c_writing_count c_netStands) (fun z u => ∃ (c_net_lineLength' : Int) (c_net_count' : Int) (c_net_places' : Nat → Int) (c_net_lengths' : Nat → Int) (c_net_kinds' : Nat → Int) (c_net_costs' : Nat → Int) (c_net_words' : Nat → Int) (c_net_firsts' : Nat → Int) (c_net_joins' : Nat → Int) (c_net_slots' : Nat → Int) (c_netStands' : Int) (c_rankingStands' : Int) (c_ranking_before' : Nat → Int) (c_ranking_counts' : Nat → Int) (c_ranking_kept' : Nat → Int), u = [(c_a, .inr (.inr (6, [.inr (some c_pad_a), .inr (some c_book_a), .inr (some c_images_a), .inr (some c_net_a), .inr (some c_ranking_a), .inr (some c_writing_a), .inl c_netStands', .inl c_rankingStands']))), (c_pad_a, .inr (.inr (3, [.inr (some c_pad_signs_a), .inl c_pad_count, .inl c_pad_letters, .inl c_pad_kind, .inl c_pad_cost]))), (c_pad_signs_a, .inl (false, 40, c_pad_signs)), (c_book_a, .inr (.inr (0, [.inr (some c_book_dictionary_a), .inr (some c_book_joins_a), .inr (some c_book_rules_a), .inr (some c_book_line_a), .inl c_book_lineLength]))), (c_book_dictionary_a, .inr (.inr (1, [.inr (some c_book_dictionary_letters_a), .inr (some c_book_dictionary_lengths_a), .inr (some c_book_dictionary_kinds_a), .inr (some c_book_dictionary_costs_a), .inl c_book_dictionary_count]))), (c_book_dictionary_letters_a, .inl (false, 96, c_book_dictionary_letters)), (c_book_dictionary_lengths_a, .inl (false, 16, c_book_dictionary_lengths)), (c_book_dictionary_kinds_a, .inl (false, 16, c_book_dictionary_kinds)), (c_book_dictionary_costs_a, .inl (false, 16, c_book_dictionary_costs)), (c_book_joins_a, .inl (false, 25, c_book_joins)), (c_book_rules_a, .inl (false, 4, c_book_rules)), (c_book_line_a, .inl (false, 24, c_book_line)), (c_images_a, .inr (.inl (2, c_images))), (c_net_a, .inr (.inr (2, [.inl c_net_lineLength', .inl c_net_count', .inr (some c_net_places_a), .inr (some c_net_lengths_a), .inr (some c_net_kinds_a), .inr (some c_net_costs_a), .inr (some c_net_words_a), .inr (some c_net_firsts_a), .inr (some c_net_joins_a), .inr (some c_net_slots_a), .inr (some c_net_routes_a)]))), (c_net_places_a, .inl (false, 480, c_net_places')), (c_net_lengths_a, .inl (false, 480, c_net_lengths')), (c_net_kinds_a, .inl (false, 480, c_net_kinds')), (c_net_costs_a, .inl (false, 480, c_net_costs')), (c_net_words_a, .inl (false, 480, c_net_words')), (c_net_firsts_a, .inl (false, 25, c_net_firsts')), (c_net_joins_a, .inl (false, 25, c_net_joins')), (c_net_slots_a, .inl (false, 28, c_net_slots')), (c_net_routes_a, .inl (false, 25, c_net_routes)), (c_ranking_a, .inr (.inr (4, [.inr (some c_ranking_before_a), .inr (some c_ranking_counts_a), .inr (some c_ranking_kept_a), .inr (some c_ranking_followed_a)]))), (c_ranking_before_a, .inl (false, 125, c_ranking_before')), (c_ranking_counts_a, .inl (false, 125, c_ranking_counts')), (c_ranking_kept_a, .inl (false, 1500, c_ranking_kept')), (c_ranking_followed_a, .inl (false, 24, c_ranking_followed)), (c_writing_a, .inr (.inr (5, [.inr (some c_writing_signs_a), .inl c_writing_count]))), (c_writing_signs_a, .inl (false, 71, c_writing_signs))] ∧ (CI c_pad_count c_book_dictionary_count c_book_dictionary_lengths c_book_dictionary_kinds c_book_dictionary_costs c_book_joins c_book_rules c_book_lineLength c_net_lineLength' c_net_count' c_net_places' c_net_lengths' c_net_kinds' c_net_costs' c_net_firsts' c_net_joins' c_ranking_counts' c_ranking_kept' c_ranking_followed c_writing_count c_netStands')) := by
  refine zMi.of RX6 hE (by decide) rfl (by simp) (fun _ _ _ _ => rfl) ?_
  intro Z hP hav hwr B
  obtain ⟨l_d, u_d⟩ : zR d := hav (.inl d) (by simp)
  obtain ⟨l_c_netStands, u_c_netStands⟩ : zR c_netStands := zWr_at hwr (i := 0) rfl (.inl c_netStands) (by simp)
  obtain ⟨l_c_rankingStands, u_c_rankingStands⟩ : zR c_rankingStands := zWr_at hwr (i := 0) rfl (.inl c_rankingStands) (by simp)
  obtain ⟨l_c_pad_count, u_c_pad_count⟩ : zR c_pad_count := zWr_at hwr (i := 1) rfl (.inl c_pad_count) (by simp)
  obtain ⟨l_c_pad_letters, u_c_pad_letters⟩ : zR c_pad_letters := zWr_at hwr (i := 1) rfl (.inl c_pad_letters) (by simp)
  obtain ⟨l_c_pad_kind, u_c_pad_kind⟩ : zR c_pad_kind := zWr_at hwr (i := 1) rfl (.inl c_pad_kind) (by simp)
  obtain ⟨l_c_pad_cost, u_c_pad_cost⟩ : zR c_pad_cost := zWr_at hwr (i := 1) rfl (.inl c_pad_cost) (by simp)
  obtain ⟨l_c_book_lineLength, u_c_book_lineLength⟩ : zR c_book_lineLength := zWr_at hwr (i := 3) rfl (.inl c_book_lineLength) (by simp)
  obtain ⟨l_c_book_dictionary_count, u_c_book_dictionary_count⟩ : zR c_book_dictionary_count := zWr_at hwr (i := 4) rfl (.inl c_book_dictionary_count) (by simp)
  obtain ⟨l_c_net_lineLength, u_c_net_lineLength⟩ : zR c_net_lineLength := zWr_at hwr (i := 13) rfl (.inl c_net_lineLength) (by simp)
  obtain ⟨l_c_net_count, u_c_net_count⟩ : zR c_net_count := zWr_at hwr (i := 13) rfl (.inl c_net_count) (by simp)
  obtain ⟨l_c_writing_count, u_c_writing_count⟩ : zR c_writing_count := zWr_at hwr (i := 28) rfl (.inl c_writing_count) (by simp)
  obtain ⟨h1, h2, h3, h4, h5, h6, h7⟩ := id hP
  obtain ⟨h3a, h3b⟩ := id h3
  obtain ⟨h2a, h2b, h2c⟩ := id h2
  obtain ⟨h4a, h4b, h4c, h4d, h4e, h4f, h4g⟩ := id h4
  obtain ⟨h5a, h5b, h5c⟩ := id h5
  show Z 0 0 0 [some (.inr (some c_a)), some (.inl d)] [] _
  refine B.iload_n (pc := 0) (i := 1) dX6_sure_0 rfl rfl ?_
  refine B.if_lt (pc := 1) (tgt := 11) dX6_sure_1 (by decide) (fun c1 => ?_) (fun c1 => ?_)
  · refine B.bipush (pc := 11) dX6_sure_11 ⟨by decide, by decide⟩ ?_
    refine B.ireturn (pc := 13) (by simp) dX6_sure_13 (Nat.le_refl _) (Nat.le_refl _) (fun rz rw => ⟨_, _, _, _, _, _, _, _, _, _, _, _, _, _, _, rfl, ?_⟩)
    exact hP
  · refine B.iload_n (pc := 4) (i := 1) dX6_sure_4 rfl rfl ?_
    refine B.sipush (pc := 5) dX6_sure_5 ⟨by decide, by decide⟩ ?_
    refine B.icmp_le (pc := 8) (tgt := 14) dX6_sure_8 (by decide) (fun c8 => ?_) (fun c8 => ?_)
    · refine B.aload_n (pc := 14) (i := 0) dX6_sure_14 rfl rfl ?_
      refine B.callVi (pc := 15) 0 (mX6_hasLine hE _ _ _ _ _ _ _ _ _ _ _ _ _ _ _ _ _ _ _ _ _ _ _ _ _ _ _ _ _ _ _ _ _ _ _ _ _ _ _ _ _ _ _ _ _ _ _ _ _ _ _ _ _ _ _ _ _ _ _ _ _ _ _ _) 0 rfl rfl ml_X6_112 im_X6_hasLine se_X6_hasLine it_X6 co_X6_hasLine (by decide +kernel) rfl rfl rfl ⟨by decide, by decide⟩ ⟨by decide, by decide⟩ [0, 1, 2, 3, 4, 5, 6, 7, 8, 9, 10, 11, 12, 13, 14, 15, 16, 17, 18, 19, 20, 21, 22, 23, 24, 25, 26, 27, 28, 29] rfl rfl rfl (Nat.le_of_ble_eq_true rfl) dX6_sure_15 (fun _ => trivial) (fun zk15 uk15 rzk15 ruk15 rak15 hqk15 => ?_)
      obtain ⟨lzk15, uzk15⟩ := rzk15
      obtain ⟨rfl, hk15⟩ := hqk15
      simp only [zput, List.set_cons_zero, List.set_cons_succ, List.append_nil, Nat.add_zero]
      refine B.if_ne (pc := 18) (tgt := 24) dX6_sure_18 (by decide) (fun c18 => ?_) (fun c18 => ?_)
      · refine B.aload_n (pc := 24) (i := 0) dX6_sure_24 rfl rfl ?_
        refine B.callVv (pc := 25) 0 (mX6_makeRanking hE _ _ _ _ _ _ _ _ _ _ _ _ _ _ _ _ _ _ _ _ _ _ _ _ _ _ _ _ _ _ _ _ _ _ _ _ _ _ _ _ _ _ _ _ _ _ _ _ _ _ _ _ _ _ _ _ _ _ _ _ _ _ _ _) 0 rfl rfl ml_X6_135 im_X6_makeRanking se_X6_makeRanking it_X6 co_X6_makeRanking (by decide +kernel) rfl rfl rfl ⟨by decide, by decide⟩ ⟨by decide, by decide⟩ [0, 1, 2, 3, 4, 5, 6, 7, 8, 9, 10, 11, 12, 13, 14, 15, 16, 17, 18, 19, 20, 21, 22, 23, 24, 25, 26, 27, 28, 29] rfl rfl rfl (Nat.le_of_ble_eq_true rfl) dX6_sure_25 (fun _ => ⟨hP, by omega⟩) (fun uk25 ruk25 rak25 hqk25 => ?_)
        obtain ⟨c_net_lineLength_k25, c_net_count_k25, c_net_places_k25, c_net_lengths_k25, c_net_kinds_k25, c_net_costs_k25, c_net_words_k25, c_net_firsts_k25, c_net_joins_k25, c_net_slots_k25, c_netStands_k25, c_rankingStands_k25, c_ranking_before_k25, c_ranking_counts_k25, c_ranking_kept_k25, rfl, hk25⟩ := hqk25
        simp only [zput, List.set_cons_zero, List.set_cons_succ, List.append_nil, Nat.add_zero]
        obtain ⟨hC, hns⟩ := hk25
        obtain ⟨g1, g2, g3, g4, g5, g6, g7⟩ := id hC
        obtain ⟨g4a, g4b, g4c, g4d, g4e, g4f, g4g⟩ := id g4
        obtain ⟨g5a, g5b, g5c⟩ := id g5
        refine B.aload_n (pc := 28) (i := 0) dX6_sure_28 rfl rfl ?_
        refine B.getfield (pc := 29) 0 rfl rfl inX6z 4 (by decide) fl_X6_37 rfl dX6_sure_29 ?_
        refine B.callVi (pc := 32) 0 (mX4_cuttings hE _ _ _ _ _ _ _ _ _) 23 rfl rfl ml_X6_145 im_X4_cuttings se_X4_cuttings it_X4 co_X4_cuttings (by decide +kernel) rfl rfl rfl ⟨by decide, by decide⟩ ⟨by decide, by decide⟩ [23, 24, 25, 26, 27] rfl rfl rfl (Nat.le_of_ble_eq_true rfl) dX6_sure_32 (fun _ => g5a) (fun zk32 uk32 rzk32 ruk32 rak32 hqk32 => ?_)
        obtain ⟨lzk32, uzk32⟩ := rzk32
        obtain ⟨rfl, hk32⟩ := hqk32
        simp only [zput, List.set_cons_zero, List.set_cons_succ, List.append_nil, Nat.add_zero]
        refine B.if_ne (pc := 35) (tgt := 43) dX6_sure_35 (by decide) (fun c35 => ?_) (fun c35 => ?_)
        · refine B.aload_n (pc := 43) (i := 0) dX6_sure_43 rfl rfl ?_
          refine B.getfield (pc := 44) 0 rfl rfl inX6z 4 (by decide) fl_X6_37 rfl dX6_sure_44 ?_
          refine B.aload_n (pc := 47) (i := 0) dX6_sure_47 rfl rfl ?_
          refine B.getfield (pc := 48) 0 rfl rfl inX6z 3 (by decide) fl_X6_30 rfl dX6_sure_48 ?_
          refine B.iload_n (pc := 51) (i := 1) dX6_sure_51 rfl rfl ?_
          refine B.callVi (pc := 52) 2 (mX4_surePlaces hE _ _ _ _ _ _ _ _ _ _ _ _ _ _ _ _ _ _ _ _ _ _ _ _ _ _ _ _ _ _ _) 23 rfl rfl ml_X6_158 im_X4_surePlaces se_X4_surePlaces it_X4 co_X4_surePlaces (by decide +kernel) rfl rfl rfl ⟨by decide, by decide⟩ ⟨by decide, by decide⟩ [23, 24, 25, 26, 27, 13, 14, 15, 16, 17, 18, 19, 20, 21, 22] rfl rfl rfl (Nat.le_of_ble_eq_true rfl) dX6_sure_52 (fun _ => ⟨g4a, g4c, g4d, g4e, g5a, g5b⟩) (fun zk52 uk52 rzk52 ruk52 rak52 hqk52 => ?_)
          obtain ⟨lzk52, uzk52⟩ := rzk52
          obtain ⟨rfl, hk52⟩ := hqk52
          simp only [zput, List.set_cons_zero, List.set_cons_succ, List.append_nil, Nat.add_zero]
          refine B.ireturn (pc := 55) (by simp) dX6_sure_55 (Nat.le_refl _) (Nat.le_refl _) (fun rz rw => ⟨_, _, _, _, _, _, _, _, _, _, _, _, _, _, _, rfl, ?_⟩)
          exact hC
        · refine B.bipush (pc := 38) dX6_sure_38 ⟨by decide, by decide⟩ ?_
          refine B.goto (pc := 40) (tgt := 55) dX6_sure_40 (by decide) ?_
          refine B.ireturn (pc := 55) (by simp) dX6_sure_55 (Nat.le_refl _) (Nat.le_refl _) (fun rz rw => ⟨_, _, _, _, _, _, _, _, _, _, _, _, _, _, _, rfl, ?_⟩)
          exact hC
      · refine B.bipush (pc := 21) dX6_sure_21 ⟨by decide, by decide⟩ ?_
        refine B.ireturn (pc := 23) (by simp) dX6_sure_23 (Nat.le_refl _) (Nat.le_refl _) (fun rz rw => ⟨_, _, _, _, _, _, _, _, _, _, _, _, _, _, _, rfl, ?_⟩)
        exact hP
    · refine B.bipush (pc := 11) dX6_sure_11 ⟨by decide, by decide⟩ ?_
      refine B.ireturn (pc := 13) (by simp) dX6_sure_13 (Nat.le_refl _) (Nat.le_refl _) (fun rz rw => ⟨_, _, _, _, _, _, _, _, _, _, _, _, _, _, _, rfl, ?_⟩)
      exact hP
set_option maxHeartbeats 4000000 in
set_option maxRecDepth 100000 in
theorem mX6_sign {l : Launch} {D : va_G} {k : zK} {E : zE} (hE : zEok E) (c_a c_pad_a c_pad_signs_a c_book_a c_book_dictionary_a c_book_dictionary_letters_a c_book_dictionary_lengths_a c_book_dictionary_kinds_a c_book_dictionary_costs_a c_book_joins_a c_book_rules_a c_book_line_a c_images_a c_net_a c_net_places_a c_net_lengths_a c_net_kinds_a c_net_costs_a c_net_words_a c_net_firsts_a c_net_joins_a c_net_slots_a c_net_routes_a c_ranking_a c_ranking_before_a c_ranking_counts_a c_ranking_kept_a c_ranking_followed_a c_writing_a c_writing_signs_a : Nat) (c_pad_count c_pad_letters c_pad_kind c_pad_cost c_book_dictionary_count c_book_lineLength c_net_lineLength c_net_count c_writing_count c_netStands c_rankingStands i j : Int) (c_pad_signs c_book_dictionary_letters c_book_dictionary_lengths c_book_dictionary_kinds c_book_dictionary_costs c_book_joins c_book_rules c_book_line c_net_places c_net_lengths c_net_kinds c_net_costs c_net_words c_net_firsts c_net_joins c_net_slots c_net_routes c_ranking_before c_ranking_counts c_ranking_kept c_ranking_followed c_writing_signs : Nat → Int) (c_images : Nat → Option Nat) : zMi l D k E yX6_sign cX6_sign 3 .int { frames := 7, cells := 0, slots := 0, locals := 154 } 0 0 [.inr (some c_a), .inl i, .inl j] [(c_a, .inr (.inr (6, [.inr (some c_pad_a), .inr (some c_book_a), .inr (some c_images_a), .inr (some c_net_a), .inr (some c_ranking_a), .inr (some c_writing_a), .inl c_netStands, .inl c_rankingStands]))), (c_pad_a, .inr (.inr (3, [.inr (some c_pad_signs_a), .inl c_pad_count, .inl c_pad_letters, .inl c_pad_kind, .inl c_pad_cost]))), (c_pad_signs_a, .inl (false, 40, c_pad_signs)), (c_book_a, .inr (.inr (0, [.inr (some c_book_dictionary_a), .inr (some c_book_joins_a), .inr (some c_book_rules_a), .inr (some c_book_line_a), .inl c_book_lineLength]))), (c_book_dictionary_a, .inr (.inr (1, [.inr (some c_book_dictionary_letters_a), .inr (some c_book_dictionary_lengths_a), .inr (some c_book_dictionary_kinds_a), .inr (some c_book_dictionary_costs_a), .inl c_book_dictionary_count]))), (c_book_dictionary_letters_a, .inl (false, 96, c_book_dictionary_letters)), (c_book_dictionary_lengths_a, .inl (false, 16, c_book_dictionary_lengths)), (c_book_dictionary_kinds_a, .inl (false, 16, c_book_dictionary_kinds)), (c_book_dictionary_costs_a, .inl (false, 16, c_book_dictionary_costs)), (c_book_joins_a, .inl (false, 25, c_book_joins)), (c_book_rules_a, .inl (false, 4, c_book_rules)), (c_book_line_a, .inl (false, 24, c_book_line)), (c_images_a, .inr (.inl (2, c_images))), (c_net_a, .inr (.inr (2, [.inl c_net_lineLength, .inl c_net_count, .inr (some c_net_places_a), .inr (some c_net_lengths_a), .inr (some c_net_kinds_a), .inr (some c_net_costs_a), .inr (some c_net_words_a), .inr (some c_net_firsts_a), .inr (some c_net_joins_a), .inr (some c_net_slots_a), .inr (some c_net_routes_a)]))), (c_net_places_a, .inl (false, 480, c_net_places)), (c_net_lengths_a, .inl (false, 480, c_net_lengths)), (c_net_kinds_a, .inl (false, 480, c_net_kinds)), (c_net_costs_a, .inl (false, 480, c_net_costs)), (c_net_words_a, .inl (false, 480, c_net_words)), (c_net_firsts_a, .inl (false, 25, c_net_firsts)), (c_net_joins_a, .inl (false, 25, c_net_joins)), (c_net_slots_a, .inl (false, 28, c_net_slots)), (c_net_routes_a, .inl (false, 25, c_net_routes)), (c_ranking_a, .inr (.inr (4, [.inr (some c_ranking_before_a), .inr (some c_ranking_counts_a), .inr (some c_ranking_kept_a), .inr (some c_ranking_followed_a)]))), (c_ranking_before_a, .inl (false, 125, c_ranking_before)), (c_ranking_counts_a, .inl (false, 125, c_ranking_counts)), (c_ranking_kept_a, .inl (false, 1500, c_ranking_kept)), (c_ranking_followed_a, .inl (false, 24, c_ranking_followed)), (c_writing_a, .inr (.inr (5, [.inr (some c_writing_signs_a), .inl c_writing_count]))), (c_writing_signs_a, .inl (false, 71, c_writing_signs))] (CI c_pad_count c_book_dictionary_count c_book_dictionary_lengths c_book_dictionary_kinds c_book_dictionary_costs c_book_joins c_book_rules c_book_lineLength c_net_lineLength c_net_count c_net_places c_net_lengths c_net_kinds c_net_costs c_net_firsts c_net_joins c_ranking_counts c_ranking_kept c_ranking_followed c_writing_count c_netStands) (fun z u => ∃ (c_net_lineLength' : Int) (c_net_count' : Int) (c_net_places' : Nat → Int) (c_net_lengths' : Nat → Int) (c_net_kinds' : Nat → Int) (c_net_costs' : Nat → Int) (c_net_words' : Nat → Int) (c_net_firsts' : Nat → Int) (c_net_joins' : Nat → Int) (c_net_slots' : Nat → Int) (c_netStands' : Int) (c_rankingStands' : Int) (c_ranking_before' : Nat → Int) (c_ranking_counts' : Nat → Int) (c_ranking_kept' : Nat → Int) (c_ranking_followed' : Nat → Int) (c_writing_signs' : Nat → Int) (c_writing_count' : Int), u = [(c_a, .inr (.inr (6, [.inr (some c_pad_a), .inr (some c_book_a), .inr (some c_images_a), .inr (some c_net_a), .inr (some c_ranking_a), .inr (some c_writing_a), .inl c_netStands', .inl c_rankingStands']))), (c_pad_a, .inr (.inr (3, [.inr (some c_pad_signs_a), .inl c_pad_count, .inl c_pad_letters, .inl c_pad_kind, .inl c_pad_cost]))), (c_pad_signs_a, .inl (false, 40, c_pad_signs)), (c_book_a, .inr (.inr (0, [.inr (some c_book_dictionary_a), .inr (some c_book_joins_a), .inr (some c_book_rules_a), .inr (some c_book_line_a), .inl c_book_lineLength]))), (c_book_dictionary_a, .inr (.inr (1, [.inr (some c_book_dictionary_letters_a), .inr (some c_book_dictionary_lengths_a), .inr (some c_book_dictionary_kinds_a), .inr (some c_book_dictionary_costs_a), .inl c_book_dictionary_count]))), (c_book_dictionary_letters_a, .inl (false, 96, c_book_dictionary_letters)), (c_book_dictionary_lengths_a, .inl (false, 16, c_book_dictionary_lengths)), (c_book_dictionary_kinds_a, .inl (false, 16, c_book_dictionary_kinds)), (c_book_dictionary_costs_a, .inl (false, 16, c_book_dictionary_costs)), (c_book_joins_a, .inl (false, 25, c_book_joins)), (c_book_rules_a, .inl (false, 4, c_book_rules)), (c_book_line_a, .inl (false, 24, c_book_line)), (c_images_a, .inr (.inl (2, c_images))), (c_net_a, .inr (.inr (2, [.inl c_net_lineLength', .inl c_net_count', .inr (some c_net_places_a), .inr (some c_net_lengths_a), .inr (some c_net_kinds_a), .inr (some c_net_costs_a), .inr (some c_net_words_a), .inr (some c_net_firsts_a), .inr (some c_net_joins_a), .inr (some c_net_slots_a), .inr (some c_net_routes_a)]))), (c_net_places_a, .inl (false, 480, c_net_places')), (c_net_lengths_a, .inl (false, 480, c_net_lengths')), (c_net_kinds_a, .inl (false, 480, c_net_kinds')), (c_net_costs_a, .inl (false, 480, c_net_costs')), (c_net_words_a, .inl (false, 480, c_net_words')), (c_net_firsts_a, .inl (false, 25, c_net_firsts')), (c_net_joins_a, .inl (false, 25, c_net_joins')), (c_net_slots_a, .inl (false, 28, c_net_slots')), (c_net_routes_a, .inl (false, 25, c_net_routes)), (c_ranking_a, .inr (.inr (4, [.inr (some c_ranking_before_a), .inr (some c_ranking_counts_a), .inr (some c_ranking_kept_a), .inr (some c_ranking_followed_a)]))), (c_ranking_before_a, .inl (false, 125, c_ranking_before')), (c_ranking_counts_a, .inl (false, 125, c_ranking_counts')), (c_ranking_kept_a, .inl (false, 1500, c_ranking_kept')), (c_ranking_followed_a, .inl (false, 24, c_ranking_followed')), (c_writing_a, .inr (.inr (5, [.inr (some c_writing_signs_a), .inl c_writing_count']))), (c_writing_signs_a, .inl (false, 71, c_writing_signs'))] ∧ (CI c_pad_count c_book_dictionary_count c_book_dictionary_lengths c_book_dictionary_kinds c_book_dictionary_costs c_book_joins c_book_rules c_book_lineLength c_net_lineLength' c_net_count' c_net_places' c_net_lengths' c_net_kinds' c_net_costs' c_net_firsts' c_net_joins' c_ranking_counts' c_ranking_kept' c_ranking_followed' c_writing_count' c_netStands')) := by
  refine zMi.of RX6 hE (by decide) rfl (by simp) (fun _ _ _ _ => rfl) ?_
  intro Z hP hav hwr B
  obtain ⟨l_i, u_i⟩ : zR i := hav (.inl i) (by simp)
  obtain ⟨l_j, u_j⟩ : zR j := hav (.inl j) (by simp)
  obtain ⟨l_c_netStands, u_c_netStands⟩ : zR c_netStands := zWr_at hwr (i := 0) rfl (.inl c_netStands) (by simp)
  obtain ⟨l_c_rankingStands, u_c_rankingStands⟩ : zR c_rankingStands := zWr_at hwr (i := 0) rfl (.inl c_rankingStands) (by simp)
  obtain ⟨l_c_pad_count, u_c_pad_count⟩ : zR c_pad_count := zWr_at hwr (i := 1) rfl (.inl c_pad_count) (by simp)
  obtain ⟨l_c_pad_letters, u_c_pad_letters⟩ : zR c_pad_letters := zWr_at hwr (i := 1) rfl (.inl c_pad_letters) (by simp)
  obtain ⟨l_c_pad_kind, u_c_pad_kind⟩ : zR c_pad_kind := zWr_at hwr (i := 1) rfl (.inl c_pad_kind) (by simp)
  obtain ⟨l_c_pad_cost, u_c_pad_cost⟩ : zR c_pad_cost := zWr_at hwr (i := 1) rfl (.inl c_pad_cost) (by simp)
  obtain ⟨l_c_book_lineLength, u_c_book_lineLength⟩ : zR c_book_lineLength := zWr_at hwr (i := 3) rfl (.inl c_book_lineLength) (by simp)
  obtain ⟨l_c_book_dictionary_count, u_c_book_dictionary_count⟩ : zR c_book_dictionary_count := zWr_at hwr (i := 4) rfl (.inl c_book_dictionary_count) (by simp)
  obtain ⟨l_c_net_lineLength, u_c_net_lineLength⟩ : zR c_net_lineLength := zWr_at hwr (i := 13) rfl (.inl c_net_lineLength) (by simp)
  obtain ⟨l_c_net_count, u_c_net_count⟩ : zR c_net_count := zWr_at hwr (i := 13) rfl (.inl c_net_count) (by simp)
  obtain ⟨l_c_writing_count, u_c_writing_count⟩ : zR c_writing_count := zWr_at hwr (i := 28) rfl (.inl c_writing_count) (by simp)
  obtain ⟨h1, h2, h3, h4, h5, h6, h7⟩ := id hP
  obtain ⟨h3a, h3b⟩ := id h3
  obtain ⟨h2a, h2b, h2c⟩ := id h2
  obtain ⟨h4a, h4b, h4c, h4d, h4e, h4f, h4g⟩ := id h4
  obtain ⟨h5a, h5b, h5c⟩ := id h5
  show Z 0 0 0 [some (.inr (some c_a)), some (.inl i), some (.inl j)] [] _
  refine B.aload_n (pc := 0) (i := 0) dX6_sign_0 rfl rfl ?_
  refine B.callVi (pc := 1) 0 (mX6_hasLine hE _ _ _ _ _ _ _ _ _ _ _ _ _ _ _ _ _ _ _ _ _ _ _ _ _ _ _ _ _ _ _ _ _ _ _ _ _ _ _ _ _ _ _ _ _ _ _ _ _ _ _ _ _ _ _ _ _ _ _ _ _ _ _ _) 0 rfl rfl ml_X6_112 im_X6_hasLine se_X6_hasLine it_X6 co_X6_hasLine (by decide +kernel) rfl rfl rfl ⟨by decide, by decide⟩ ⟨by decide, by decide⟩ [0, 1, 2, 3, 4, 5, 6, 7, 8, 9, 10, 11, 12, 13, 14, 15, 16, 17, 18, 19, 20, 21, 22, 23, 24, 25, 26, 27, 28, 29] rfl rfl rfl (Nat.le_of_ble_eq_true rfl) dX6_sign_1 (fun _ => trivial) (fun zk1 uk1 rzk1 ruk1 rak1 hqk1 => ?_)
  obtain ⟨lzk1, uzk1⟩ := rzk1
  obtain ⟨rfl, hk1⟩ := hqk1
  simp only [zput, List.set_cons_zero, List.set_cons_succ, List.append_nil, Nat.add_zero]
  refine B.if_ne (pc := 4) (tgt := 10) dX6_sign_4 (by decide) (fun c4 => ?_) (fun c4 => ?_)
  · refine B.iload_n (pc := 10) (i := 1) dX6_sign_10 rfl rfl ?_
    refine B.if_lt (pc := 11) (tgt := 20) dX6_sign_11 (by decide) (fun c11 => ?_) (fun c11 => ?_)
    · refine B.iconst (pc := 20) dX6_sign_20 ⟨by decide, by decide⟩ ?_
      refine B.ireturn (pc := 21) (by simp) dX6_sign_21 (Nat.le_refl _) (Nat.le_refl _) (fun rz rw => ⟨_, _, _, _, _, _, _, _, _, _, _, _, _, _, _, _, _, _, rfl, ?_⟩)
      exact hP
    · refine B.iload_n (pc := 14) (i := 1) dX6_sign_14 rfl rfl ?_
      refine B.bipush (pc := 15) dX6_sign_15 ⟨by decide, by decide⟩ ?_
      refine B.icmp_lt (pc := 17) (tgt := 22) dX6_sign_17 (by decide) (fun c17 => ?_) (fun c17 => ?_)
      · refine B.aload_n (pc := 22) (i := 0) dX6_sign_22 rfl rfl ?_
        refine B.callVv (pc := 23) 0 (mX6_makeRanking hE _ _ _ _ _ _ _ _ _ _ _ _ _ _ _ _ _ _ _ _ _ _ _ _ _ _ _ _ _ _ _ _ _ _ _ _ _ _ _ _ _ _ _ _ _ _ _ _ _ _ _ _ _ _ _ _ _ _ _ _ _ _ _ _) 0 rfl rfl ml_X6_135 im_X6_makeRanking se_X6_makeRanking it_X6 co_X6_makeRanking (by decide +kernel) rfl rfl rfl ⟨by decide, by decide⟩ ⟨by decide, by decide⟩ [0, 1, 2, 3, 4, 5, 6, 7, 8, 9, 10, 11, 12, 13, 14, 15, 16, 17, 18, 19, 20, 21, 22, 23, 24, 25, 26, 27, 28, 29] rfl rfl rfl (Nat.le_of_ble_eq_true rfl) dX6_sign_23 (fun _ => ⟨hP, by omega⟩) (fun uk23 ruk23 rak23 hqk23 => ?_)
        obtain ⟨c_net_lineLength_k23, c_net_count_k23, c_net_places_k23, c_net_lengths_k23, c_net_kinds_k23, c_net_costs_k23, c_net_words_k23, c_net_firsts_k23, c_net_joins_k23, c_net_slots_k23, c_netStands_k23, c_rankingStands_k23, c_ranking_before_k23, c_ranking_counts_k23, c_ranking_kept_k23, rfl, hk23⟩ := hqk23
        simp only [zput, List.set_cons_zero, List.set_cons_succ, List.append_nil, Nat.add_zero]
        obtain ⟨hC, hns⟩ := hk23
        obtain ⟨g1, g2, g3, g4, g5, g6, g7⟩ := id hC
        obtain ⟨g4a, g4b, g4c, g4d, g4e, g4f, g4g⟩ := id g4
        obtain ⟨g5a, g5b, g5c⟩ := id g5
        refine B.iload_n (pc := 26) (i := 1) dX6_sign_26 rfl rfl ?_
        refine B.aload_n (pc := 27) (i := 0) dX6_sign_27 rfl rfl ?_
        refine B.getfield (pc := 28) 0 rfl rfl inX6z 4 (by decide) fl_X6_37 rfl dX6_sign_28 ?_
        refine B.callVi (pc := 31) 0 (mX4_cuttings hE _ _ _ _ _ _ _ _ _) 23 rfl rfl ml_X6_145 im_X4_cuttings se_X4_cuttings it_X4 co_X4_cuttings (by decide +kernel) rfl rfl rfl ⟨by decide, by decide⟩ ⟨by decide, by decide⟩ [23, 24, 25, 26, 27] rfl rfl rfl (Nat.le_of_ble_eq_true rfl) dX6_sign_31 (fun _ => g5a) (fun zk31 uk31 rzk31 ruk31 rak31 hqk31 => ?_)
        obtain ⟨lzk31, uzk31⟩ := rzk31
        obtain ⟨rfl, hk31⟩ := hqk31
        simp only [zput, List.set_cons_zero, List.set_cons_succ, List.append_nil, Nat.add_zero]
        refine B.icmp_lt (pc := 34) (tgt := 40) dX6_sign_34 (by decide) (fun c34 => ?_) (fun c34 => ?_)
        · refine B.aload_n (pc := 40) (i := 0) dX6_sign_40 rfl rfl ?_
          refine B.getfield (pc := 41) 0 rfl rfl inX6z 5 (by decide) fl_X6_44 rfl dX6_sign_41 ?_
          refine B.iload_n (pc := 44) (i := 1) dX6_sign_44 rfl rfl ?_
          refine B.aload_n (pc := 45) (i := 0) dX6_sign_45 rfl rfl ?_
          refine B.getfield (pc := 46) 0 rfl rfl inX6z 4 (by decide) fl_X6_37 rfl dX6_sign_46 ?_
          refine B.aload_n (pc := 49) (i := 0) dX6_sign_49 rfl rfl ?_
          refine B.getfield (pc := 50) 0 rfl rfl inX6z 3 (by decide) fl_X6_30 rfl dX6_sign_50 ?_
          refine B.aload_n (pc := 53) (i := 0) dX6_sign_53 rfl rfl ?_
          refine B.getfield (pc := 54) 0 rfl rfl inX6z 1 (by decide) fl_X6_19 rfl dX6_sign_54 ?_
          refine B.callVv (pc := 57) 4 (mX5_write hE _ _ _ _ _ _ _ _ _ _ _ _ _ _ _ _ _ _ _ _ _ _ _ _ _ _ _ _ _ _ _ _ _ _ _ _ _ _ _ _ _ _ _ _ _ _ _ _ _ _ _ _ _) 28 rfl rfl ml_X6_161 im_X5_write se_X5_write it_X5 co_X5_write (by decide +kernel) rfl rfl rfl ⟨by decide, by decide⟩ ⟨by decide, by decide⟩ [28, 29, 23, 24, 25, 26, 27, 13, 14, 15, 16, 17, 18, 19, 20, 21, 22, 3, 4, 5, 6, 7, 8, 9, 10, 11] rfl rfl rfl (Nat.le_of_ble_eq_true rfl) dX6_sign_57 (fun _ => ⟨g4a, g5b, g5c, g4f, g4g, by omega, by omega⟩) (fun uk57 ruk57 rak57 hqk57 => ?_)
          obtain ⟨w_signs_k57, w_count_k57, k_followed_k57, rfl, hk57⟩ := hqk57
          simp only [zput, List.set_cons_zero, List.set_cons_succ, List.append_nil, Nat.add_zero]
          obtain ⟨wa, wb, wc⟩ := hk57
          refine B.iload_n (pc := 60) (i := 2) dX6_sign_60 rfl rfl ?_
          refine B.iconst (pc := 61) dX6_sign_61 ⟨by decide, by decide⟩ ?_
          refine B.icmp_ne (pc := 62) (tgt := 73) dX6_sign_62 (by decide) (fun c62 => ?_) (fun c62 => ?_)
          · refine B.iload_n (pc := 73) (i := 2) dX6_sign_73 rfl rfl ?_
            refine B.if_lt (pc := 74) (tgt := 100) dX6_sign_74 (by decide) (fun c74 => ?_) (fun c74 => ?_)
            · refine B.bipush (pc := 100) dX6_sign_100 ⟨by decide, by decide⟩ ?_
              refine B.ireturn (pc := 102) (by simp) dX6_sign_102 (Nat.le_refl _) (Nat.le_refl _) (fun rz rw => ⟨_, _, _, _, _, _, _, _, _, _, _, _, _, _, _, _, _, _, rfl, ?_⟩)
              exact ⟨g1, g2, g3, g4, ⟨g5a, g5b, wc⟩, ⟨wa, wb⟩, g7⟩
            · refine B.iload_n (pc := 77) (i := 2) dX6_sign_77 rfl rfl ?_
              refine B.aload_n (pc := 78) (i := 0) dX6_sign_78 rfl rfl ?_
              refine B.getfield (pc := 79) 0 rfl rfl inX6z 5 (by decide) fl_X6_44 rfl dX6_sign_79 ?_
              refine B.getfield (pc := 82) 28 rfl rfl inX5z 1 (by decide) fl_X6_165 rfl dX6_sign_82 ?_
              refine B.icmp_ge (pc := 85) (tgt := 100) dX6_sign_85 (by decide) (fun c85 => ?_) (fun c85 => ?_)
              · refine B.bipush (pc := 100) dX6_sign_100 ⟨by decide, by decide⟩ ?_
                refine B.ireturn (pc := 102) (by simp) dX6_sign_102 (Nat.le_refl _) (Nat.le_refl _) (fun rz rw => ⟨_, _, _, _, _, _, _, _, _, _, _, _, _, _, _, _, _, _, rfl, ?_⟩)
                exact ⟨g1, g2, g3, g4, ⟨g5a, g5b, wc⟩, ⟨wa, wb⟩, g7⟩
              · refine B.aload_n (pc := 88) (i := 0) dX6_sign_88 rfl rfl ?_
                refine B.getfield (pc := 89) 0 rfl rfl inX6z 5 (by decide) fl_X6_44 rfl dX6_sign_89 ?_
                refine B.getfield (pc := 92) 28 rfl rfl inX5z 0 (by decide) fl_X6_166 rfl dX6_sign_92 ?_
                refine B.iload_n (pc := 95) (i := 2) dX6_sign_95 rfl rfl ?_
                refine B.iaload (pc := 96) 29 rfl (by omega) (by omega) dX6_sign_96 (fun r96 => ?_)
                obtain ⟨lr96, ur96⟩ := r96
                refine B.goto (pc := 97) (tgt := 102) dX6_sign_97 (by decide) ?_
                refine B.ireturn (pc := 102) (by simp) dX6_sign_102 (Nat.le_refl _) (Nat.le_refl _) (fun rz rw => ⟨_, _, _, _, _, _, _, _, _, _, _, _, _, _, _, _, _, _, rfl, ?_⟩)
                exact ⟨g1, g2, g3, g4, ⟨g5a, g5b, wc⟩, ⟨wa, wb⟩, g7⟩
          · refine B.aload_n (pc := 65) (i := 0) dX6_sign_65 rfl rfl ?_
            refine B.getfield (pc := 66) 0 rfl rfl inX6z 5 (by decide) fl_X6_44 rfl dX6_sign_66 ?_
            refine B.getfield (pc := 69) 28 rfl rfl inX5z 1 (by decide) fl_X6_165 rfl dX6_sign_69 ?_
            refine B.ireturn (pc := 72) (by simp) dX6_sign_72 (Nat.le_refl _) (Nat.le_refl _) (fun rz rw => ⟨_, _, _, _, _, _, _, _, _, _, _, _, _, _, _, _, _, _, rfl, ?_⟩)
            exact ⟨g1, g2, g3, g4, ⟨g5a, g5b, wc⟩, ⟨wa, wb⟩, g7⟩
        · refine B.bipush (pc := 37) dX6_sign_37 ⟨by decide, by decide⟩ ?_
          refine B.ireturn (pc := 39) (by simp) dX6_sign_39 (Nat.le_refl _) (Nat.le_refl _) (fun rz rw => ⟨_, _, _, _, _, _, _, _, _, _, _, _, _, _, _, _, _, _, rfl, ?_⟩)
          exact hC
      · refine B.iconst (pc := 20) dX6_sign_20 ⟨by decide, by decide⟩ ?_
        refine B.ireturn (pc := 21) (by simp) dX6_sign_21 (Nat.le_refl _) (Nat.le_refl _) (fun rz rw => ⟨_, _, _, _, _, _, _, _, _, _, _, _, _, _, _, _, _, _, rfl, ?_⟩)
        exact hP
  · refine B.bipush (pc := 7) dX6_sign_7 ⟨by decide, by decide⟩ ?_
    refine B.ireturn (pc := 9) (by simp) dX6_sign_9 (Nat.le_refl _) (Nat.le_refl _) (fun rz rw => ⟨_, _, _, _, _, _, _, _, _, _, _, _, _, _, _, _, _, _, rfl, ?_⟩)
    exact hP
set_option maxHeartbeats 4000000 in
set_option maxRecDepth 100000 in
theorem mX6_told {l : Launch} {D : va_G} {k : zK} {E : zE} (hE : zEok E) (c_a c_pad_a c_pad_signs_a c_book_a c_book_dictionary_a c_book_dictionary_letters_a c_book_dictionary_lengths_a c_book_dictionary_kinds_a c_book_dictionary_costs_a c_book_joins_a c_book_rules_a c_book_line_a c_images_a c_net_a c_net_places_a c_net_lengths_a c_net_kinds_a c_net_costs_a c_net_words_a c_net_firsts_a c_net_joins_a c_net_slots_a c_net_routes_a c_ranking_a c_ranking_before_a c_ranking_counts_a c_ranking_kept_a c_ranking_followed_a c_writing_a c_writing_signs_a : Nat) (c_pad_count c_pad_letters c_pad_kind c_pad_cost c_book_dictionary_count c_book_lineLength c_net_lineLength c_net_count c_writing_count c_netStands c_rankingStands what : Int) (c_pad_signs c_book_dictionary_letters c_book_dictionary_lengths c_book_dictionary_kinds c_book_dictionary_costs c_book_joins c_book_rules c_book_line c_net_places c_net_lengths c_net_kinds c_net_costs c_net_words c_net_firsts c_net_joins c_net_slots c_net_routes c_ranking_before c_ranking_counts c_ranking_kept c_ranking_followed c_writing_signs : Nat → Int) (c_images : Nat → Option Nat) : zMi l D k E yX6_told cX6_told 2 .int { frames := 0, cells := 0, slots := 0, locals := 0 } 0 0 [.inr (some c_a), .inl what] [(c_a, .inr (.inr (6, [.inr (some c_pad_a), .inr (some c_book_a), .inr (some c_images_a), .inr (some c_net_a), .inr (some c_ranking_a), .inr (some c_writing_a), .inl c_netStands, .inl c_rankingStands]))), (c_pad_a, .inr (.inr (3, [.inr (some c_pad_signs_a), .inl c_pad_count, .inl c_pad_letters, .inl c_pad_kind, .inl c_pad_cost]))), (c_pad_signs_a, .inl (false, 40, c_pad_signs)), (c_book_a, .inr (.inr (0, [.inr (some c_book_dictionary_a), .inr (some c_book_joins_a), .inr (some c_book_rules_a), .inr (some c_book_line_a), .inl c_book_lineLength]))), (c_book_dictionary_a, .inr (.inr (1, [.inr (some c_book_dictionary_letters_a), .inr (some c_book_dictionary_lengths_a), .inr (some c_book_dictionary_kinds_a), .inr (some c_book_dictionary_costs_a), .inl c_book_dictionary_count]))), (c_book_dictionary_letters_a, .inl (false, 96, c_book_dictionary_letters)), (c_book_dictionary_lengths_a, .inl (false, 16, c_book_dictionary_lengths)), (c_book_dictionary_kinds_a, .inl (false, 16, c_book_dictionary_kinds)), (c_book_dictionary_costs_a, .inl (false, 16, c_book_dictionary_costs)), (c_book_joins_a, .inl (false, 25, c_book_joins)), (c_book_rules_a, .inl (false, 4, c_book_rules)), (c_book_line_a, .inl (false, 24, c_book_line)), (c_images_a, .inr (.inl (2, c_images))), (c_net_a, .inr (.inr (2, [.inl c_net_lineLength, .inl c_net_count, .inr (some c_net_places_a), .inr (some c_net_lengths_a), .inr (some c_net_kinds_a), .inr (some c_net_costs_a), .inr (some c_net_words_a), .inr (some c_net_firsts_a), .inr (some c_net_joins_a), .inr (some c_net_slots_a), .inr (some c_net_routes_a)]))), (c_net_places_a, .inl (false, 480, c_net_places)), (c_net_lengths_a, .inl (false, 480, c_net_lengths)), (c_net_kinds_a, .inl (false, 480, c_net_kinds)), (c_net_costs_a, .inl (false, 480, c_net_costs)), (c_net_words_a, .inl (false, 480, c_net_words)), (c_net_firsts_a, .inl (false, 25, c_net_firsts)), (c_net_joins_a, .inl (false, 25, c_net_joins)), (c_net_slots_a, .inl (false, 28, c_net_slots)), (c_net_routes_a, .inl (false, 25, c_net_routes)), (c_ranking_a, .inr (.inr (4, [.inr (some c_ranking_before_a), .inr (some c_ranking_counts_a), .inr (some c_ranking_kept_a), .inr (some c_ranking_followed_a)]))), (c_ranking_before_a, .inl (false, 125, c_ranking_before)), (c_ranking_counts_a, .inl (false, 125, c_ranking_counts)), (c_ranking_kept_a, .inl (false, 1500, c_ranking_kept)), (c_ranking_followed_a, .inl (false, 24, c_ranking_followed)), (c_writing_a, .inr (.inr (5, [.inr (some c_writing_signs_a), .inl c_writing_count]))), (c_writing_signs_a, .inl (false, 71, c_writing_signs))] (CI c_pad_count c_book_dictionary_count c_book_dictionary_lengths c_book_dictionary_kinds c_book_dictionary_costs c_book_joins c_book_rules c_book_lineLength c_net_lineLength c_net_count c_net_places c_net_lengths c_net_kinds c_net_costs c_net_firsts c_net_joins c_ranking_counts c_ranking_kept c_ranking_followed c_writing_count c_netStands) (fun z u => u = [(c_a, .inr (.inr (6, [.inr (some c_pad_a), .inr (some c_book_a), .inr (some c_images_a), .inr (some c_net_a), .inr (some c_ranking_a), .inr (some c_writing_a), .inl c_netStands, .inl c_rankingStands]))), (c_pad_a, .inr (.inr (3, [.inr (some c_pad_signs_a), .inl c_pad_count, .inl c_pad_letters, .inl c_pad_kind, .inl c_pad_cost]))), (c_pad_signs_a, .inl (false, 40, c_pad_signs)), (c_book_a, .inr (.inr (0, [.inr (some c_book_dictionary_a), .inr (some c_book_joins_a), .inr (some c_book_rules_a), .inr (some c_book_line_a), .inl c_book_lineLength]))), (c_book_dictionary_a, .inr (.inr (1, [.inr (some c_book_dictionary_letters_a), .inr (some c_book_dictionary_lengths_a), .inr (some c_book_dictionary_kinds_a), .inr (some c_book_dictionary_costs_a), .inl c_book_dictionary_count]))), (c_book_dictionary_letters_a, .inl (false, 96, c_book_dictionary_letters)), (c_book_dictionary_lengths_a, .inl (false, 16, c_book_dictionary_lengths)), (c_book_dictionary_kinds_a, .inl (false, 16, c_book_dictionary_kinds)), (c_book_dictionary_costs_a, .inl (false, 16, c_book_dictionary_costs)), (c_book_joins_a, .inl (false, 25, c_book_joins)), (c_book_rules_a, .inl (false, 4, c_book_rules)), (c_book_line_a, .inl (false, 24, c_book_line)), (c_images_a, .inr (.inl (2, c_images))), (c_net_a, .inr (.inr (2, [.inl c_net_lineLength, .inl c_net_count, .inr (some c_net_places_a), .inr (some c_net_lengths_a), .inr (some c_net_kinds_a), .inr (some c_net_costs_a), .inr (some c_net_words_a), .inr (some c_net_firsts_a), .inr (some c_net_joins_a), .inr (some c_net_slots_a), .inr (some c_net_routes_a)]))), (c_net_places_a, .inl (false, 480, c_net_places)), (c_net_lengths_a, .inl (false, 480, c_net_lengths)), (c_net_kinds_a, .inl (false, 480, c_net_kinds)), (c_net_costs_a, .inl (false, 480, c_net_costs)), (c_net_words_a, .inl (false, 480, c_net_words)), (c_net_firsts_a, .inl (false, 25, c_net_firsts)), (c_net_joins_a, .inl (false, 25, c_net_joins)), (c_net_slots_a, .inl (false, 28, c_net_slots)), (c_net_routes_a, .inl (false, 25, c_net_routes)), (c_ranking_a, .inr (.inr (4, [.inr (some c_ranking_before_a), .inr (some c_ranking_counts_a), .inr (some c_ranking_kept_a), .inr (some c_ranking_followed_a)]))), (c_ranking_before_a, .inl (false, 125, c_ranking_before)), (c_ranking_counts_a, .inl (false, 125, c_ranking_counts)), (c_ranking_kept_a, .inl (false, 1500, c_ranking_kept)), (c_ranking_followed_a, .inl (false, 24, c_ranking_followed)), (c_writing_a, .inr (.inr (5, [.inr (some c_writing_signs_a), .inl c_writing_count]))), (c_writing_signs_a, .inl (false, 71, c_writing_signs))] ∧ (zTS c_pad_count c_book_dictionary_count c_book_lineLength c_book_rules c_book_joins c_book_line what z)) := by
  refine zMi.of RX6 hE (by decide) rfl (by simp) (fun _ _ _ _ => rfl) ?_
  intro Z hP hav hwr B
  obtain ⟨l_what, u_what⟩ : zR what := hav (.inl what) (by simp)
  obtain ⟨l_c_netStands, u_c_netStands⟩ : zR c_netStands := zWr_at hwr (i := 0) rfl (.inl c_netStands) (by simp)
  obtain ⟨l_c_rankingStands, u_c_rankingStands⟩ : zR c_rankingStands := zWr_at hwr (i := 0) rfl (.inl c_rankingStands) (by simp)
  obtain ⟨l_c_pad_count, u_c_pad_count⟩ : zR c_pad_count := zWr_at hwr (i := 1) rfl (.inl c_pad_count) (by simp)
  obtain ⟨l_c_pad_letters, u_c_pad_letters⟩ : zR c_pad_letters := zWr_at hwr (i := 1) rfl (.inl c_pad_letters) (by simp)
  obtain ⟨l_c_pad_kind, u_c_pad_kind⟩ : zR c_pad_kind := zWr_at hwr (i := 1) rfl (.inl c_pad_kind) (by simp)
  obtain ⟨l_c_pad_cost, u_c_pad_cost⟩ : zR c_pad_cost := zWr_at hwr (i := 1) rfl (.inl c_pad_cost) (by simp)
  obtain ⟨l_c_book_lineLength, u_c_book_lineLength⟩ : zR c_book_lineLength := zWr_at hwr (i := 3) rfl (.inl c_book_lineLength) (by simp)
  obtain ⟨l_c_book_dictionary_count, u_c_book_dictionary_count⟩ : zR c_book_dictionary_count := zWr_at hwr (i := 4) rfl (.inl c_book_dictionary_count) (by simp)
  obtain ⟨l_c_net_lineLength, u_c_net_lineLength⟩ : zR c_net_lineLength := zWr_at hwr (i := 13) rfl (.inl c_net_lineLength) (by simp)
  obtain ⟨l_c_net_count, u_c_net_count⟩ : zR c_net_count := zWr_at hwr (i := 13) rfl (.inl c_net_count) (by simp)
  obtain ⟨l_c_writing_count, u_c_writing_count⟩ : zR c_writing_count := zWr_at hwr (i := 28) rfl (.inl c_writing_count) (by simp)
  obtain ⟨h1, h2, h3, h4, h5, h6, h7⟩ := id hP
  obtain ⟨h3a, h3b⟩ := id h3
  obtain ⟨h2a, h2b, h2c⟩ := id h2
  obtain ⟨h4a, h4b, h4c, h4d, h4e, h4f, h4g⟩ := id h4
  obtain ⟨h5a, h5b, h5c⟩ := id h5
  show Z 0 0 0 [some (.inr (some c_a)), some (.inl what)] [] _
  refine B.iload_n (pc := 0) (i := 1) dX6_told_0 rfl rfl ?_
  refine zsplitE (X := fun v => Z _ _ 1 _ (.inl v :: _) _) (0) (fun e1_0 => ?_) (fun c1_0 => ?_)
  · refine B.tsIn (pc := 1) (tgt := 28) dX6_told_1 (by decide) (by decide) rfl (by decide) ?_
    refine B.aload_n (pc := 28) (i := 0) dX6_told_28 rfl rfl ?_
    refine B.getfield (pc := 29) 0 rfl rfl inX6z 0 (by decide) fl_X6_10 rfl dX6_told_29 ?_
    refine B.getfield (pc := 32) 1 rfl rfl inX3z 1 (by decide) fl_X6_52 rfl dX6_told_32 ?_
    refine B.ireturn (pc := 35) (by simp) dX6_told_35 (Nat.le_refl _) (Nat.le_refl _) (fun rz rw => ⟨rfl, ?_⟩)
    unfold zTS
    omega
  refine zsplitE (X := fun v => Z _ _ 1 _ (.inl v :: _) _) (1) (fun e1_1 => ?_) (fun c1_1 => ?_)
  · refine B.tsIn (pc := 1) (tgt := 36) dX6_told_1 (by decide) (by decide) rfl (by decide) ?_
    refine B.aload_n (pc := 36) (i := 0) dX6_told_36 rfl rfl ?_
    refine B.getfield (pc := 37) 0 rfl rfl inX6z 1 (by decide) fl_X6_19 rfl dX6_told_37 ?_
    refine B.getfield (pc := 40) 3 rfl rfl inX0z 0 (by decide) fl_X6_66 rfl dX6_told_40 ?_
    refine B.getfield (pc := 43) 4 rfl rfl inX1z 4 (by decide) fl_X6_86 rfl dX6_told_43 ?_
    refine B.ireturn (pc := 46) (by simp) dX6_told_46 (Nat.le_refl _) (Nat.le_refl _) (fun rz rw => ⟨rfl, ?_⟩)
    unfold zTS
    omega
  refine zsplitE (X := fun v => Z _ _ 1 _ (.inl v :: _) _) (2) (fun e1_2 => ?_) (fun c1_2 => ?_)
  · refine B.tsIn (pc := 1) (tgt := 47) dX6_told_1 (by decide) (by decide) rfl (by decide) ?_
    refine B.aload_n (pc := 47) (i := 0) dX6_told_47 rfl rfl ?_
    refine B.getfield (pc := 48) 0 rfl rfl inX6z 1 (by decide) fl_X6_19 rfl dX6_told_48 ?_
    refine B.getfield (pc := 51) 3 rfl rfl inX0z 4 (by decide) fl_X6_95 rfl dX6_told_51 ?_
    refine B.ireturn (pc := 54) (by simp) dX6_told_54 (Nat.le_refl _) (Nat.le_refl _) (fun rz rw => ⟨rfl, ?_⟩)
    unfold zTS
    omega
  refine B.tsOut (pc := 1) (tgt := 55) dX6_told_1 (by omega) (by decide) ?_
  refine B.iload_n (pc := 55) (i := 1) dX6_told_55 rfl rfl ?_
  refine B.iconst (pc := 56) dX6_told_56 ⟨by decide, by decide⟩ ?_
  refine B.icmp_lt (pc := 57) (tgt := 78) dX6_told_57 (by decide) (fun c57 => ?_) (fun c57 => ?_)
  · refine B.iload_n (pc := 78) (i := 1) dX6_told_78 rfl rfl ?_
    refine B.bipush (pc := 79) dX6_told_79 ⟨by decide, by decide⟩ ?_
    refine B.icmp_lt (pc := 81) (tgt := 103) dX6_told_81 (by decide) (fun c81 => ?_) (fun c81 => ?_)
    · refine B.iload_n (pc := 103) (i := 1) dX6_told_103 rfl rfl ?_
      refine B.bipush (pc := 104) dX6_told_104 ⟨by decide, by decide⟩ ?_
      refine B.icmp_lt (pc := 106) (tgt := 136) dX6_told_106 (by decide) (fun c106 => ?_) (fun c106 => ?_)
      · refine B.bipush (pc := 136) dX6_told_136 ⟨by decide, by decide⟩ ?_
        refine B.ireturn (pc := 138) (by simp) dX6_told_138 (Nat.le_refl _) (Nat.le_refl _) (fun rz rw => ⟨rfl, ?_⟩)
        unfold zTS
        omega
      · refine B.iload_n (pc := 109) (i := 1) dX6_told_109 rfl rfl ?_
        refine B.bipush (pc := 110) dX6_told_110 ⟨by decide, by decide⟩ ?_
        refine B.isub (pc := 112) dX6_told_112 ⟨by omega, by omega⟩ ?_
        refine B.aload_n (pc := 113) (i := 0) dX6_told_113 rfl rfl ?_
        refine B.getfield (pc := 114) 0 rfl rfl inX6z 1 (by decide) fl_X6_19 rfl dX6_told_114 ?_
        refine B.getfield (pc := 117) 3 rfl rfl inX0z 4 (by decide) fl_X6_95 rfl dX6_told_117 ?_
        refine B.icmp_ge (pc := 120) (tgt := 136) dX6_told_120 (by decide) (fun c120 => ?_) (fun c120 => ?_)
        · refine B.bipush (pc := 136) dX6_told_136 ⟨by decide, by decide⟩ ?_
          refine B.ireturn (pc := 138) (by simp) dX6_told_138 (Nat.le_refl _) (Nat.le_refl _) (fun rz rw => ⟨rfl, ?_⟩)
          unfold zTS
          omega
        · refine B.aload_n (pc := 123) (i := 0) dX6_told_123 rfl rfl ?_
          refine B.getfield (pc := 124) 0 rfl rfl inX6z 1 (by decide) fl_X6_19 rfl dX6_told_124 ?_
          refine B.getfield (pc := 127) 3 rfl rfl inX0z 3 (by decide) fl_X6_173 rfl dX6_told_127 ?_
          refine B.iload_n (pc := 130) (i := 1) dX6_told_130 rfl rfl ?_
          refine B.bipush (pc := 131) dX6_told_131 ⟨by decide, by decide⟩ ?_
          refine B.isub (pc := 133) dX6_told_133 ⟨by omega, by omega⟩ ?_
          refine B.iaload (pc := 134) 11 rfl (by omega) (by omega) dX6_told_134 (fun r134 => ?_)
          obtain ⟨lr134, ur134⟩ := r134
          refine B.ireturn (pc := 135) (by simp) dX6_told_135 (Nat.le_refl _) (Nat.le_refl _) (fun rz rw => ⟨rfl, ?_⟩)
          unfold zTS
          omega
    · refine B.iload_n (pc := 84) (i := 1) dX6_told_84 rfl rfl ?_
      refine B.bipush (pc := 85) dX6_told_85 ⟨by decide, by decide⟩ ?_
      refine B.icmp_ge (pc := 87) (tgt := 103) dX6_told_87 (by decide) (fun c87 => ?_) (fun c87 => ?_)
      · refine B.iload_n (pc := 103) (i := 1) dX6_told_103 rfl rfl ?_
        refine B.bipush (pc := 104) dX6_told_104 ⟨by decide, by decide⟩ ?_
        refine B.icmp_lt (pc := 106) (tgt := 136) dX6_told_106 (by decide) (fun c106 => ?_) (fun c106 => ?_)
        · refine B.bipush (pc := 136) dX6_told_136 ⟨by decide, by decide⟩ ?_
          refine B.ireturn (pc := 138) (by simp) dX6_told_138 (Nat.le_refl _) (Nat.le_refl _) (fun rz rw => ⟨rfl, ?_⟩)
          unfold zTS
          omega
        · refine B.iload_n (pc := 109) (i := 1) dX6_told_109 rfl rfl ?_
          refine B.bipush (pc := 110) dX6_told_110 ⟨by decide, by decide⟩ ?_
          refine B.isub (pc := 112) dX6_told_112 ⟨by omega, by omega⟩ ?_
          refine B.aload_n (pc := 113) (i := 0) dX6_told_113 rfl rfl ?_
          refine B.getfield (pc := 114) 0 rfl rfl inX6z 1 (by decide) fl_X6_19 rfl dX6_told_114 ?_
          refine B.getfield (pc := 117) 3 rfl rfl inX0z 4 (by decide) fl_X6_95 rfl dX6_told_117 ?_
          refine B.icmp_ge (pc := 120) (tgt := 136) dX6_told_120 (by decide) (fun c120 => ?_) (fun c120 => ?_)
          · refine B.bipush (pc := 136) dX6_told_136 ⟨by decide, by decide⟩ ?_
            refine B.ireturn (pc := 138) (by simp) dX6_told_138 (Nat.le_refl _) (Nat.le_refl _) (fun rz rw => ⟨rfl, ?_⟩)
            unfold zTS
            omega
          · refine B.aload_n (pc := 123) (i := 0) dX6_told_123 rfl rfl ?_
            refine B.getfield (pc := 124) 0 rfl rfl inX6z 1 (by decide) fl_X6_19 rfl dX6_told_124 ?_
            refine B.getfield (pc := 127) 3 rfl rfl inX0z 3 (by decide) fl_X6_173 rfl dX6_told_127 ?_
            refine B.iload_n (pc := 130) (i := 1) dX6_told_130 rfl rfl ?_
            refine B.bipush (pc := 131) dX6_told_131 ⟨by decide, by decide⟩ ?_
            refine B.isub (pc := 133) dX6_told_133 ⟨by omega, by omega⟩ ?_
            refine B.iaload (pc := 134) 11 rfl (by omega) (by omega) dX6_told_134 (fun r134 => ?_)
            obtain ⟨lr134, ur134⟩ := r134
            refine B.ireturn (pc := 135) (by simp) dX6_told_135 (Nat.le_refl _) (Nat.le_refl _) (fun rz rw => ⟨rfl, ?_⟩)
            unfold zTS
            omega
      · refine B.aload_n (pc := 90) (i := 0) dX6_told_90 rfl rfl ?_
        refine B.getfield (pc := 91) 0 rfl rfl inX6z 1 (by decide) fl_X6_19 rfl dX6_told_91 ?_
        refine B.getfield (pc := 94) 3 rfl rfl inX0z 1 (by decide) fl_X6_102 rfl dX6_told_94 ?_
        refine B.iload_n (pc := 97) (i := 1) dX6_told_97 rfl rfl ?_
        refine B.bipush (pc := 98) dX6_told_98 ⟨by decide, by decide⟩ ?_
        refine B.isub (pc := 100) dX6_told_100 ⟨by omega, by omega⟩ ?_
        refine B.iaload (pc := 101) 9 rfl (by omega) (by omega) dX6_told_101 (fun r101 => ?_)
        obtain ⟨lr101, ur101⟩ := r101
        refine B.ireturn (pc := 102) (by simp) dX6_told_102 (Nat.le_refl _) (Nat.le_refl _) (fun rz rw => ⟨rfl, ?_⟩)
        unfold zTS
        omega
  · refine B.iload_n (pc := 60) (i := 1) dX6_told_60 rfl rfl ?_
    refine B.bipush (pc := 61) dX6_told_61 ⟨by decide, by decide⟩ ?_
    refine B.icmp_ge (pc := 63) (tgt := 78) dX6_told_63 (by decide) (fun c63 => ?_) (fun c63 => ?_)
    · refine B.iload_n (pc := 78) (i := 1) dX6_told_78 rfl rfl ?_
      refine B.bipush (pc := 79) dX6_told_79 ⟨by decide, by decide⟩ ?_
      refine B.icmp_lt (pc := 81) (tgt := 103) dX6_told_81 (by decide) (fun c81 => ?_) (fun c81 => ?_)
      · refine B.iload_n (pc := 103) (i := 1) dX6_told_103 rfl rfl ?_
        refine B.bipush (pc := 104) dX6_told_104 ⟨by decide, by decide⟩ ?_
        refine B.icmp_lt (pc := 106) (tgt := 136) dX6_told_106 (by decide) (fun c106 => ?_) (fun c106 => ?_)
        · refine B.bipush (pc := 136) dX6_told_136 ⟨by decide, by decide⟩ ?_
          refine B.ireturn (pc := 138) (by simp) dX6_told_138 (Nat.le_refl _) (Nat.le_refl _) (fun rz rw => ⟨rfl, ?_⟩)
          unfold zTS
          omega
        · refine B.iload_n (pc := 109) (i := 1) dX6_told_109 rfl rfl ?_
          refine B.bipush (pc := 110) dX6_told_110 ⟨by decide, by decide⟩ ?_
          refine B.isub (pc := 112) dX6_told_112 ⟨by omega, by omega⟩ ?_
          refine B.aload_n (pc := 113) (i := 0) dX6_told_113 rfl rfl ?_
          refine B.getfield (pc := 114) 0 rfl rfl inX6z 1 (by decide) fl_X6_19 rfl dX6_told_114 ?_
          refine B.getfield (pc := 117) 3 rfl rfl inX0z 4 (by decide) fl_X6_95 rfl dX6_told_117 ?_
          refine B.icmp_ge (pc := 120) (tgt := 136) dX6_told_120 (by decide) (fun c120 => ?_) (fun c120 => ?_)
          · refine B.bipush (pc := 136) dX6_told_136 ⟨by decide, by decide⟩ ?_
            refine B.ireturn (pc := 138) (by simp) dX6_told_138 (Nat.le_refl _) (Nat.le_refl _) (fun rz rw => ⟨rfl, ?_⟩)
            unfold zTS
            omega
          · refine B.aload_n (pc := 123) (i := 0) dX6_told_123 rfl rfl ?_
            refine B.getfield (pc := 124) 0 rfl rfl inX6z 1 (by decide) fl_X6_19 rfl dX6_told_124 ?_
            refine B.getfield (pc := 127) 3 rfl rfl inX0z 3 (by decide) fl_X6_173 rfl dX6_told_127 ?_
            refine B.iload_n (pc := 130) (i := 1) dX6_told_130 rfl rfl ?_
            refine B.bipush (pc := 131) dX6_told_131 ⟨by decide, by decide⟩ ?_
            refine B.isub (pc := 133) dX6_told_133 ⟨by omega, by omega⟩ ?_
            refine B.iaload (pc := 134) 11 rfl (by omega) (by omega) dX6_told_134 (fun r134 => ?_)
            obtain ⟨lr134, ur134⟩ := r134
            refine B.ireturn (pc := 135) (by simp) dX6_told_135 (Nat.le_refl _) (Nat.le_refl _) (fun rz rw => ⟨rfl, ?_⟩)
            unfold zTS
            omega
      · refine B.iload_n (pc := 84) (i := 1) dX6_told_84 rfl rfl ?_
        refine B.bipush (pc := 85) dX6_told_85 ⟨by decide, by decide⟩ ?_
        refine B.icmp_ge (pc := 87) (tgt := 103) dX6_told_87 (by decide) (fun c87 => ?_) (fun c87 => ?_)
        · refine B.iload_n (pc := 103) (i := 1) dX6_told_103 rfl rfl ?_
          refine B.bipush (pc := 104) dX6_told_104 ⟨by decide, by decide⟩ ?_
          refine B.icmp_lt (pc := 106) (tgt := 136) dX6_told_106 (by decide) (fun c106 => ?_) (fun c106 => ?_)
          · refine B.bipush (pc := 136) dX6_told_136 ⟨by decide, by decide⟩ ?_
            refine B.ireturn (pc := 138) (by simp) dX6_told_138 (Nat.le_refl _) (Nat.le_refl _) (fun rz rw => ⟨rfl, ?_⟩)
            unfold zTS
            omega
          · refine B.iload_n (pc := 109) (i := 1) dX6_told_109 rfl rfl ?_
            refine B.bipush (pc := 110) dX6_told_110 ⟨by decide, by decide⟩ ?_
            refine B.isub (pc := 112) dX6_told_112 ⟨by omega, by omega⟩ ?_
            refine B.aload_n (pc := 113) (i := 0) dX6_told_113 rfl rfl ?_
            refine B.getfield (pc := 114) 0 rfl rfl inX6z 1 (by decide) fl_X6_19 rfl dX6_told_114 ?_
            refine B.getfield (pc := 117) 3 rfl rfl inX0z 4 (by decide) fl_X6_95 rfl dX6_told_117 ?_
            refine B.icmp_ge (pc := 120) (tgt := 136) dX6_told_120 (by decide) (fun c120 => ?_) (fun c120 => ?_)
            · refine B.bipush (pc := 136) dX6_told_136 ⟨by decide, by decide⟩ ?_
              refine B.ireturn (pc := 138) (by simp) dX6_told_138 (Nat.le_refl _) (Nat.le_refl _) (fun rz rw => ⟨rfl, ?_⟩)
              unfold zTS
              omega
            · refine B.aload_n (pc := 123) (i := 0) dX6_told_123 rfl rfl ?_
              refine B.getfield (pc := 124) 0 rfl rfl inX6z 1 (by decide) fl_X6_19 rfl dX6_told_124 ?_
              refine B.getfield (pc := 127) 3 rfl rfl inX0z 3 (by decide) fl_X6_173 rfl dX6_told_127 ?_
              refine B.iload_n (pc := 130) (i := 1) dX6_told_130 rfl rfl ?_
              refine B.bipush (pc := 131) dX6_told_131 ⟨by decide, by decide⟩ ?_
              refine B.isub (pc := 133) dX6_told_133 ⟨by omega, by omega⟩ ?_
              refine B.iaload (pc := 134) 11 rfl (by omega) (by omega) dX6_told_134 (fun r134 => ?_)
              obtain ⟨lr134, ur134⟩ := r134
              refine B.ireturn (pc := 135) (by simp) dX6_told_135 (Nat.le_refl _) (Nat.le_refl _) (fun rz rw => ⟨rfl, ?_⟩)
              unfold zTS
              omega
        · refine B.aload_n (pc := 90) (i := 0) dX6_told_90 rfl rfl ?_
          refine B.getfield (pc := 91) 0 rfl rfl inX6z 1 (by decide) fl_X6_19 rfl dX6_told_91 ?_
          refine B.getfield (pc := 94) 3 rfl rfl inX0z 1 (by decide) fl_X6_102 rfl dX6_told_94 ?_
          refine B.iload_n (pc := 97) (i := 1) dX6_told_97 rfl rfl ?_
          refine B.bipush (pc := 98) dX6_told_98 ⟨by decide, by decide⟩ ?_
          refine B.isub (pc := 100) dX6_told_100 ⟨by omega, by omega⟩ ?_
          refine B.iaload (pc := 101) 9 rfl (by omega) (by omega) dX6_told_101 (fun r101 => ?_)
          obtain ⟨lr101, ur101⟩ := r101
          refine B.ireturn (pc := 102) (by simp) dX6_told_102 (Nat.le_refl _) (Nat.le_refl _) (fun rz rw => ⟨rfl, ?_⟩)
          unfold zTS
          omega
    · refine B.aload_n (pc := 66) (i := 0) dX6_told_66 rfl rfl ?_
      refine B.getfield (pc := 67) 0 rfl rfl inX6z 1 (by decide) fl_X6_19 rfl dX6_told_67 ?_
      refine B.getfield (pc := 70) 3 rfl rfl inX0z 2 (by decide) fl_X6_109 rfl dX6_told_70 ?_
      refine B.iload_n (pc := 73) (i := 1) dX6_told_73 rfl rfl ?_
      refine B.iconst (pc := 74) dX6_told_74 ⟨by decide, by decide⟩ ?_
      refine B.isub (pc := 75) dX6_told_75 ⟨by omega, by omega⟩ ?_
      refine B.iaload (pc := 76) 10 rfl (by omega) (by omega) dX6_told_76 (fun r76 => ?_)
      obtain ⟨lr76, ur76⟩ := r76
      refine B.ireturn (pc := 77) (by simp) dX6_told_77 (Nat.le_refl _) (Nat.le_refl _) (fun rz rw => ⟨rfl, ?_⟩)
      unfold zTS
      omega
