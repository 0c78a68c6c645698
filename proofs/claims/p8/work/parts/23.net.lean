set_option maxHeartbeats 4000000 in
set_option maxRecDepth 100000 in
theorem mX2_add {l : Launch} {D : va_G} {k : zK} {E : zE} (hE : zEok E) (n_a n_places_a n_lengths_a n_kinds_a n_costs_a n_words_a n_firsts_a n_joins_a n_slots_a n_routes_a b_a b_dictionary_a b_dictionary_letters_a b_dictionary_lengths_a b_dictionary_kinds_a b_dictionary_costs_a b_joins_a b_rules_a b_line_a : Nat) (n_lineLength n_count b_dictionary_count b_lineLength place slot : Int) (n_places n_lengths n_kinds n_costs n_words n_firsts n_joins n_slots n_routes b_dictionary_letters b_dictionary_lengths b_dictionary_kinds b_dictionary_costs b_joins b_rules b_line : Nat → Int) : zMv l D k E yX2_add cX2_add 6 { frames := 0, cells := 0, slots := 0, locals := 0 } 0 0 [.inr (some n_a), .inr (some b_a), .inl place, .inl slot] [(n_a, .inr (.inr (2, [.inl n_lineLength, .inl n_count, .inr (some n_places_a), .inr (some n_lengths_a), .inr (some n_kinds_a), .inr (some n_costs_a), .inr (some n_words_a), .inr (some n_firsts_a), .inr (some n_joins_a), .inr (some n_slots_a), .inr (some n_routes_a)]))), (n_places_a, .inl (false, 480, n_places)), (n_lengths_a, .inl (false, 480, n_lengths)), (n_kinds_a, .inl (false, 480, n_kinds)), (n_costs_a, .inl (false, 480, n_costs)), (n_words_a, .inl (false, 480, n_words)), (n_firsts_a, .inl (false, 25, n_firsts)), (n_joins_a, .inl (false, 25, n_joins)), (n_slots_a, .inl (false, 28, n_slots)), (n_routes_a, .inl (false, 25, n_routes)), (b_a, .inr (.inr (0, [.inr (some b_dictionary_a), .inr (some b_joins_a), .inr (some b_rules_a), .inr (some b_line_a), .inl b_lineLength]))), (b_dictionary_a, .inr (.inr (1, [.inr (some b_dictionary_letters_a), .inr (some b_dictionary_lengths_a), .inr (some b_dictionary_kinds_a), .inr (some b_dictionary_costs_a), .inl b_dictionary_count]))), (b_dictionary_letters_a, .inl (false, 96, b_dictionary_letters)), (b_dictionary_lengths_a, .inl (false, 16, b_dictionary_lengths)), (b_dictionary_kinds_a, .inl (false, 16, b_dictionary_kinds)), (b_dictionary_costs_a, .inl (false, 16, b_dictionary_costs)), (b_joins_a, .inl (false, 25, b_joins)), (b_rules_a, .inl (false, 4, b_rules)), (b_line_a, .inl (false, 24, b_line))] (DI b_dictionary_count b_dictionary_lengths b_dictionary_kinds b_dictionary_costs ∧ BI b_joins b_rules b_lineLength ∧ PB n_places n_lengths n_kinds n_costs ∧ 0 ≤ n_count ∧ n_count < 480 ∧ 0 ≤ place ∧ 4 ≤ slot ∧ slot < 28 ∧ place + slot / 4 ≤ 24 ∧ (n_slots slot.toNat = -6 ∨ (0 ≤ n_slots slot.toNat ∧ n_slots slot.toNat < b_dictionary_count))) (fun z u => ∃ (n_count' : Int) (n_places' : Nat → Int) (n_lengths' : Nat → Int) (n_kinds' : Nat → Int) (n_words' : Nat → Int) (n_costs' : Nat → Int), u = [(n_a, .inr (.inr (2, [.inl n_lineLength, .inl n_count', .inr (some n_places_a), .inr (some n_lengths_a), .inr (some n_kinds_a), .inr (some n_costs_a), .inr (some n_words_a), .inr (some n_firsts_a), .inr (some n_joins_a), .inr (some n_slots_a), .inr (some n_routes_a)]))), (n_places_a, .inl (false, 480, n_places')), (n_lengths_a, .inl (false, 480, n_lengths')), (n_kinds_a, .inl (false, 480, n_kinds')), (n_costs_a, .inl (false, 480, n_costs')), (n_words_a, .inl (false, 480, n_words')), (n_firsts_a, .inl (false, 25, n_firsts)), (n_joins_a, .inl (false, 25, n_joins)), (n_slots_a, .inl (false, 28, n_slots)), (n_routes_a, .inl (false, 25, n_routes)), (b_a, .inr (.inr (0, [.inr (some b_dictionary_a), .inr (some b_joins_a), .inr (some b_rules_a), .inr (some b_line_a), .inl b_lineLength]))), (b_dictionary_a, .inr (.inr (1, [.inr (some b_dictionary_letters_a), .inr (some b_dictionary_lengths_a), .inr (some b_dictionary_kinds_a), .inr (some b_dictionary_costs_a), .inl b_dictionary_count]))), (b_dictionary_letters_a, .inl (false, 96, b_dictionary_letters)), (b_dictionary_lengths_a, .inl (false, 16, b_dictionary_lengths)), (b_dictionary_kinds_a, .inl (false, 16, b_dictionary_kinds)), (b_dictionary_costs_a, .inl (false, 16, b_dictionary_costs)), (b_joins_a, .inl (false, 25, b_joins)), (b_rules_a, .inl (false, 4, b_rules)), (b_line_a, .inl (false, 24, b_line))] ∧ (n_count' = n_count + 1 ∧ PB n_places' n_lengths' n_kinds' n_costs' ∧ n_places' = zup n_places n_count.toNat place ∧ n_lengths' = zup n_lengths n_count.toNat (slot / 4))) := by
  refine zMv.of RX2 hE (by decide) rfl (by simp) ?_
  intro Z hP hav hwr B
  obtain ⟨l_place, u_place⟩ : zR place := hav (.inl place) (by simp)
  obtain ⟨l_slot, u_slot⟩ : zR slot := hav (.inl slot) (by simp)
  obtain ⟨l_n_lineLength, u_n_lineLength⟩ : zR n_lineLength := zWr_at hwr (i := 0) rfl (.inl n_lineLength) (by simp)
  obtain ⟨l_n_count, u_n_count⟩ : zR n_count := zWr_at hwr (i := 0) rfl (.inl n_count) (by simp)
  obtain ⟨l_b_lineLength, u_b_lineLength⟩ : zR b_lineLength := zWr_at hwr (i := 10) rfl (.inl b_lineLength) (by simp)
  obtain ⟨l_b_dictionary_count, u_b_dictionary_count⟩ : zR b_dictionary_count := zWr_at hwr (i := 11) rfl (.inl b_dictionary_count) (by simp)
  obtain ⟨hD, hB, hPB, hn⟩ := hP
  obtain ⟨hB0, hB1⟩ := hB
  have er1 : b_rules (1 : Int).toNat = b_rules 1 := rfl
  have er2 : b_rules (2 : Int).toNat = b_rules 2 := rfl
  obtain ⟨hD1, hD2, hD3⟩ := id hD
  show Z 0 0 0 [some (.inr (some n_a)), some (.inr (some b_a)), some (.inl place), some (.inl slot), none, none] [] _
  refine B.aload_n (pc := 0) (i := 0) dX2_add_0 rfl rfl ?_
  refine B.getfield (pc := 1) 0 rfl rfl inX2z 9 (by decide) fl_X2_33 rfl dX2_add_1 ?_
  refine B.iload_n (pc := 4) (i := 3) dX2_add_4 rfl rfl ?_
  refine B.iaload (pc := 5) 8 rfl (by omega) (by omega) dX2_add_5 (fun r5 => ?_)
  obtain ⟨lr5, ur5⟩ := r5
  refine B.istore (pc := 6) (i := 4) dX2_add_6 (by decide) ?_
  simp only [List.set_cons_zero, List.set_cons_succ]
  refine B.iload_n (pc := 8) (i := 3) dX2_add_8 rfl rfl ?_
  refine B.iconst (pc := 9) dX2_add_9 ⟨by decide, by decide⟩ ?_
  refine B.idiv (pc := 10) dX2_add_10 (by omega) (by decide) ?_
  refine B.istore (pc := 11) (i := 5) dX2_add_11 (by decide) ?_
  simp only [List.set_cons_zero, List.set_cons_succ]
  refine B.aload_n (pc := 13) (i := 0) dX2_add_13 rfl rfl ?_
  refine B.getfield (pc := 14) 0 rfl rfl inX2z 2 (by decide) fl_X2_9 rfl dX2_add_14 ?_
  refine B.aload_n (pc := 17) (i := 0) dX2_add_17 rfl rfl ?_
  refine B.getfield (pc := 18) 0 rfl rfl inX2z 1 (by decide) fl_X2_53 rfl dX2_add_18 ?_
  refine B.iload_n (pc := 21) (i := 2) dX2_add_21 rfl rfl ?_
  refine B.iastore (pc := 22) 1 rfl (by omega) (by omega) dX2_add_22 ?_
  simp only [List.set_cons_zero, List.set_cons_succ]
  refine B.aload_n (pc := 23) (i := 0) dX2_add_23 rfl rfl ?_
  refine B.getfield (pc := 24) 0 rfl rfl inX2z 3 (by decide) fl_X2_15 rfl dX2_add_24 ?_
  refine B.aload_n (pc := 27) (i := 0) dX2_add_27 rfl rfl ?_
  refine B.getfield (pc := 28) 0 rfl rfl inX2z 1 (by decide) fl_X2_53 rfl dX2_add_28 ?_
  refine B.iload (pc := 31) dX2_add_31 rfl ?_
  refine B.iastore (pc := 33) 2 rfl (by omega) (by omega) dX2_add_33 ?_
  simp only [List.set_cons_zero, List.set_cons_succ]
  refine B.aload_n (pc := 34) (i := 0) dX2_add_34 rfl rfl ?_
  refine B.getfield (pc := 35) 0 rfl rfl inX2z 4 (by decide) fl_X2_18 rfl dX2_add_35 ?_
  refine B.aload_n (pc := 38) (i := 0) dX2_add_38 rfl rfl ?_
  refine B.getfield (pc := 39) 0 rfl rfl inX2z 1 (by decide) fl_X2_53 rfl dX2_add_39 ?_
  refine B.iload_n (pc := 42) (i := 3) dX2_add_42 rfl rfl ?_
  refine B.iconst (pc := 43) dX2_add_43 ⟨by decide, by decide⟩ ?_
  refine B.irem (pc := 44) dX2_add_44 (by omega) (by decide) ?_
  refine B.iastore (pc := 45) 3 rfl (by omega) (by omega) dX2_add_45 ?_
  simp only [List.set_cons_zero, List.set_cons_succ]
  refine B.aload_n (pc := 46) (i := 0) dX2_add_46 rfl rfl ?_
  refine B.getfield (pc := 47) 0 rfl rfl inX2z 6 (by decide) fl_X2_24 rfl dX2_add_47 ?_
  refine B.aload_n (pc := 50) (i := 0) dX2_add_50 rfl rfl ?_
  refine B.getfield (pc := 51) 0 rfl rfl inX2z 1 (by decide) fl_X2_53 rfl dX2_add_51 ?_
  refine B.iload (pc := 54) dX2_add_54 rfl ?_
  refine B.iastore (pc := 56) 5 rfl (by omega) (by omega) dX2_add_56 ?_
  simp only [List.set_cons_zero, List.set_cons_succ]
  refine B.aload_n (pc := 57) (i := 0) dX2_add_57 rfl rfl ?_
  refine B.getfield (pc := 58) 0 rfl rfl inX2z 5 (by decide) fl_X2_21 rfl dX2_add_58 ?_
  refine B.aload_n (pc := 61) (i := 0) dX2_add_61 rfl rfl ?_
  refine B.getfield (pc := 62) 0 rfl rfl inX2z 1 (by decide) fl_X2_53 rfl dX2_add_62 ?_
  refine B.iload (pc := 65) dX2_add_65 rfl ?_
  refine B.bipush (pc := 67) dX2_add_67 ⟨by decide, by decide⟩ ?_
  refine B.icmp_ne (pc := 69) (tgt := 91) dX2_add_69 (by decide) (fun c69 => ?_) (fun c69 => ?_)
  · have hw := hD.at (x := n_slots slot.toNat) (by omega) (by omega)
    refine B.aload_n (pc := 91) (i := 1) dX2_add_91 rfl rfl ?_
    refine B.getfield (pc := 92) 10 rfl rfl inX0z 0 (by decide) fl_X2_73 rfl dX2_add_92 ?_
    refine B.getfield (pc := 95) 11 rfl rfl inX1z 3 (by decide) fl_X2_97 rfl dX2_add_95 ?_
    refine B.iload (pc := 98) dX2_add_98 rfl ?_
    refine B.iaload (pc := 100) 15 rfl (by omega) (by omega) dX2_add_100 (fun r100 => ?_)
    obtain ⟨lr100, ur100⟩ := r100
    refine B.iastore (pc := 101) 4 rfl (by omega) (by omega) dX2_add_101 ?_
    simp only [List.set_cons_zero, List.set_cons_succ]
    refine B.aload_n (pc := 102) (i := 0) dX2_add_102 rfl rfl ?_
    refine B.dup (pc := 103) dX2_add_103 ?_
    refine B.getfield (pc := 104) 0 rfl rfl inX2z 1 (by decide) fl_X2_53 rfl dX2_add_104 ?_
    refine B.iconst (pc := 107) dX2_add_107 ⟨by decide, by decide⟩ ?_
    refine B.iadd (pc := 108) dX2_add_108 ⟨by omega, by omega⟩ ?_
    refine B.putfield (pc := 109) 0 rfl rfl inX2z tyX2 tyX2_ok nmX2 1 (by decide) fl_X2_53 rfl rfl rfl (Nat.le_of_ble_eq_true rfl) dX2_add_109 ?_
    simp only [List.set_cons_zero, List.set_cons_succ]
    refine B.vreturn (pc := 112) rfl dX2_add_112 (Nat.le_refl _) (Nat.le_refl _) (fun rw => ⟨_, _, _, _, _, _, rfl, ?_⟩)
    refine ⟨rfl, PB.add hPB _ ?_, rfl, rfl⟩
    first | omega | (have hz := zmul_b (x := b_rules (2 : Int).toNat) (y := slot / 4) (a := 99) (b := 6) (by omega) (by omega) (by omega) (by omega); omega)
  · refine B.aload_n (pc := 72) (i := 1) dX2_add_72 rfl rfl ?_
    refine B.getfield (pc := 73) 10 rfl rfl inX0z 2 (by decide) fl_X2_67 rfl dX2_add_73 ?_
    refine B.iconst (pc := 76) dX2_add_76 ⟨by decide, by decide⟩ ?_
    refine B.iaload (pc := 77) 17 rfl (by omega) (by omega) dX2_add_77 (fun r77 => ?_)
    obtain ⟨lr77, ur77⟩ := r77
    refine B.aload_n (pc := 78) (i := 1) dX2_add_78 rfl rfl ?_
    refine B.getfield (pc := 79) 10 rfl rfl inX0z 2 (by decide) fl_X2_67 rfl dX2_add_79 ?_
    refine B.iconst (pc := 82) dX2_add_82 ⟨by decide, by decide⟩ ?_
    refine B.iaload (pc := 83) 17 rfl (by omega) (by omega) dX2_add_83 (fun r83 => ?_)
    obtain ⟨lr83, ur83⟩ := r83
    refine B.iload (pc := 84) dX2_add_84 rfl ?_
    refine B.imul (pc := 86) dX2_add_86 (zmul_r (by omega) (by omega) (by omega) (by omega)) ?_
    have hz := zmul_b (x := b_rules (2 : Int).toNat) (y := slot / 4) (a := 99) (b := 6) (by omega) (by omega) (by omega) (by omega)
    refine B.iadd (pc := 87) dX2_add_87 ⟨by omega, by omega⟩ ?_
    refine B.goto (pc := 88) (tgt := 101) dX2_add_88 (by decide) ?_
    refine B.iastore (pc := 101) 4 rfl (by omega) (by omega) dX2_add_101 ?_
    simp only [List.set_cons_zero, List.set_cons_succ]
    refine B.aload_n (pc := 102) (i := 0) dX2_add_102 rfl rfl ?_
    refine B.dup (pc := 103) dX2_add_103 ?_
    refine B.getfield (pc := 104) 0 rfl rfl inX2z 1 (by decide) fl_X2_53 rfl dX2_add_104 ?_
    refine B.iconst (pc := 107) dX2_add_107 ⟨by decide, by decide⟩ ?_
    refine B.iadd (pc := 108) dX2_add_108 ⟨by omega, by omega⟩ ?_
    refine B.putfield (pc := 109) 0 rfl rfl inX2z tyX2 tyX2_ok nmX2 1 (by decide) fl_X2_53 rfl rfl rfl (Nat.le_of_ble_eq_true rfl) dX2_add_109 ?_
    simp only [List.set_cons_zero, List.set_cons_succ]
    refine B.vreturn (pc := 112) rfl dX2_add_112 (Nat.le_refl _) (Nat.le_refl _) (fun rw => ⟨_, _, _, _, _, _, rfl, ?_⟩)
    refine ⟨rfl, PB.add hPB _ ?_, rfl, rfl⟩
    first | omega | (have hz := zmul_b (x := b_rules (2 : Int).toNat) (y := slot / 4) (a := 99) (b := 6) (by omega) (by omega) (by omega) (by omega); omega)
set_option maxHeartbeats 4000000 in
set_option maxRecDepth 100000 in
theorem mX2_addSlots {l : Launch} {D : va_G} {k : zK} {E : zE} (hE : zEok E) (n_a n_places_a n_lengths_a n_kinds_a n_costs_a n_words_a n_firsts_a n_joins_a n_slots_a n_routes_a b_a b_dictionary_a b_dictionary_letters_a b_dictionary_lengths_a b_dictionary_kinds_a b_dictionary_costs_a b_joins_a b_rules_a b_line_a : Nat) (n_lineLength n_count b_dictionary_count b_lineLength place : Int) (n_places n_lengths n_kinds n_costs n_words n_firsts n_joins n_slots n_routes b_dictionary_letters b_dictionary_lengths b_dictionary_kinds b_dictionary_costs b_joins b_rules b_line : Nat → Int) : zMv l D k E yX2_addSlots cX2_addSlots 4 { frames := 1, cells := 0, slots := 0, locals := 25 } 0 0 [.inr (some n_a), .inr (some b_a), .inl place] [(n_a, .inr (.inr (2, [.inl n_lineLength, .inl n_count, .inr (some n_places_a), .inr (some n_lengths_a), .inr (some n_kinds_a), .inr (some n_costs_a), .inr (some n_words_a), .inr (some n_firsts_a), .inr (some n_joins_a), .inr (some n_slots_a), .inr (some n_routes_a)]))), (n_places_a, .inl (false, 480, n_places)), (n_lengths_a, .inl (false, 480, n_lengths)), (n_kinds_a, .inl (false, 480, n_kinds)), (n_costs_a, .inl (false, 480, n_costs)), (n_words_a, .inl (false, 480, n_words)), (n_firsts_a, .inl (false, 25, n_firsts)), (n_joins_a, .inl (false, 25, n_joins)), (n_slots_a, .inl (false, 28, n_slots)), (n_routes_a, .inl (false, 25, n_routes)), (b_a, .inr (.inr (0, [.inr (some b_dictionary_a), .inr (some b_joins_a), .inr (some b_rules_a), .inr (some b_line_a), .inl b_lineLength]))), (b_dictionary_a, .inr (.inr (1, [.inr (some b_dictionary_letters_a), .inr (some b_dictionary_lengths_a), .inr (some b_dictionary_kinds_a), .inr (some b_dictionary_costs_a), .inl b_dictionary_count]))), (b_dictionary_letters_a, .inl (false, 96, b_dictionary_letters)), (b_dictionary_lengths_a, .inl (false, 16, b_dictionary_lengths)), (b_dictionary_kinds_a, .inl (false, 16, b_dictionary_kinds)), (b_dictionary_costs_a, .inl (false, 16, b_dictionary_costs)), (b_joins_a, .inl (false, 25, b_joins)), (b_rules_a, .inl (false, 4, b_rules)), (b_line_a, .inl (false, 24, b_line))] (DI b_dictionary_count b_dictionary_lengths b_dictionary_kinds b_dictionary_costs ∧ BI b_joins b_rules b_lineLength ∧ PB n_places n_lengths n_kinds n_costs ∧ SI n_slots place b_lineLength b_dictionary_count ∧ 0 ≤ n_count ∧ n_count ≤ 480 ∧ 0 ≤ place) (fun z u => ∃ (n_count' : Int) (n_places' : Nat → Int) (n_lengths' : Nat → Int) (n_kinds' : Nat → Int) (n_words' : Nat → Int) (n_costs' : Nat → Int), u = [(n_a, .inr (.inr (2, [.inl n_lineLength, .inl n_count', .inr (some n_places_a), .inr (some n_lengths_a), .inr (some n_kinds_a), .inr (some n_costs_a), .inr (some n_words_a), .inr (some n_firsts_a), .inr (some n_joins_a), .inr (some n_slots_a), .inr (some n_routes_a)]))), (n_places_a, .inl (false, 480, n_places')), (n_lengths_a, .inl (false, 480, n_lengths')), (n_kinds_a, .inl (false, 480, n_kinds')), (n_costs_a, .inl (false, 480, n_costs')), (n_words_a, .inl (false, 480, n_words')), (n_firsts_a, .inl (false, 25, n_firsts)), (n_joins_a, .inl (false, 25, n_joins)), (n_slots_a, .inl (false, 28, n_slots)), (n_routes_a, .inl (false, 25, n_routes)), (b_a, .inr (.inr (0, [.inr (some b_dictionary_a), .inr (some b_joins_a), .inr (some b_rules_a), .inr (some b_line_a), .inl b_lineLength]))), (b_dictionary_a, .inr (.inr (1, [.inr (some b_dictionary_letters_a), .inr (some b_dictionary_lengths_a), .inr (some b_dictionary_kinds_a), .inr (some b_dictionary_costs_a), .inl b_dictionary_count]))), (b_dictionary_letters_a, .inl (false, 96, b_dictionary_letters)), (b_dictionary_lengths_a, .inl (false, 16, b_dictionary_lengths)), (b_dictionary_kinds_a, .inl (false, 16, b_dictionary_kinds)), (b_dictionary_costs_a, .inl (false, 16, b_dictionary_costs)), (b_joins_a, .inl (false, 25, b_joins)), (b_rules_a, .inl (false, 4, b_rules)), (b_line_a, .inl (false, 24, b_line))] ∧ (PB n_places' n_lengths' n_kinds' n_costs' ∧ n_count ≤ n_count' ∧ n_count' ≤ 480 ∧ (∀ i : Nat, (i : Int) < n_count → n_places' i = n_places i ∧ n_lengths' i = n_lengths i) ∧ (∀ i : Nat, n_count ≤ i → (i : Int) < n_count' → n_places' i = place ∧ 1 ≤ n_lengths' i))) := by
  refine zMv.of RX2 hE (by decide) rfl (by simp) ?_
  intro Z hP hav hwr B
  obtain ⟨l_place, u_place⟩ : zR place := hav (.inl place) (by simp)
  obtain ⟨l_n_lineLength, u_n_lineLength⟩ : zR n_lineLength := zWr_at hwr (i := 0) rfl (.inl n_lineLength) (by simp)
  obtain ⟨l_n_count, u_n_count⟩ : zR n_count := zWr_at hwr (i := 0) rfl (.inl n_count) (by simp)
  obtain ⟨l_b_lineLength, u_b_lineLength⟩ : zR b_lineLength := zWr_at hwr (i := 10) rfl (.inl b_lineLength) (by simp)
  obtain ⟨l_b_dictionary_count, u_b_dictionary_count⟩ : zR b_dictionary_count := zWr_at hwr (i := 11) rfl (.inl b_dictionary_count) (by simp)
  obtain ⟨hD, hB, hPB, hSI, hn⟩ := hP
  obtain ⟨hB0, hB1⟩ := id hB
  obtain ⟨n_count0, e_count0⟩ : ∃ x, x = n_count := ⟨_, rfl⟩
  obtain ⟨n_places0, e_places0⟩ : ∃ x, x = n_places := ⟨_, rfl⟩
  obtain ⟨n_lengths0, e_lengths0⟩ : ∃ x, x = n_lengths := ⟨_, rfl⟩
  rw [← e_count0, ← e_places0, ← e_lengths0] at B
  have key : ∀ mu_ : Nat, (∀ (lv : List (Option zV)) (ws : zW), (∃ (s : Int) (n_count : Int) (n_places : Nat → Int) (n_lengths : Nat → Int) (n_kinds : Nat → Int) (n_words : Nat → Int) (n_costs : Nat → Int), lv = [some (.inr (some n_a)), some (.inr (some b_a)), some (.inl place), some (.inl s)] ∧ ws = [(n_a, .inr (.inr (2, [.inl n_lineLength, .inl n_count, .inr (some n_places_a), .inr (some n_lengths_a), .inr (some n_kinds_a), .inr (some n_costs_a), .inr (some n_words_a), .inr (some n_firsts_a), .inr (some n_joins_a), .inr (some n_slots_a), .inr (some n_routes_a)]))), (n_places_a, .inl (false, 480, n_places)), (n_lengths_a, .inl (false, 480, n_lengths)), (n_kinds_a, .inl (false, 480, n_kinds)), (n_costs_a, .inl (false, 480, n_costs)), (n_words_a, .inl (false, 480, n_words)), (n_firsts_a, .inl (false, 25, n_firsts)), (n_joins_a, .inl (false, 25, n_joins)), (n_slots_a, .inl (false, 28, n_slots)), (n_routes_a, .inl (false, 25, n_routes)), (b_a, .inr (.inr (0, [.inr (some b_dictionary_a), .inr (some b_joins_a), .inr (some b_rules_a), .inr (some b_line_a), .inl b_lineLength]))), (b_dictionary_a, .inr (.inr (1, [.inr (some b_dictionary_letters_a), .inr (some b_dictionary_lengths_a), .inr (some b_dictionary_kinds_a), .inr (some b_dictionary_costs_a), .inl b_dictionary_count]))), (b_dictionary_letters_a, .inl (false, 96, b_dictionary_letters)), (b_dictionary_lengths_a, .inl (false, 16, b_dictionary_lengths)), (b_dictionary_kinds_a, .inl (false, 16, b_dictionary_kinds)), (b_dictionary_costs_a, .inl (false, 16, b_dictionary_costs)), (b_joins_a, .inl (false, 25, b_joins)), (b_rules_a, .inl (false, 4, b_rules)), (b_line_a, .inl (false, 24, b_line))] ∧ mu_ = (28 - s).toNat ∧ (0 ≤ s ∧ s ≤ 28 ∧ n_count0 ≤ n_count ∧ n_count ≤ 480 ∧ PB n_places n_lengths n_kinds n_costs ∧ (∀ i : Nat, (i : Int) < n_count0 → n_places i = n_places0 i ∧ n_lengths i = n_lengths0 i) ∧ (∀ i : Nat, n_count0 ≤ i → (i : Int) < n_count → n_places i = place ∧ 1 ≤ n_lengths i))) → Z 0 0 2 lv [] ws) := by
    intro mu_
    induction mu_ using Nat.strongRecOn with
    | _ mu_ ih =>
      · intro lv ws hJ
        obtain ⟨s, n_count, n_places, n_lengths, n_kinds, n_words, n_costs, rfl, rfl, rfl, hi⟩ := hJ
        obtain ⟨i1, i2, i3, i4, i5, i6, i7⟩ := hi
        refine B.iload_n (pc := 2) (i := 3) dX2_addSlots_2 rfl rfl ?_
        refine B.aload_n (pc := 3) (i := 0) dX2_addSlots_3 rfl rfl ?_
        refine B.getfield (pc := 4) 0 rfl rfl inX2z 9 (by decide) fl_X2_33 rfl dX2_addSlots_4 ?_
        refine B.arraylength (pc := 7) 8 rfl (by decide) dX2_addSlots_7 ?_
        refine B.icmp_ge (pc := 8) (tgt := 44) dX2_addSlots_8 (by decide) (fun c8 => ?_) (fun c8 => ?_)
        · refine B.vreturn (pc := 44) rfl dX2_addSlots_44 (Nat.le_refl _) (Nat.le_refl _) (fun rw => ⟨_, _, _, _, _, _, rfl, ?_⟩)
          exact ⟨i5, i3, i4, i6, i7⟩
        · refine B.aload_n (pc := 11) (i := 0) dX2_addSlots_11 rfl rfl ?_
          refine B.getfield (pc := 12) 0 rfl rfl inX2z 9 (by decide) fl_X2_33 rfl dX2_addSlots_12 ?_
          refine B.iload_n (pc := 15) (i := 3) dX2_addSlots_15 rfl rfl ?_
          refine B.iaload (pc := 16) 8 rfl (by omega) (by omega) dX2_addSlots_16 (fun r16 => ?_)
          obtain ⟨lr16, ur16⟩ := r16
          refine B.iconst (pc := 17) dX2_addSlots_17 ⟨by decide, by decide⟩ ?_
          refine B.icmp_eq (pc := 18) (tgt := 38) dX2_addSlots_18 (by decide) (fun c18 => ?_) (fun c18 => ?_)
          · refine B.iinc (pc := 38) dX2_addSlots_38 (by decide) rfl ⟨by omega, by omega⟩ ?_
            simp only [List.set_cons_zero, List.set_cons_succ]
            refine B.goto (pc := 41) (tgt := 2) dX2_addSlots_41 (by decide) ?_
            refine (ih _ ?_) _ _ ⟨_, _, _, _, _, _, _, rfl, rfl, rfl, ?_⟩
            · omega
            · first | exact ⟨by omega, by omega, i3, i4, i5, i6, i7⟩ | exact ⟨by omega, by omega, by omega, by omega, hk35.2.1, add_old hk35.1 hk35.2.2.1 hk35.2.2.2 (by omega) i3 i6, add_new hk35.1 hk35.2.2.1 hk35.2.2.2 (by omega) i3 (by omega) i7⟩
          · refine B.aload_n (pc := 21) (i := 0) dX2_addSlots_21 rfl rfl ?_
            refine B.getfield (pc := 22) 0 rfl rfl inX2z 1 (by decide) fl_X2_53 rfl dX2_addSlots_22 ?_
            refine B.sipush (pc := 25) dX2_addSlots_25 ⟨by decide, by decide⟩ ?_
            refine B.icmp_ge (pc := 28) (tgt := 38) dX2_addSlots_28 (by decide) (fun c28 => ?_) (fun c28 => ?_)
            · refine B.iinc (pc := 38) dX2_addSlots_38 (by decide) rfl ⟨by omega, by omega⟩ ?_
              simp only [List.set_cons_zero, List.set_cons_succ]
              refine B.goto (pc := 41) (tgt := 2) dX2_addSlots_41 (by decide) ?_
              refine (ih _ ?_) _ _ ⟨_, _, _, _, _, _, _, rfl, rfl, rfl, ?_⟩
              · omega
              · first | exact ⟨by omega, by omega, i3, i4, i5, i6, i7⟩ | exact ⟨by omega, by omega, by omega, by omega, hk35.2.1, add_old hk35.1 hk35.2.2.1 hk35.2.2.2 (by omega) i3 i6, add_new hk35.1 hk35.2.2.1 hk35.2.2.2 (by omega) i3 (by omega) i7⟩
            · have hs := hSI s.toNat (by omega) (by omega)
              have hs2 : ((s.toNat / 4 : Nat) : Int) = s / 4 := by omega
              refine B.aload_n (pc := 31) (i := 0) dX2_addSlots_31 rfl rfl ?_
              refine B.aload_n (pc := 32) (i := 1) dX2_addSlots_32 rfl rfl ?_
              refine B.iload_n (pc := 33) (i := 2) dX2_addSlots_33 rfl rfl ?_
              refine B.iload_n (pc := 34) (i := 3) dX2_addSlots_34 rfl rfl ?_
              refine B.callVv (pc := 35) 3 (mX2_add hE _ _ _ _ _ _ _ _ _ _ _ _ _ _ _ _ _ _ _ _ _ _ _ _ _ _ _ _ _ _ _ _ _ _ _ _ _ _ _ _ _) 0 rfl rfl ml_X2_93 im_X2_add se_X2_add it_X2 co_X2_add (by decide +kernel) rfl rfl rfl ⟨by decide, by decide⟩ ⟨by decide, by decide⟩ [0, 1, 2, 3, 4, 5, 6, 7, 8, 9, 10, 11, 12, 13, 14, 15, 16, 17, 18] rfl rfl rfl (Nat.le_of_ble_eq_true rfl) dX2_addSlots_35 (fun _ => ⟨hD, hB, i5, by omega, by omega, by omega, by omega, by omega, by omega, hs.2.2⟩) (fun uk35 ruk35 rak35 hqk35 => ?_)
              obtain ⟨n_count_k35, n_places_k35, n_lengths_k35, n_kinds_k35, n_words_k35, n_costs_k35, rfl, hk35⟩ := hqk35
              simp only [zput, List.set_cons_zero, List.set_cons_succ, List.append_nil, Nat.add_zero]
              refine B.iinc (pc := 38) dX2_addSlots_38 (by decide) rfl ⟨by omega, by omega⟩ ?_
              simp only [List.set_cons_zero, List.set_cons_succ]
              refine B.goto (pc := 41) (tgt := 2) dX2_addSlots_41 (by decide) ?_
              refine (ih _ ?_) _ _ ⟨_, _, _, _, _, _, _, rfl, rfl, rfl, ?_⟩
              · omega
              · first | exact ⟨by omega, by omega, i3, i4, i5, i6, i7⟩ | exact ⟨by omega, by omega, by omega, by omega, hk35.2.1, add_old hk35.1 hk35.2.2.1 hk35.2.2.2 (by omega) i3 i6, add_new hk35.1 hk35.2.2.1 hk35.2.2.2 (by omega) i3 (by omega) i7⟩
  show Z 0 0 0 [some (.inr (some n_a)), some (.inr (some b_a)), some (.inl place), none] [] _
  refine B.iconst (pc := 0) dX2_addSlots_0 ⟨by decide, by decide⟩ ?_
  refine B.istore_n (pc := 1) (i := 3) dX2_addSlots_1 rfl (by decide) ?_
  simp only [List.set_cons_zero, List.set_cons_succ]
  refine (key _) _ _ ⟨_, _, _, _, _, _, _, rfl, rfl, rfl, ?_⟩
  subst e_count0; subst e_places0; subst e_lengths0
  exact ⟨by omega, by omega, by omega, by omega, hPB, fun i _ => ⟨rfl, rfl⟩, fun i h1 h2 => by omega⟩
set_option maxHeartbeats 4000000 in
set_option maxRecDepth 100000 in
theorem mX2_fillWords {l : Launch} {D : va_G} {k : zK} {E : zE} (hE : zEok E) (n_a n_places_a n_lengths_a n_kinds_a n_costs_a n_words_a n_firsts_a n_joins_a n_slots_a n_routes_a b_a b_dictionary_a b_dictionary_letters_a b_dictionary_lengths_a b_dictionary_kinds_a b_dictionary_costs_a b_joins_a b_rules_a b_line_a : Nat) (n_lineLength n_count b_dictionary_count b_lineLength place : Int) (n_places n_lengths n_kinds n_costs n_words n_firsts n_joins n_slots n_routes b_dictionary_letters b_dictionary_lengths b_dictionary_kinds b_dictionary_costs b_joins b_rules b_line : Nat → Int) : zMi l D k E yX2_fillWords cX2_fillWords 6 .boolean { frames := 1, cells := 0, slots := 0, locals := 25 } 0 0 [.inr (some n_a), .inr (some b_a), .inl place] [(n_a, .inr (.inr (2, [.inl n_lineLength, .inl n_count, .inr (some n_places_a), .inr (some n_lengths_a), .inr (some n_kinds_a), .inr (some n_costs_a), .inr (some n_words_a), .inr (some n_firsts_a), .inr (some n_joins_a), .inr (some n_slots_a), .inr (some n_routes_a)]))), (n_places_a, .inl (false, 480, n_places)), (n_lengths_a, .inl (false, 480, n_lengths)), (n_kinds_a, .inl (false, 480, n_kinds)), (n_costs_a, .inl (false, 480, n_costs)), (n_words_a, .inl (false, 480, n_words)), (n_firsts_a, .inl (false, 25, n_firsts)), (n_joins_a, .inl (false, 25, n_joins)), (n_slots_a, .inl (false, 28, n_slots)), (n_routes_a, .inl (false, 25, n_routes)), (b_a, .inr (.inr (0, [.inr (some b_dictionary_a), .inr (some b_joins_a), .inr (some b_rules_a), .inr (some b_line_a), .inl b_lineLength]))), (b_dictionary_a, .inr (.inr (1, [.inr (some b_dictionary_letters_a), .inr (some b_dictionary_lengths_a), .inr (some b_dictionary_kinds_a), .inr (some b_dictionary_costs_a), .inl b_dictionary_count]))), (b_dictionary_letters_a, .inl (false, 96, b_dictionary_letters)), (b_dictionary_lengths_a, .inl (false, 16, b_dictionary_lengths)), (b_dictionary_kinds_a, .inl (false, 16, b_dictionary_kinds)), (b_dictionary_costs_a, .inl (false, 16, b_dictionary_costs)), (b_joins_a, .inl (false, 25, b_joins)), (b_rules_a, .inl (false, 4, b_rules)), (b_line_a, .inl (false, 24, b_line))] (DI b_dictionary_count b_dictionary_lengths b_dictionary_kinds b_dictionary_costs ∧ SI n_slots place b_lineLength b_dictionary_count ∧ 0 ≤ place ∧ place < b_lineLength ∧ b_lineLength ≤ 24) (fun z u => ∃ (n_slots' : Nat → Int), u = [(n_a, .inr (.inr (2, [.inl n_lineLength, .inl n_count, .inr (some n_places_a), .inr (some n_lengths_a), .inr (some n_kinds_a), .inr (some n_costs_a), .inr (some n_words_a), .inr (some n_firsts_a), .inr (some n_joins_a), .inr (some n_slots_a), .inr (some n_routes_a)]))), (n_places_a, .inl (false, 480, n_places)), (n_lengths_a, .inl (false, 480, n_lengths)), (n_kinds_a, .inl (false, 480, n_kinds)), (n_costs_a, .inl (false, 480, n_costs)), (n_words_a, .inl (false, 480, n_words)), (n_firsts_a, .inl (false, 25, n_firsts)), (n_joins_a, .inl (false, 25, n_joins)), (n_slots_a, .inl (false, 28, n_slots')), (n_routes_a, .inl (false, 25, n_routes)), (b_a, .inr (.inr (0, [.inr (some b_dictionary_a), .inr (some b_joins_a), .inr (some b_rules_a), .inr (some b_line_a), .inl b_lineLength]))), (b_dictionary_a, .inr (.inr (1, [.inr (some b_dictionary_letters_a), .inr (some b_dictionary_lengths_a), .inr (some b_dictionary_kinds_a), .inr (some b_dictionary_costs_a), .inl b_dictionary_count]))), (b_dictionary_letters_a, .inl (false, 96, b_dictionary_letters)), (b_dictionary_lengths_a, .inl (false, 16, b_dictionary_lengths)), (b_dictionary_kinds_a, .inl (false, 16, b_dictionary_kinds)), (b_dictionary_costs_a, .inl (false, 16, b_dictionary_costs)), (b_joins_a, .inl (false, 25, b_joins)), (b_rules_a, .inl (false, 4, b_rules)), (b_line_a, .inl (false, 24, b_line))] ∧ ((z = 0 ∨ z = 1) ∧ SI n_slots' place b_lineLength b_dictionary_count)) := by
  refine zMi.of RX2 hE (by decide) rfl (by simp) (fun z u hp hq => ?_) ?_
  · have hz : z = 0 ∨ z = 1 := by obtain ⟨_, _, hq⟩ := hq; first | exact hq | exact hq.1 | exact Or.inr hq
    rcases hz with rfl | rfl <;> decide
  intro Z hP hav hwr B
  obtain ⟨l_place, u_place⟩ : zR place := hav (.inl place) (by simp)
  obtain ⟨l_n_lineLength, u_n_lineLength⟩ : zR n_lineLength := zWr_at hwr (i := 0) rfl (.inl n_lineLength) (by simp)
  obtain ⟨l_n_count, u_n_count⟩ : zR n_count := zWr_at hwr (i := 0) rfl (.inl n_count) (by simp)
  obtain ⟨l_b_lineLength, u_b_lineLength⟩ : zR b_lineLength := zWr_at hwr (i := 10) rfl (.inl b_lineLength) (by simp)
  obtain ⟨l_b_dictionary_count, u_b_dictionary_count⟩ : zR b_dictionary_count := zWr_at hwr (i := 11) rfl (.inl b_dictionary_count) (by simp)
  obtain ⟨hD, hSI, hpl⟩ := hP
  obtain ⟨hD1, hD2, hD3⟩ := id hD
  have key : ∀ mu_ : Nat, (∀ (lv : List (Option zV)) (ws : zW), (∃ (f : Int) (w : Int) (n_slots : Nat → Int), lv = [some (.inr (some n_a)), some (.inr (some b_a)), some (.inl place), some (.inr (some b_dictionary_a)), some (.inl f), some (.inl w)] ∧ ws = [(n_a, .inr (.inr (2, [.inl n_lineLength, .inl n_count, .inr (some n_places_a), .inr (some n_lengths_a), .inr (some n_kinds_a), .inr (some n_costs_a), .inr (some n_words_a), .inr (some n_firsts_a), .inr (some n_joins_a), .inr (some n_slots_a), .inr (some n_routes_a)]))), (n_places_a, .inl (false, 480, n_places)), (n_lengths_a, .inl (false, 480, n_lengths)), (n_kinds_a, .inl (false, 480, n_kinds)), (n_costs_a, .inl (false, 480, n_costs)), (n_words_a, .inl (false, 480, n_words)), (n_firsts_a, .inl (false, 25, n_firsts)), (n_joins_a, .inl (false, 25, n_joins)), (n_slots_a, .inl (false, 28, n_slots)), (n_routes_a, .inl (false, 25, n_routes)), (b_a, .inr (.inr (0, [.inr (some b_dictionary_a), .inr (some b_joins_a), .inr (some b_rules_a), .inr (some b_line_a), .inl b_lineLength]))), (b_dictionary_a, .inr (.inr (1, [.inr (some b_dictionary_letters_a), .inr (some b_dictionary_lengths_a), .inr (some b_dictionary_kinds_a), .inr (some b_dictionary_costs_a), .inl b_dictionary_count]))), (b_dictionary_letters_a, .inl (false, 96, b_dictionary_letters)), (b_dictionary_lengths_a, .inl (false, 16, b_dictionary_lengths)), (b_dictionary_kinds_a, .inl (false, 16, b_dictionary_kinds)), (b_dictionary_costs_a, .inl (false, 16, b_dictionary_costs)), (b_joins_a, .inl (false, 25, b_joins)), (b_rules_a, .inl (false, 4, b_rules)), (b_line_a, .inl (false, 24, b_line))] ∧ mu_ = (b_dictionary_count - w).toNat ∧ ((f = 0 ∨ f = 1) ∧ 0 ≤ w ∧ w ≤ b_dictionary_count ∧ SI n_slots place b_lineLength b_dictionary_count)) → Z 0 0 11 lv [] ws) := by
    intro mu_
    induction mu_ using Nat.strongRecOn with
    | _ mu_ ih =>
      · intro lv ws hJ
        obtain ⟨f, w, n_slots, rfl, rfl, rfl, hi⟩ := hJ
        obtain ⟨i1, i2, i3, i4⟩ := hi
        refine B.iload (pc := 11) dX2_fillWords_11 rfl ?_
        refine B.aload_n (pc := 13) (i := 3) dX2_fillWords_13 rfl rfl ?_
        refine B.getfield (pc := 14) 11 rfl rfl inX1z 4 (by decide) fl_X2_77 rfl dX2_fillWords_14 ?_
        refine B.icmp_ge (pc := 17) (tgt := 71) dX2_fillWords_17 (by decide) (fun c17 => ?_) (fun c17 => ?_)
        · refine B.iload (pc := 71) dX2_fillWords_71 rfl ?_
          refine B.ireturn (pc := 73) (by simp) dX2_fillWords_73 (Nat.le_refl _) (Nat.le_refl _) (fun rz rw => ⟨_, rfl, ?_⟩)
          exact ⟨i1, i4⟩
        · have hw := hD.at (x := w) (by omega) (by omega)
          refine B.aload_n (pc := 20) (i := 3) dX2_fillWords_20 rfl rfl ?_
          refine B.iload (pc := 21) dX2_fillWords_21 rfl ?_
          refine B.aload_n (pc := 23) (i := 1) dX2_fillWords_23 rfl rfl ?_
          refine B.getfield (pc := 24) 10 rfl rfl inX0z 3 (by decide) fl_X2_80 rfl dX2_fillWords_24 ?_
          refine B.iload_n (pc := 27) (i := 2) dX2_fillWords_27 rfl rfl ?_
          refine B.aload_n (pc := 28) (i := 1) dX2_fillWords_28 rfl rfl ?_
          refine B.getfield (pc := 29) 10 rfl rfl inX0z 4 (by decide) fl_X2_39 rfl dX2_fillWords_29 ?_
          refine B.callVi (pc := 32) 4 (mX1_standsAt hE _ _ _ _ _ _ _ _ _ _ _ _ _ _ _ _) 11 rfl rfl ml_X2_83 im_X1_standsAt se_X1_standsAt it_X1 co_X1_standsAt (by decide +kernel) rfl rfl rfl ⟨by decide, by decide⟩ ⟨by decide, by decide⟩ [11, 12, 13, 14, 15, 18] rfl rfl rfl (Nat.le_of_ble_eq_true rfl) dX2_fillWords_32 (fun _ => by omega) (fun zk32 uk32 rzk32 ruk32 rak32 hqk32 => ?_)
          obtain ⟨lzk32, uzk32⟩ := rzk32
          obtain ⟨rfl, hk32⟩ := hqk32
          simp only [zput, List.set_cons_zero, List.set_cons_succ, List.append_nil, Nat.add_zero]
          refine B.if_eq (pc := 35) (tgt := 65) dX2_fillWords_35 (by decide) (fun c35 => ?_) (fun c35 => ?_)
          · refine B.iinc (pc := 65) dX2_fillWords_65 (by decide) rfl ⟨by omega, by omega⟩ ?_
            simp only [List.set_cons_zero, List.set_cons_succ]
            refine B.goto (pc := 68) (tgt := 11) dX2_fillWords_68 (by decide) ?_
            refine (ih _ ?_) _ _ ⟨_, _, _, rfl, rfl, rfl, ?_⟩
            · omega
            · first | exact ⟨by omega, by omega, by omega, i4⟩ | exact ⟨by omega, by omega, by omega, i4.put (by omega) (by omega) (by omega) (by omega)⟩
          · refine B.aload_n (pc := 38) (i := 0) dX2_fillWords_38 rfl rfl ?_
            refine B.getfield (pc := 39) 0 rfl rfl inX2z 9 (by decide) fl_X2_33 rfl dX2_fillWords_39 ?_
            refine B.aload_n (pc := 42) (i := 3) dX2_fillWords_42 rfl rfl ?_
            refine B.getfield (pc := 43) 11 rfl rfl inX1z 1 (by decide) fl_X2_87 rfl dX2_fillWords_43 ?_
            refine B.iload (pc := 46) dX2_fillWords_46 rfl ?_
            refine B.iaload (pc := 48) 13 rfl (by omega) (by omega) dX2_fillWords_48 (fun r48 => ?_)
            obtain ⟨lr48, ur48⟩ := r48
            refine B.iconst (pc := 49) dX2_fillWords_49 ⟨by decide, by decide⟩ ?_
            refine B.imul (pc := 50) dX2_fillWords_50 ⟨by omega, by omega⟩ ?_
            refine B.aload_n (pc := 51) (i := 3) dX2_fillWords_51 rfl rfl ?_
            refine B.getfield (pc := 52) 11 rfl rfl inX1z 2 (by decide) fl_X2_88 rfl dX2_fillWords_52 ?_
            refine B.iload (pc := 55) dX2_fillWords_55 rfl ?_
            refine B.iaload (pc := 57) 14 rfl (by omega) (by omega) dX2_fillWords_57 (fun r57 => ?_)
            obtain ⟨lr57, ur57⟩ := r57
            refine B.iadd (pc := 58) dX2_fillWords_58 ⟨by omega, by omega⟩ ?_
            refine B.iload (pc := 59) dX2_fillWords_59 rfl ?_
            refine B.iastore (pc := 61) 8 rfl (by omega) (by omega) dX2_fillWords_61 ?_
            simp only [List.set_cons_zero, List.set_cons_succ]
            refine B.iconst (pc := 62) dX2_fillWords_62 ⟨by decide, by decide⟩ ?_
            refine B.istore (pc := 63) (i := 4) dX2_fillWords_63 (by decide) ?_
            simp only [List.set_cons_zero, List.set_cons_succ]
            refine B.iinc (pc := 65) dX2_fillWords_65 (by decide) rfl ⟨by omega, by omega⟩ ?_
            simp only [List.set_cons_zero, List.set_cons_succ]
            refine B.goto (pc := 68) (tgt := 11) dX2_fillWords_68 (by decide) ?_
            refine (ih _ ?_) _ _ ⟨_, _, _, rfl, rfl, rfl, ?_⟩
            · omega
            · first | exact ⟨by omega, by omega, by omega, i4⟩ | exact ⟨by omega, by omega, by omega, i4.put (by omega) (by omega) (by omega) (by omega)⟩
  show Z 0 0 0 [some (.inr (some n_a)), some (.inr (some b_a)), some (.inl place), none, none, none] [] _
  refine B.aload_n (pc := 0) (i := 1) dX2_fillWords_0 rfl rfl ?_
  refine B.getfield (pc := 1) 10 rfl rfl inX0z 0 (by decide) fl_X2_73 rfl dX2_fillWords_1 ?_
  refine B.astore_n (pc := 4) (i := 3) dX2_fillWords_4 rfl (by decide) ?_
  simp only [List.set_cons_zero, List.set_cons_succ]
  refine B.iconst (pc := 5) dX2_fillWords_5 ⟨by decide, by decide⟩ ?_
  refine B.istore (pc := 6) (i := 4) dX2_fillWords_6 (by decide) ?_
  simp only [List.set_cons_zero, List.set_cons_succ]
  refine B.iconst (pc := 8) dX2_fillWords_8 ⟨by decide, by decide⟩ ?_
  refine B.istore (pc := 9) (i := 5) dX2_fillWords_9 (by decide) ?_
  simp only [List.set_cons_zero, List.set_cons_succ]
  refine (key _) _ _ ⟨_, _, _, rfl, rfl, rfl, ?_⟩
  exact ⟨by omega, by omega, by omega, hSI⟩
set_option maxHeartbeats 4000000 in
set_option maxRecDepth 100000 in
theorem mX2_fillWild {l : Launch} {D : va_G} {k : zK} {E : zE} (hE : zEok E) (n_a n_places_a n_lengths_a n_kinds_a n_costs_a n_words_a n_firsts_a n_joins_a n_slots_a n_routes_a b_a b_dictionary_a b_dictionary_letters_a b_dictionary_lengths_a b_dictionary_kinds_a b_dictionary_costs_a b_joins_a b_rules_a b_line_a : Nat) (n_lineLength n_count b_dictionary_count b_lineLength place : Int) (n_places n_lengths n_kinds n_costs n_words n_firsts n_joins n_slots n_routes b_dictionary_letters b_dictionary_lengths b_dictionary_kinds b_dictionary_costs b_joins b_rules b_line : Nat → Int) : zMv l D k E yX2_fillWild cX2_fillWild 5 { frames := 2, cells := 0, slots := 0, locals := 44 } 0 0 [.inr (some n_a), .inr (some b_a), .inl place] [(n_a, .inr (.inr (2, [.inl n_lineLength, .inl n_count, .inr (some n_places_a), .inr (some n_lengths_a), .inr (some n_kinds_a), .inr (some n_costs_a), .inr (some n_words_a), .inr (some n_firsts_a), .inr (some n_joins_a), .inr (some n_slots_a), .inr (some n_routes_a)]))), (n_places_a, .inl (false, 480, n_places)), (n_lengths_a, .inl (false, 480, n_lengths)), (n_kinds_a, .inl (false, 480, n_kinds)), (n_costs_a, .inl (false, 480, n_costs)), (n_words_a, .inl (false, 480, n_words)), (n_firsts_a, .inl (false, 25, n_firsts)), (n_joins_a, .inl (false, 25, n_joins)), (n_slots_a, .inl (false, 28, n_slots)), (n_routes_a, .inl (false, 25, n_routes)), (b_a, .inr (.inr (0, [.inr (some b_dictionary_a), .inr (some b_joins_a), .inr (some b_rules_a), .inr (some b_line_a), .inl b_lineLength]))), (b_dictionary_a, .inr (.inr (1, [.inr (some b_dictionary_letters_a), .inr (some b_dictionary_lengths_a), .inr (some b_dictionary_kinds_a), .inr (some b_dictionary_costs_a), .inl b_dictionary_count]))), (b_dictionary_letters_a, .inl (false, 96, b_dictionary_letters)), (b_dictionary_lengths_a, .inl (false, 16, b_dictionary_lengths)), (b_dictionary_kinds_a, .inl (false, 16, b_dictionary_kinds)), (b_dictionary_costs_a, .inl (false, 16, b_dictionary_costs)), (b_joins_a, .inl (false, 25, b_joins)), (b_rules_a, .inl (false, 4, b_rules)), (b_line_a, .inl (false, 24, b_line))] (BI b_joins b_rules b_lineLength ∧ SI n_slots place b_lineLength b_dictionary_count ∧ 0 ≤ place ∧ place < b_lineLength) (fun z u => ∃ (n_slots' : Nat → Int), u = [(n_a, .inr (.inr (2, [.inl n_lineLength, .inl n_count, .inr (some n_places_a), .inr (some n_lengths_a), .inr (some n_kinds_a), .inr (some n_costs_a), .inr (some n_words_a), .inr (some n_firsts_a), .inr (some n_joins_a), .inr (some n_slots_a), .inr (some n_routes_a)]))), (n_places_a, .inl (false, 480, n_places)), (n_lengths_a, .inl (false, 480, n_lengths)), (n_kinds_a, .inl (false, 480, n_kinds)), (n_costs_a, .inl (false, 480, n_costs)), (n_words_a, .inl (false, 480, n_words)), (n_firsts_a, .inl (false, 25, n_firsts)), (n_joins_a, .inl (false, 25, n_joins)), (n_slots_a, .inl (false, 28, n_slots')), (n_routes_a, .inl (false, 25, n_routes)), (b_a, .inr (.inr (0, [.inr (some b_dictionary_a), .inr (some b_joins_a), .inr (some b_rules_a), .inr (some b_line_a), .inl b_lineLength]))), (b_dictionary_a, .inr (.inr (1, [.inr (some b_dictionary_letters_a), .inr (some b_dictionary_lengths_a), .inr (some b_dictionary_kinds_a), .inr (some b_dictionary_costs_a), .inl b_dictionary_count]))), (b_dictionary_letters_a, .inl (false, 96, b_dictionary_letters)), (b_dictionary_lengths_a, .inl (false, 16, b_dictionary_lengths)), (b_dictionary_kinds_a, .inl (false, 16, b_dictionary_kinds)), (b_dictionary_costs_a, .inl (false, 16, b_dictionary_costs)), (b_joins_a, .inl (false, 25, b_joins)), (b_rules_a, .inl (false, 4, b_rules)), (b_line_a, .inl (false, 24, b_line))] ∧ (SI n_slots' place b_lineLength b_dictionary_count)) := by
  refine zMv.of RX2 hE (by decide) rfl (by simp) ?_
  intro Z hP hav hwr B
  obtain ⟨l_place, u_place⟩ : zR place := hav (.inl place) (by simp)
  obtain ⟨l_n_lineLength, u_n_lineLength⟩ : zR n_lineLength := zWr_at hwr (i := 0) rfl (.inl n_lineLength) (by simp)
  obtain ⟨l_n_count, u_n_count⟩ : zR n_count := zWr_at hwr (i := 0) rfl (.inl n_count) (by simp)
  obtain ⟨l_b_lineLength, u_b_lineLength⟩ : zR b_lineLength := zWr_at hwr (i := 10) rfl (.inl b_lineLength) (by simp)
  obtain ⟨l_b_dictionary_count, u_b_dictionary_count⟩ : zR b_dictionary_count := zWr_at hwr (i := 11) rfl (.inl b_dictionary_count) (by simp)
  obtain ⟨hB, hSI, hpl⟩ := hP
  obtain ⟨hB0, hB1⟩ := id hB
  have key : ∀ mu_ : Nat, (∀ (lv : List (Option zV)) (ws : zW), (∃ (run : Int) (s : Int) (n_slots : Nat → Int), lv = [some (.inr (some n_a)), some (.inr (some b_a)), some (.inl place), some (.inl run), some (.inl s)] ∧ ws = [(n_a, .inr (.inr (2, [.inl n_lineLength, .inl n_count, .inr (some n_places_a), .inr (some n_lengths_a), .inr (some n_kinds_a), .inr (some n_costs_a), .inr (some n_words_a), .inr (some n_firsts_a), .inr (some n_joins_a), .inr (some n_slots_a), .inr (some n_routes_a)]))), (n_places_a, .inl (false, 480, n_places)), (n_lengths_a, .inl (false, 480, n_lengths)), (n_kinds_a, .inl (false, 480, n_kinds)), (n_costs_a, .inl (false, 480, n_costs)), (n_words_a, .inl (false, 480, n_words)), (n_firsts_a, .inl (false, 25, n_firsts)), (n_joins_a, .inl (false, 25, n_joins)), (n_slots_a, .inl (false, 28, n_slots)), (n_routes_a, .inl (false, 25, n_routes)), (b_a, .inr (.inr (0, [.inr (some b_dictionary_a), .inr (some b_joins_a), .inr (some b_rules_a), .inr (some b_line_a), .inl b_lineLength]))), (b_dictionary_a, .inr (.inr (1, [.inr (some b_dictionary_letters_a), .inr (some b_dictionary_lengths_a), .inr (some b_dictionary_kinds_a), .inr (some b_dictionary_costs_a), .inl b_dictionary_count]))), (b_dictionary_letters_a, .inl (false, 96, b_dictionary_letters)), (b_dictionary_lengths_a, .inl (false, 16, b_dictionary_lengths)), (b_dictionary_kinds_a, .inl (false, 16, b_dictionary_kinds)), (b_dictionary_costs_a, .inl (false, 16, b_dictionary_costs)), (b_joins_a, .inl (false, 25, b_joins)), (b_rules_a, .inl (false, 4, b_rules)), (b_line_a, .inl (false, 24, b_line))] ∧ mu_ = (run - s).toNat ∧ (1 ≤ run ∧ run ≤ 6 ∧ place + run ≤ b_lineLength ∧ 1 ≤ s ∧ s ≤ run ∧ SI n_slots place b_lineLength b_dictionary_count)) → Z 0 0 21 lv [] ws) := by
    intro mu_
    induction mu_ using Nat.strongRecOn with
    | _ mu_ ih =>
      · intro lv ws hJ
        obtain ⟨run, s, n_slots, rfl, rfl, rfl, hi⟩ := hJ
        obtain ⟨i1, i2, i3, i4, i5, i6⟩ := hi
        refine B.iload (pc := 21) dX2_fillWild_21 rfl ?_
        refine B.aload_n (pc := 23) (i := 1) dX2_fillWild_23 rfl rfl ?_
        refine B.getfield (pc := 24) 10 rfl rfl inX0z 2 (by decide) fl_X2_67 rfl dX2_fillWild_24 ?_
        refine B.iconst (pc := 27) dX2_fillWild_27 ⟨by decide, by decide⟩ ?_
        refine B.iaload (pc := 28) 17 rfl (by omega) (by omega) dX2_fillWild_28 (fun r28 => ?_)
        obtain ⟨lr28, ur28⟩ := r28
        refine B.icmp_gt (pc := 29) (tgt := 57) dX2_fillWild_29 (by decide) (fun c29 => ?_) (fun c29 => ?_)
        · refine B.vreturn (pc := 57) rfl dX2_fillWild_57 (Nat.le_refl _) (Nat.le_refl _) (fun rw => ⟨_, rfl, ?_⟩)
          exact i6
        · refine B.iload (pc := 32) dX2_fillWild_32 rfl ?_
          refine B.iload_n (pc := 34) (i := 3) dX2_fillWild_34 rfl rfl ?_
          refine B.icmp_ge (pc := 35) (tgt := 57) dX2_fillWild_35 (by decide) (fun c35 => ?_) (fun c35 => ?_)
          · refine B.vreturn (pc := 57) rfl dX2_fillWild_57 (Nat.le_refl _) (Nat.le_refl _) (fun rw => ⟨_, rfl, ?_⟩)
            exact i6
          · refine B.aload_n (pc := 38) (i := 0) dX2_fillWild_38 rfl rfl ?_
            refine B.getfield (pc := 39) 0 rfl rfl inX2z 9 (by decide) fl_X2_33 rfl dX2_fillWild_39 ?_
            refine B.iload (pc := 42) dX2_fillWild_42 rfl ?_
            refine B.iconst (pc := 44) dX2_fillWild_44 ⟨by decide, by decide⟩ ?_
            refine B.imul (pc := 45) dX2_fillWild_45 ⟨by omega, by omega⟩ ?_
            refine B.iconst (pc := 46) dX2_fillWild_46 ⟨by decide, by decide⟩ ?_
            refine B.iadd (pc := 47) dX2_fillWild_47 ⟨by omega, by omega⟩ ?_
            refine B.bipush (pc := 48) dX2_fillWild_48 ⟨by decide, by decide⟩ ?_
            refine B.iastore (pc := 50) 8 rfl (by omega) (by omega) dX2_fillWild_50 ?_
            simp only [List.set_cons_zero, List.set_cons_succ]
            refine B.iinc (pc := 51) dX2_fillWild_51 (by decide) rfl ⟨by omega, by omega⟩ ?_
            simp only [List.set_cons_zero, List.set_cons_succ]
            refine B.goto (pc := 54) (tgt := 21) dX2_fillWild_54 (by decide) ?_
            refine (ih _ ?_) _ _ ⟨_, _, _, rfl, rfl, rfl, ?_⟩
            · omega
            · exact ⟨by omega, by omega, by omega, by omega, by omega, i6.put (by omega) (by omega) (by omega) (Or.inl rfl)⟩
  show Z 0 0 0 [some (.inr (some n_a)), some (.inr (some b_a)), some (.inl place), none, none] [] _
  refine B.aload_n (pc := 0) (i := 1) dX2_fillWild_0 rfl rfl ?_
  refine B.iload_n (pc := 1) (i := 2) dX2_fillWild_1 rfl rfl ?_
  refine B.callVi (pc := 2) 1 (mX0_runLength hE _ _ _ _ _ _ _ _ _ _ _ _ _ _ _ _ _ _ _) 10 rfl rfl ml_X2_89 im_X0_runLength se_X0_runLength it_X0 co_X0_runLength (by decide +kernel) rfl rfl rfl ⟨by decide, by decide⟩ ⟨by decide, by decide⟩ [10, 11, 12, 13, 14, 15, 16, 17, 18] rfl rfl rfl (Nat.le_of_ble_eq_true rfl) dX2_fillWild_2 (fun _ => by omega) (fun zk2 uk2 rzk2 ruk2 rak2 hqk2 => ?_)
  obtain ⟨lzk2, uzk2⟩ := rzk2
  obtain ⟨rfl, hk2⟩ := hqk2
  simp only [zput, List.set_cons_zero, List.set_cons_succ, List.append_nil, Nat.add_zero]
  refine B.istore_n (pc := 5) (i := 3) dX2_fillWild_5 rfl (by decide) ?_
  simp only [List.set_cons_zero, List.set_cons_succ]
  refine B.aload_n (pc := 6) (i := 0) dX2_fillWild_6 rfl rfl ?_
  refine B.getfield (pc := 7) 0 rfl rfl inX2z 9 (by decide) fl_X2_33 rfl dX2_fillWild_7 ?_
  refine B.iload_n (pc := 10) (i := 3) dX2_fillWild_10 rfl rfl ?_
  refine B.iconst (pc := 11) dX2_fillWild_11 ⟨by decide, by decide⟩ ?_
  refine B.imul (pc := 12) dX2_fillWild_12 ⟨by omega, by omega⟩ ?_
  refine B.iconst (pc := 13) dX2_fillWild_13 ⟨by decide, by decide⟩ ?_
  refine B.iadd (pc := 14) dX2_fillWild_14 ⟨by omega, by omega⟩ ?_
  refine B.bipush (pc := 15) dX2_fillWild_15 ⟨by decide, by decide⟩ ?_
  refine B.iastore (pc := 17) 8 rfl (by omega) (by omega) dX2_fillWild_17 ?_
  simp only [List.set_cons_zero, List.set_cons_succ]
  refine B.iconst (pc := 18) dX2_fillWild_18 ⟨by decide, by decide⟩ ?_
  refine B.istore (pc := 19) (i := 4) dX2_fillWild_19 (by decide) ?_
  simp only [List.set_cons_zero, List.set_cons_succ]
  refine (key _) _ _ ⟨_, _, _, rfl, rfl, rfl, ?_⟩
  exact ⟨by omega, by omega, by omega, by omega, by omega, hSI.put (by omega) (by omega) (by omega) (Or.inl rfl)⟩
set_option maxHeartbeats 4000000 in
set_option maxRecDepth 100000 in
theorem mX2_fillSlots {l : Launch} {D : va_G} {k : zK} {E : zE} (hE : zEok E) (n_a n_places_a n_lengths_a n_kinds_a n_costs_a n_words_a n_firsts_a n_joins_a n_slots_a n_routes_a b_a b_dictionary_a b_dictionary_letters_a b_dictionary_lengths_a b_dictionary_kinds_a b_dictionary_costs_a b_joins_a b_rules_a b_line_a : Nat) (n_lineLength n_count b_dictionary_count b_lineLength place : Int) (n_places n_lengths n_kinds n_costs n_words n_firsts n_joins n_slots n_routes b_dictionary_letters b_dictionary_lengths b_dictionary_kinds b_dictionary_costs b_joins b_rules b_line : Nat → Int) : zMv l D k E yX2_fillSlots cX2_fillSlots 5 { frames := 3, cells := 0, slots := 0, locals := 68 } 0 0 [.inr (some n_a), .inr (some b_a), .inl place] [(n_a, .inr (.inr (2, [.inl n_lineLength, .inl n_count, .inr (some n_places_a), .inr (some n_lengths_a), .inr (some n_kinds_a), .inr (some n_costs_a), .inr (some n_words_a), .inr (some n_firsts_a), .inr (some n_joins_a), .inr (some n_slots_a), .inr (some n_routes_a)]))), (n_places_a, .inl (false, 480, n_places)), (n_lengths_a, .inl (false, 480, n_lengths)), (n_kinds_a, .inl (false, 480, n_kinds)), (n_costs_a, .inl (false, 480, n_costs)), (n_words_a, .inl (false, 480, n_words)), (n_firsts_a, .inl (false, 25, n_firsts)), (n_joins_a, .inl (false, 25, n_joins)), (n_slots_a, .inl (false, 28, n_slots)), (n_routes_a, .inl (false, 25, n_routes)), (b_a, .inr (.inr (0, [.inr (some b_dictionary_a), .inr (some b_joins_a), .inr (some b_rules_a), .inr (some b_line_a), .inl b_lineLength]))), (b_dictionary_a, .inr (.inr (1, [.inr (some b_dictionary_letters_a), .inr (some b_dictionary_lengths_a), .inr (some b_dictionary_kinds_a), .inr (some b_dictionary_costs_a), .inl b_dictionary_count]))), (b_dictionary_letters_a, .inl (false, 96, b_dictionary_letters)), (b_dictionary_lengths_a, .inl (false, 16, b_dictionary_lengths)), (b_dictionary_kinds_a, .inl (false, 16, b_dictionary_kinds)), (b_dictionary_costs_a, .inl (false, 16, b_dictionary_costs)), (b_joins_a, .inl (false, 25, b_joins)), (b_rules_a, .inl (false, 4, b_rules)), (b_line_a, .inl (false, 24, b_line))] (DI b_dictionary_count b_dictionary_lengths b_dictionary_kinds b_dictionary_costs ∧ BI b_joins b_rules b_lineLength ∧ 0 ≤ place ∧ place < b_lineLength) (fun z u => ∃ (n_slots' : Nat → Int), u = [(n_a, .inr (.inr (2, [.inl n_lineLength, .inl n_count, .inr (some n_places_a), .inr (some n_lengths_a), .inr (some n_kinds_a), .inr (some n_costs_a), .inr (some n_words_a), .inr (some n_firsts_a), .inr (some n_joins_a), .inr (some n_slots_a), .inr (some n_routes_a)]))), (n_places_a, .inl (false, 480, n_places)), (n_lengths_a, .inl (false, 480, n_lengths)), (n_kinds_a, .inl (false, 480, n_kinds)), (n_costs_a, .inl (false, 480, n_costs)), (n_words_a, .inl (false, 480, n_words)), (n_firsts_a, .inl (false, 25, n_firsts)), (n_joins_a, .inl (false, 25, n_joins)), (n_slots_a, .inl (false, 28, n_slots')), (n_routes_a, .inl (false, 25, n_routes)), (b_a, .inr (.inr (0, [.inr (some b_dictionary_a), .inr (some b_joins_a), .inr (some b_rules_a), .inr (some b_line_a), .inl b_lineLength]))), (b_dictionary_a, .inr (.inr (1, [.inr (some b_dictionary_letters_a), .inr (some b_dictionary_lengths_a), .inr (some b_dictionary_kinds_a), .inr (some b_dictionary_costs_a), .inl b_dictionary_count]))), (b_dictionary_letters_a, .inl (false, 96, b_dictionary_letters)), (b_dictionary_lengths_a, .inl (false, 16, b_dictionary_lengths)), (b_dictionary_kinds_a, .inl (false, 16, b_dictionary_kinds)), (b_dictionary_costs_a, .inl (false, 16, b_dictionary_costs)), (b_joins_a, .inl (false, 25, b_joins)), (b_rules_a, .inl (false, 4, b_rules)), (b_line_a, .inl (false, 24, b_line))] ∧ (SI n_slots' place b_lineLength b_dictionary_count)) := by
  refine zMv.of RX2 hE (by decide) rfl (by simp) ?_
  intro Z hP hav hwr B
  obtain ⟨l_place, u_place⟩ : zR place := hav (.inl place) (by simp)
  obtain ⟨l_n_lineLength, u_n_lineLength⟩ : zR n_lineLength := zWr_at hwr (i := 0) rfl (.inl n_lineLength) (by simp)
  obtain ⟨l_n_count, u_n_count⟩ : zR n_count := zWr_at hwr (i := 0) rfl (.inl n_count) (by simp)
  obtain ⟨l_b_lineLength, u_b_lineLength⟩ : zR b_lineLength := zWr_at hwr (i := 10) rfl (.inl b_lineLength) (by simp)
  obtain ⟨l_b_dictionary_count, u_b_dictionary_count⟩ : zR b_dictionary_count := zWr_at hwr (i := 11) rfl (.inl b_dictionary_count) (by simp)
  obtain ⟨hD, hB, hpl⟩ := hP
  obtain ⟨hB0, hB1⟩ := id hB
  have key : ∀ mu_ : Nat, (∀ (lv : List (Option zV)) (ws : zW), (∃ (d4 : Option zV) (s : Int) (n_slots : Nat → Int), lv = [some (.inr (some n_a)), some (.inr (some b_a)), some (.inl place), some (.inl s), d4] ∧ ws = [(n_a, .inr (.inr (2, [.inl n_lineLength, .inl n_count, .inr (some n_places_a), .inr (some n_lengths_a), .inr (some n_kinds_a), .inr (some n_costs_a), .inr (some n_words_a), .inr (some n_firsts_a), .inr (some n_joins_a), .inr (some n_slots_a), .inr (some n_routes_a)]))), (n_places_a, .inl (false, 480, n_places)), (n_lengths_a, .inl (false, 480, n_lengths)), (n_kinds_a, .inl (false, 480, n_kinds)), (n_costs_a, .inl (false, 480, n_costs)), (n_words_a, .inl (false, 480, n_words)), (n_firsts_a, .inl (false, 25, n_firsts)), (n_joins_a, .inl (false, 25, n_joins)), (n_slots_a, .inl (false, 28, n_slots)), (n_routes_a, .inl (false, 25, n_routes)), (b_a, .inr (.inr (0, [.inr (some b_dictionary_a), .inr (some b_joins_a), .inr (some b_rules_a), .inr (some b_line_a), .inl b_lineLength]))), (b_dictionary_a, .inr (.inr (1, [.inr (some b_dictionary_letters_a), .inr (some b_dictionary_lengths_a), .inr (some b_dictionary_kinds_a), .inr (some b_dictionary_costs_a), .inl b_dictionary_count]))), (b_dictionary_letters_a, .inl (false, 96, b_dictionary_letters)), (b_dictionary_lengths_a, .inl (false, 16, b_dictionary_lengths)), (b_dictionary_kinds_a, .inl (false, 16, b_dictionary_kinds)), (b_dictionary_costs_a, .inl (false, 16, b_dictionary_costs)), (b_joins_a, .inl (false, 25, b_joins)), (b_rules_a, .inl (false, 4, b_rules)), (b_line_a, .inl (false, 24, b_line))] ∧ mu_ = (28 - s).toNat ∧ (0 ≤ s ∧ s ≤ 28 ∧ ∀ j : Nat, (j : Int) < s → n_slots j = -1)) → Z 0 0 2 lv [] ws) := by
    intro mu_
    induction mu_ using Nat.strongRecOn with
    | _ mu_ ih =>
      · intro lv ws hJ
        obtain ⟨d4, s, n_slots, rfl, rfl, rfl, hi⟩ := hJ
        obtain ⟨i1, i2, i3⟩ := hi
        refine B.iload_n (pc := 2) (i := 3) dX2_fillSlots_2 rfl rfl ?_
        refine B.aload_n (pc := 3) (i := 0) dX2_fillSlots_3 rfl rfl ?_
        refine B.getfield (pc := 4) 0 rfl rfl inX2z 9 (by decide) fl_X2_33 rfl dX2_fillSlots_4 ?_
        refine B.arraylength (pc := 7) 8 rfl (by decide) dX2_fillSlots_7 ?_
        refine B.icmp_ge (pc := 8) (tgt := 24) dX2_fillSlots_8 (by decide) (fun c8 => ?_) (fun c8 => ?_)
        · refine B.aload_n (pc := 24) (i := 0) dX2_fillSlots_24 rfl rfl ?_
          refine B.aload_n (pc := 25) (i := 1) dX2_fillSlots_25 rfl rfl ?_
          refine B.iload_n (pc := 26) (i := 2) dX2_fillSlots_26 rfl rfl ?_
          refine B.callVi (pc := 27) 2 (mX2_fillWords hE _ _ _ _ _ _ _ _ _ _ _ _ _ _ _ _ _ _ _ _ _ _ _ _ _ _ _ _ _ _ _ _ _ _ _ _ _ _ _ _) 0 rfl rfl ml_X2_63 im_X2_fillWords se_X2_fillWords it_X2 co_X2_fillWords (by decide +kernel) rfl rfl rfl ⟨by decide, by decide⟩ ⟨by decide, by decide⟩ [0, 1, 2, 3, 4, 5, 6, 7, 8, 9, 10, 11, 12, 13, 14, 15, 16, 17, 18] rfl rfl rfl (Nat.le_of_ble_eq_true rfl) dX2_fillSlots_27 (fun _ => ⟨hD, SI.none (fun j hj => i3 j (by omega)), by omega, by omega, by omega⟩) (fun zk27 uk27 rzk27 ruk27 rak27 hqk27 => ?_)
          obtain ⟨lzk27, uzk27⟩ := rzk27
          obtain ⟨n_slots_k27, rfl, hk27⟩ := hqk27
          simp only [zput, List.set_cons_zero, List.set_cons_succ, List.append_nil, Nat.add_zero]
          refine B.istore_n (pc := 30) (i := 3) dX2_fillSlots_30 rfl (by decide) ?_
          simp only [List.set_cons_zero, List.set_cons_succ]
          refine B.aload_n (pc := 31) (i := 1) dX2_fillSlots_31 rfl rfl ?_
          refine B.getfield (pc := 32) 10 rfl rfl inX0z 2 (by decide) fl_X2_67 rfl dX2_fillSlots_32 ?_
          refine B.iconst (pc := 35) dX2_fillSlots_35 ⟨by decide, by decide⟩ ?_
          refine B.iaload (pc := 36) 17 rfl (by omega) (by omega) dX2_fillSlots_36 (fun r36 => ?_)
          obtain ⟨lr36, ur36⟩ := r36
          refine B.istore (pc := 37) (i := 4) dX2_fillSlots_37 (by decide) ?_
          simp only [List.set_cons_zero, List.set_cons_succ]
          refine B.iload (pc := 39) dX2_fillSlots_39 rfl ?_
          refine B.iconst (pc := 41) dX2_fillSlots_41 ⟨by decide, by decide⟩ ?_
          refine B.icmp_eq (pc := 42) (tgt := 60) dX2_fillSlots_42 (by decide) (fun c42 => ?_) (fun c42 => ?_)
          · refine B.vreturn (pc := 60) rfl dX2_fillSlots_60 (Nat.le_refl _) (Nat.le_refl _) (fun rw => ⟨_, rfl, ?_⟩)
            first | exact hk57 | exact hk27.2
          · refine B.iload (pc := 45) dX2_fillSlots_45 rfl ?_
            refine B.if_ne (pc := 47) (tgt := 54) dX2_fillSlots_47 (by decide) (fun c47 => ?_) (fun c47 => ?_)
            · refine B.aload_n (pc := 54) (i := 0) dX2_fillSlots_54 rfl rfl ?_
              refine B.aload_n (pc := 55) (i := 1) dX2_fillSlots_55 rfl rfl ?_
              refine B.iload_n (pc := 56) (i := 2) dX2_fillSlots_56 rfl rfl ?_
              refine B.callVv (pc := 57) 2 (mX2_fillWild hE _ _ _ _ _ _ _ _ _ _ _ _ _ _ _ _ _ _ _ _ _ _ _ _ _ _ _ _ _ _ _ _ _ _ _ _ _ _ _ _) 0 rfl rfl ml_X2_70 im_X2_fillWild se_X2_fillWild it_X2 co_X2_fillWild (by decide +kernel) rfl rfl rfl ⟨by decide, by decide⟩ ⟨by decide, by decide⟩ [0, 1, 2, 3, 4, 5, 6, 7, 8, 9, 10, 11, 12, 13, 14, 15, 16, 17, 18] rfl rfl rfl (Nat.le_of_ble_eq_true rfl) dX2_fillSlots_57 (fun _ => ⟨hB, hk27.2, by omega, by omega⟩) (fun uk57 ruk57 rak57 hqk57 => ?_)
              obtain ⟨n_slots_k57, rfl, hk57⟩ := hqk57
              simp only [zput, List.set_cons_zero, List.set_cons_succ, List.append_nil, Nat.add_zero]
              refine B.vreturn (pc := 60) rfl dX2_fillSlots_60 (Nat.le_refl _) (Nat.le_refl _) (fun rw => ⟨_, rfl, ?_⟩)
              first | exact hk57 | exact hk27.2
            · refine B.iload_n (pc := 50) (i := 3) dX2_fillSlots_50 rfl rfl ?_
              refine B.if_ne (pc := 51) (tgt := 60) dX2_fillSlots_51 (by decide) (fun c51 => ?_) (fun c51 => ?_)
              · refine B.vreturn (pc := 60) rfl dX2_fillSlots_60 (Nat.le_refl _) (Nat.le_refl _) (fun rw => ⟨_, rfl, ?_⟩)
                first | exact hk57 | exact hk27.2
              · refine B.aload_n (pc := 54) (i := 0) dX2_fillSlots_54 rfl rfl ?_
                refine B.aload_n (pc := 55) (i := 1) dX2_fillSlots_55 rfl rfl ?_
                refine B.iload_n (pc := 56) (i := 2) dX2_fillSlots_56 rfl rfl ?_
                refine B.callVv (pc := 57) 2 (mX2_fillWild hE _ _ _ _ _ _ _ _ _ _ _ _ _ _ _ _ _ _ _ _ _ _ _ _ _ _ _ _ _ _ _ _ _ _ _ _ _ _ _ _) 0 rfl rfl ml_X2_70 im_X2_fillWild se_X2_fillWild it_X2 co_X2_fillWild (by decide +kernel) rfl rfl rfl ⟨by decide, by decide⟩ ⟨by decide, by decide⟩ [0, 1, 2, 3, 4, 5, 6, 7, 8, 9, 10, 11, 12, 13, 14, 15, 16, 17, 18] rfl rfl rfl (Nat.le_of_ble_eq_true rfl) dX2_fillSlots_57 (fun _ => ⟨hB, hk27.2, by omega, by omega⟩) (fun uk57 ruk57 rak57 hqk57 => ?_)
                obtain ⟨n_slots_k57, rfl, hk57⟩ := hqk57
                simp only [zput, List.set_cons_zero, List.set_cons_succ, List.append_nil, Nat.add_zero]
                refine B.vreturn (pc := 60) rfl dX2_fillSlots_60 (Nat.le_refl _) (Nat.le_refl _) (fun rw => ⟨_, rfl, ?_⟩)
                first | exact hk57 | exact hk27.2
        · refine B.aload_n (pc := 11) (i := 0) dX2_fillSlots_11 rfl rfl ?_
          refine B.getfield (pc := 12) 0 rfl rfl inX2z 9 (by decide) fl_X2_33 rfl dX2_fillSlots_12 ?_
          refine B.iload_n (pc := 15) (i := 3) dX2_fillSlots_15 rfl rfl ?_
          refine B.iconst (pc := 16) dX2_fillSlots_16 ⟨by decide, by decide⟩ ?_
          refine B.iastore (pc := 17) 8 rfl (by omega) (by omega) dX2_fillSlots_17 ?_
          simp only [List.set_cons_zero, List.set_cons_succ]
          refine B.iinc (pc := 18) dX2_fillSlots_18 (by decide) rfl ⟨by omega, by omega⟩ ?_
          simp only [List.set_cons_zero, List.set_cons_succ]
          refine B.goto (pc := 21) (tgt := 2) dX2_fillSlots_21 (by decide) ?_
          refine (ih _ ?_) _ _ ⟨_, _, _, rfl, rfl, rfl, ?_⟩
          · omega
          · exact ⟨by omega, by omega, fill_step i3 (by omega)⟩
  show Z 0 0 0 [some (.inr (some n_a)), some (.inr (some b_a)), some (.inl place), none, none] [] _
  refine B.iconst (pc := 0) dX2_fillSlots_0 ⟨by decide, by decide⟩ ?_
  refine B.istore_n (pc := 1) (i := 3) dX2_fillSlots_1 rfl (by decide) ?_
  simp only [List.set_cons_zero, List.set_cons_succ]
  refine (key _) _ _ ⟨_, _, _, rfl, rfl, rfl, ?_⟩
  exact ⟨by omega, by omega, fun j hj => by omega⟩
set_option maxHeartbeats 4000000 in
set_option maxRecDepth 100000 in
theorem mX2_make {l : Launch} {D : va_G} {k : zK} {E : zE} (hE : zEok E) (n_a n_places_a n_lengths_a n_kinds_a n_costs_a n_words_a n_firsts_a n_joins_a n_slots_a n_routes_a b_a b_dictionary_a b_dictionary_letters_a b_dictionary_lengths_a b_dictionary_kinds_a b_dictionary_costs_a b_joins_a b_rules_a b_line_a : Nat) (n_lineLength n_count b_dictionary_count b_lineLength : Int) (n_places n_lengths n_kinds n_costs n_words n_firsts n_joins n_slots n_routes b_dictionary_letters b_dictionary_lengths b_dictionary_kinds b_dictionary_costs b_joins b_rules b_line : Nat → Int) : zMv l D k E yX2_make cX2_make 3 { frames := 4, cells := 0, slots := 0, locals := 92 } 0 0 [.inr (some n_a), .inr (some b_a)] [(n_a, .inr (.inr (2, [.inl n_lineLength, .inl n_count, .inr (some n_places_a), .inr (some n_lengths_a), .inr (some n_kinds_a), .inr (some n_costs_a), .inr (some n_words_a), .inr (some n_firsts_a), .inr (some n_joins_a), .inr (some n_slots_a), .inr (some n_routes_a)]))), (n_places_a, .inl (false, 480, n_places)), (n_lengths_a, .inl (false, 480, n_lengths)), (n_kinds_a, .inl (false, 480, n_kinds)), (n_costs_a, .inl (false, 480, n_costs)), (n_words_a, .inl (false, 480, n_words)), (n_firsts_a, .inl (false, 25, n_firsts)), (n_joins_a, .inl (false, 25, n_joins)), (n_slots_a, .inl (false, 28, n_slots)), (n_routes_a, .inl (false, 25, n_routes)), (b_a, .inr (.inr (0, [.inr (some b_dictionary_a), .inr (some b_joins_a), .inr (some b_rules_a), .inr (some b_line_a), .inl b_lineLength]))), (b_dictionary_a, .inr (.inr (1, [.inr (some b_dictionary_letters_a), .inr (some b_dictionary_lengths_a), .inr (some b_dictionary_kinds_a), .inr (some b_dictionary_costs_a), .inl b_dictionary_count]))), (b_dictionary_letters_a, .inl (false, 96, b_dictionary_letters)), (b_dictionary_lengths_a, .inl (false, 16, b_dictionary_lengths)), (b_dictionary_kinds_a, .inl (false, 16, b_dictionary_kinds)), (b_dictionary_costs_a, .inl (false, 16, b_dictionary_costs)), (b_joins_a, .inl (false, 25, b_joins)), (b_rules_a, .inl (false, 4, b_rules)), (b_line_a, .inl (false, 24, b_line))] (DI b_dictionary_count b_dictionary_lengths b_dictionary_kinds b_dictionary_costs ∧ BI b_joins b_rules b_lineLength ∧ PB n_places n_lengths n_kinds n_costs ∧ FB n_firsts) (fun z u => ∃ (n_lineLength' : Int) (n_count' : Int) (n_places' : Nat → Int) (n_lengths' : Nat → Int) (n_kinds' : Nat → Int) (n_costs' : Nat → Int) (n_words' : Nat → Int) (n_firsts' : Nat → Int) (n_joins' : Nat → Int) (n_slots' : Nat → Int), u = [(n_a, .inr (.inr (2, [.inl n_lineLength', .inl n_count', .inr (some n_places_a), .inr (some n_lengths_a), .inr (some n_kinds_a), .inr (some n_costs_a), .inr (some n_words_a), .inr (some n_firsts_a), .inr (some n_joins_a), .inr (some n_slots_a), .inr (some n_routes_a)]))), (n_places_a, .inl (false, 480, n_places')), (n_lengths_a, .inl (false, 480, n_lengths')), (n_kinds_a, .inl (false, 480, n_kinds')), (n_costs_a, .inl (false, 480, n_costs')), (n_words_a, .inl (false, 480, n_words')), (n_firsts_a, .inl (false, 25, n_firsts')), (n_joins_a, .inl (false, 25, n_joins')), (n_slots_a, .inl (false, 28, n_slots')), (n_routes_a, .inl (false, 25, n_routes)), (b_a, .inr (.inr (0, [.inr (some b_dictionary_a), .inr (some b_joins_a), .inr (some b_rules_a), .inr (some b_line_a), .inl b_lineLength]))), (b_dictionary_a, .inr (.inr (1, [.inr (some b_dictionary_letters_a), .inr (some b_dictionary_lengths_a), .inr (some b_dictionary_kinds_a), .inr (some b_dictionary_costs_a), .inl b_dictionary_count]))), (b_dictionary_letters_a, .inl (false, 96, b_dictionary_letters)), (b_dictionary_lengths_a, .inl (false, 16, b_dictionary_lengths)), (b_dictionary_kinds_a, .inl (false, 16, b_dictionary_kinds)), (b_dictionary_costs_a, .inl (false, 16, b_dictionary_costs)), (b_joins_a, .inl (false, 25, b_joins)), (b_rules_a, .inl (false, 4, b_rules)), (b_line_a, .inl (false, 24, b_line))] ∧ (PB n_places' n_lengths' n_kinds' n_costs' ∧ FB n_firsts' ∧ JB n_joins' ∧ NF n_places' n_lengths' n_firsts' n_lineLength' ∧ n_lineLength' = b_lineLength ∧ 0 ≤ n_count' ∧ n_count' ≤ 480)) := by
  refine zMv.of RX2 hE (by decide) rfl (by simp) ?_
  intro Z hP hav hwr B
  obtain ⟨l_n_lineLength, u_n_lineLength⟩ : zR n_lineLength := zWr_at hwr (i := 0) rfl (.inl n_lineLength) (by simp)
  obtain ⟨l_n_count, u_n_count⟩ : zR n_count := zWr_at hwr (i := 0) rfl (.inl n_count) (by simp)
  obtain ⟨l_b_lineLength, u_b_lineLength⟩ : zR b_lineLength := zWr_at hwr (i := 10) rfl (.inl b_lineLength) (by simp)
  obtain ⟨l_b_dictionary_count, u_b_dictionary_count⟩ : zR b_dictionary_count := zWr_at hwr (i := 11) rfl (.inl b_dictionary_count) (by simp)
  obtain ⟨hD, hB, hPB, hFB⟩ := hP
  obtain ⟨hB0, hB1⟩ := id hB
  have key : ∀ mu_ : Nat, (∀ (lv : List (Option zV)) (ws : zW), (∃ (place : Int) (n_lineLength : Int) (n_count : Int) (n_places : Nat → Int) (n_lengths : Nat → Int) (n_kinds : Nat → Int) (n_costs : Nat → Int) (n_words : Nat → Int) (n_firsts : Nat → Int) (n_joins : Nat → Int) (n_slots : Nat → Int), lv = [some (.inr (some n_a)), some (.inr (some b_a)), some (.inl place)] ∧ ws = [(n_a, .inr (.inr (2, [.inl n_lineLength, .inl n_count, .inr (some n_places_a), .inr (some n_lengths_a), .inr (some n_kinds_a), .inr (some n_costs_a), .inr (some n_words_a), .inr (some n_firsts_a), .inr (some n_joins_a), .inr (some n_slots_a), .inr (some n_routes_a)]))), (n_places_a, .inl (false, 480, n_places)), (n_lengths_a, .inl (false, 480, n_lengths)), (n_kinds_a, .inl (false, 480, n_kinds)), (n_costs_a, .inl (false, 480, n_costs)), (n_words_a, .inl (false, 480, n_words)), (n_firsts_a, .inl (false, 25, n_firsts)), (n_joins_a, .inl (false, 25, n_joins)), (n_slots_a, .inl (false, 28, n_slots)), (n_routes_a, .inl (false, 25, n_routes)), (b_a, .inr (.inr (0, [.inr (some b_dictionary_a), .inr (some b_joins_a), .inr (some b_rules_a), .inr (some b_line_a), .inl b_lineLength]))), (b_dictionary_a, .inr (.inr (1, [.inr (some b_dictionary_letters_a), .inr (some b_dictionary_lengths_a), .inr (some b_dictionary_kinds_a), .inr (some b_dictionary_costs_a), .inl b_dictionary_count]))), (b_dictionary_letters_a, .inl (false, 96, b_dictionary_letters)), (b_dictionary_lengths_a, .inl (false, 16, b_dictionary_lengths)), (b_dictionary_kinds_a, .inl (false, 16, b_dictionary_kinds)), (b_dictionary_costs_a, .inl (false, 16, b_dictionary_costs)), (b_joins_a, .inl (false, 25, b_joins)), (b_rules_a, .inl (false, 4, b_rules)), (b_line_a, .inl (false, 24, b_line))] ∧ mu_ = (b_lineLength - place).toNat ∧ (n_lineLength = b_lineLength ∧ 0 ≤ place ∧ place ≤ b_lineLength ∧ 0 ≤ n_count ∧ n_count ≤ 480 ∧ PB n_places n_lengths n_kinds n_costs ∧ FB n_firsts ∧ JB n_joins ∧ NP n_places n_lengths n_firsts place n_count)) → Z 0 0 30 lv [] ws) := by
    intro mu_
    induction mu_ using Nat.strongRecOn with
    | _ mu_ ih =>
      · intro lv ws hJ
        obtain ⟨place, n_lineLength, n_count, n_places, n_lengths, n_kinds, n_costs, n_words, n_firsts, n_joins, n_slots, rfl, rfl, rfl, hi⟩ := hJ
        obtain ⟨i1, i2, i3, i4, i5, i6, i7, i8, i9⟩ := hi
        refine B.iload_n (pc := 30) (i := 2) dX2_make_30 rfl rfl ?_
        refine B.aload_n (pc := 31) (i := 0) dX2_make_31 rfl rfl ?_
        refine B.getfield (pc := 32) 0 rfl rfl inX2z 0 (by decide) fl_X2_45 rfl dX2_make_32 ?_
        refine B.icmp_ge (pc := 35) (tgt := 66) dX2_make_35 (by decide) (fun c35 => ?_) (fun c35 => ?_)
        · refine B.aload_n (pc := 66) (i := 0) dX2_make_66 rfl rfl ?_
          refine B.getfield (pc := 67) 0 rfl rfl inX2z 7 (by decide) fl_X2_27 rfl dX2_make_67 ?_
          refine B.aload_n (pc := 70) (i := 0) dX2_make_70 rfl rfl ?_
          refine B.getfield (pc := 71) 0 rfl rfl inX2z 0 (by decide) fl_X2_45 rfl dX2_make_71 ?_
          refine B.aload_n (pc := 74) (i := 0) dX2_make_74 rfl rfl ?_
          refine B.getfield (pc := 75) 0 rfl rfl inX2z 1 (by decide) fl_X2_53 rfl dX2_make_75 ?_
          refine B.iastore (pc := 78) 6 rfl (by omega) (by omega) dX2_make_78 ?_
          simp only [List.set_cons_zero, List.set_cons_succ]
          refine B.vreturn (pc := 79) rfl dX2_make_79 (Nat.le_refl _) (Nat.le_refl _) (fun rw => ⟨_, _, _, _, _, _, _, _, _, _, rfl, ?_⟩)
          subst i1
          have hpe : place = n_lineLength := by omega
          subst hpe
          exact ⟨i6, i7.put _ (by omega), i8, i9.done i2, rfl, by omega, by omega⟩
        · refine B.aload_n (pc := 38) (i := 0) dX2_make_38 rfl rfl ?_
          refine B.getfield (pc := 39) 0 rfl rfl inX2z 7 (by decide) fl_X2_27 rfl dX2_make_39 ?_
          refine B.iload_n (pc := 42) (i := 2) dX2_make_42 rfl rfl ?_
          refine B.aload_n (pc := 43) (i := 0) dX2_make_43 rfl rfl ?_
          refine B.getfield (pc := 44) 0 rfl rfl inX2z 1 (by decide) fl_X2_53 rfl dX2_make_44 ?_
          refine B.iastore (pc := 47) 6 rfl (by omega) (by omega) dX2_make_47 ?_
          simp only [List.set_cons_zero, List.set_cons_succ]
          refine B.aload_n (pc := 48) (i := 0) dX2_make_48 rfl rfl ?_
          refine B.aload_n (pc := 49) (i := 1) dX2_make_49 rfl rfl ?_
          refine B.iload_n (pc := 50) (i := 2) dX2_make_50 rfl rfl ?_
          refine B.callVv (pc := 51) 2 (mX2_fillSlots hE _ _ _ _ _ _ _ _ _ _ _ _ _ _ _ _ _ _ _ _ _ _ _ _ _ _ _ _ _ _ _ _ _ _ _ _ _ _ _ _) 0 rfl rfl ml_X2_56 im_X2_fillSlots se_X2_fillSlots it_X2 co_X2_fillSlots (by decide +kernel) rfl rfl rfl ⟨by decide, by decide⟩ ⟨by decide, by decide⟩ [0, 1, 2, 3, 4, 5, 6, 7, 8, 9, 10, 11, 12, 13, 14, 15, 16, 17, 18] rfl rfl rfl (Nat.le_of_ble_eq_true rfl) dX2_make_51 (fun _ => ⟨hD, hB, by omega, by omega⟩) (fun uk51 ruk51 rak51 hqk51 => ?_)
          obtain ⟨n_slots_k51, rfl, hk51⟩ := hqk51
          simp only [zput, List.set_cons_zero, List.set_cons_succ, List.append_nil, Nat.add_zero]
          refine B.aload_n (pc := 54) (i := 0) dX2_make_54 rfl rfl ?_
          refine B.aload_n (pc := 55) (i := 1) dX2_make_55 rfl rfl ?_
          refine B.iload_n (pc := 56) (i := 2) dX2_make_56 rfl rfl ?_
          refine B.callVv (pc := 57) 2 (mX2_addSlots hE _ _ _ _ _ _ _ _ _ _ _ _ _ _ _ _ _ _ _ _ _ _ _ _ _ _ _ _ _ _ _ _ _ _ _ _ _ _ _ _) 0 rfl rfl ml_X2_60 im_X2_addSlots se_X2_addSlots it_X2 co_X2_addSlots (by decide +kernel) rfl rfl rfl ⟨by decide, by decide⟩ ⟨by decide, by decide⟩ [0, 1, 2, 3, 4, 5, 6, 7, 8, 9, 10, 11, 12, 13, 14, 15, 16, 17, 18] rfl rfl rfl (Nat.le_of_ble_eq_true rfl) dX2_make_57 (fun _ => ⟨hD, hB, i6, hk51, by omega, by omega, by omega⟩) (fun uk57 ruk57 rak57 hqk57 => ?_)
          obtain ⟨n_count_k57, n_places_k57, n_lengths_k57, n_kinds_k57, n_words_k57, n_costs_k57, rfl, hk57⟩ := hqk57
          simp only [zput, List.set_cons_zero, List.set_cons_succ, List.append_nil, Nat.add_zero]
          refine B.iinc (pc := 60) dX2_make_60 (by decide) rfl ⟨by omega, by omega⟩ ?_
          simp only [List.set_cons_zero, List.set_cons_succ]
          refine B.goto (pc := 63) (tgt := 30) dX2_make_63 (by decide) ?_
          refine (ih _ ?_) _ _ ⟨_, _, _, _, _, _, _, _, _, _, _, rfl, rfl, rfl, ?_⟩
          · omega
          · obtain ⟨q1, q2, q3, q4, q5⟩   := hk57
            exact ⟨i1, by omega, by omega, by omega, by omega, q1, i7.put _ (by omega), i8, i9.step i2 i4 q2 q4 q5⟩
  show Z 0 0 0 [some (.inr (some n_a)), some (.inr (some b_a)), none] [] _
  refine B.aload_n (pc := 0) (i := 0) dX2_make_0 rfl rfl ?_
  refine B.aload_n (pc := 1) (i := 1) dX2_make_1 rfl rfl ?_
  refine B.getfield (pc := 2) 10 rfl rfl inX0z 4 (by decide) fl_X2_39 rfl dX2_make_2 ?_
  refine B.putfield (pc := 5) 0 rfl rfl inX2z tyX2 tyX2_ok nmX2 0 (by decide) fl_X2_45 rfl rfl rfl (Nat.le_of_ble_eq_true rfl) dX2_make_5 ?_
  simp only [List.set_cons_zero, List.set_cons_succ]
  refine B.aload_n (pc := 8) (i := 1) dX2_make_8 rfl rfl ?_
  refine B.getfield (pc := 9) 10 rfl rfl inX0z 1 (by decide) fl_X2_46 rfl dX2_make_9 ?_
  refine B.iconst (pc := 12) dX2_make_12 ⟨by decide, by decide⟩ ?_
  refine B.aload_n (pc := 13) (i := 0) dX2_make_13 rfl rfl ?_
  refine B.getfield (pc := 14) 0 rfl rfl inX2z 8 (by decide) fl_X2_30 rfl dX2_make_14 ?_
  refine B.iconst (pc := 17) dX2_make_17 ⟨by decide, by decide⟩ ?_
  refine B.bipush (pc := 18) dX2_make_18 ⟨by decide, by decide⟩ ?_
  refine B.acopy (pc := 20) ml_X2_47 na_java_lang_System_arraycopy sm_java_lang_System_arraycopy it_J10 16 7 rfl rfl (by omega) (by omega) (by omega) (by omega) (by omega) (by decide) (Nat.le_of_ble_eq_true rfl) dX2_make_20 ?_
  simp only [List.set_cons_zero, List.set_cons_succ]
  refine B.aload_n (pc := 23) (i := 0) dX2_make_23 rfl rfl ?_
  refine B.iconst (pc := 24) dX2_make_24 ⟨by decide, by decide⟩ ?_
  refine B.putfield (pc := 25) 0 rfl rfl inX2z tyX2 tyX2_ok nmX2 1 (by decide) fl_X2_53 rfl rfl rfl (Nat.le_of_ble_eq_true rfl) dX2_make_25 ?_
  simp only [List.set_cons_zero, List.set_cons_succ]
  refine B.iconst (pc := 28) dX2_make_28 ⟨by decide, by decide⟩ ?_
  refine B.istore_n (pc := 29) (i := 2) dX2_make_29 rfl (by decide) ?_
  simp only [List.set_cons_zero, List.set_cons_succ]
  refine (key _) _ _ ⟨_, _, _, _, _, _, _, _, _, _, _, rfl, rfl, rfl, ?_⟩
  exact ⟨rfl, by omega, by omega, by omega, by omega, hPB, hFB, fun j hj => by show 0 ≤ zcp b_joins n_joins 0 0 25 j ∧ zcp b_joins n_joins 0 0 25 j ≤ 99; rw [zcp_all hj]; exact hB0 j hj, fun p hp => by omega, fun p i hp => by omega⟩
set_option maxHeartbeats 4000000 in
set_option maxRecDepth 100000 in
theorem mX2_joinBefore {l : Launch} {D : va_G} {k : zK} {E : zE} (hE : zEok E) (n_a n_places_a n_lengths_a n_kinds_a n_costs_a n_words_a n_firsts_a n_joins_a n_slots_a n_routes_a : Nat) (n_lineLength n_count kind piece : Int) (n_places n_lengths n_kinds n_costs n_words n_firsts n_joins n_slots n_routes : Nat → Int) : zMi l D k E yX2_joinBefore cX2_joinBefore 3 .int { frames := 0, cells := 0, slots := 0, locals := 0 } 0 0 [.inr (some n_a), .inl kind, .inl piece] [(n_a, .inr (.inr (2, [.inl n_lineLength, .inl n_count, .inr (some n_places_a), .inr (some n_lengths_a), .inr (some n_kinds_a), .inr (some n_costs_a), .inr (some n_words_a), .inr (some n_firsts_a), .inr (some n_joins_a), .inr (some n_slots_a), .inr (some n_routes_a)]))), (n_places_a, .inl (false, 480, n_places)), (n_lengths_a, .inl (false, 480, n_lengths)), (n_kinds_a, .inl (false, 480, n_kinds)), (n_costs_a, .inl (false, 480, n_costs)), (n_words_a, .inl (false, 480, n_words)), (n_firsts_a, .inl (false, 25, n_firsts)), (n_joins_a, .inl (false, 25, n_joins)), (n_slots_a, .inl (false, 28, n_slots)), (n_routes_a, .inl (false, 25, n_routes))] (PB n_places n_lengths n_kinds n_costs ∧ JB n_joins ∧ 0 ≤ kind ∧ kind ≤ 4 ∧ 0 ≤ piece ∧ piece < 480) (fun z u => u = [(n_a, .inr (.inr (2, [.inl n_lineLength, .inl n_count, .inr (some n_places_a), .inr (some n_lengths_a), .inr (some n_kinds_a), .inr (some n_costs_a), .inr (some n_words_a), .inr (some n_firsts_a), .inr (some n_joins_a), .inr (some n_slots_a), .inr (some n_routes_a)]))), (n_places_a, .inl (false, 480, n_places)), (n_lengths_a, .inl (false, 480, n_lengths)), (n_kinds_a, .inl (false, 480, n_kinds)), (n_costs_a, .inl (false, 480, n_costs)), (n_words_a, .inl (false, 480, n_words)), (n_firsts_a, .inl (false, 25, n_firsts)), (n_joins_a, .inl (false, 25, n_joins)), (n_slots_a, .inl (false, 28, n_slots)), (n_routes_a, .inl (false, 25, n_routes))] ∧ (0 ≤ z ∧ z ≤ 99)) := by
  refine zMi.of RX2 hE (by decide) rfl (by simp) (fun _ _ _ _ => rfl) ?_
  intro Z hP hav hwr B
  obtain ⟨l_kind, u_kind⟩ : zR kind := hav (.inl kind) (by simp)
  obtain ⟨l_piece, u_piece⟩ : zR piece := hav (.inl piece) (by simp)
  obtain ⟨l_n_lineLength, u_n_lineLength⟩ : zR n_lineLength := zWr_at hwr (i := 0) rfl (.inl n_lineLength) (by simp)
  obtain ⟨l_n_count, u_n_count⟩ : zR n_count := zWr_at hwr (i := 0) rfl (.inl n_count) (by simp)
  obtain ⟨hPB, hJB, hk⟩ := hP
  have hp := hPB.at (x := piece) (by omega) (by omega)
  have hj := hJB.at (x := kind * 5 + n_kinds piece.toNat) (by omega) (by omega)
  show Z 0 0 0 [some (.inr (some n_a)), some (.inl kind), some (.inl piece)] [] _
  refine B.aload_n (pc := 0) (i := 0) dX2_joinBefore_0 rfl rfl ?_
  refine B.getfield (pc := 1) 0 rfl rfl inX2z 8 (by decide) fl_X2_30 rfl dX2_joinBefore_1 ?_
  refine B.iload_n (pc := 4) (i := 1) dX2_joinBefore_4 rfl rfl ?_
  refine B.iconst (pc := 5) dX2_joinBefore_5 ⟨by decide, by decide⟩ ?_
  refine B.imul (pc := 6) dX2_joinBefore_6 ⟨by omega, by omega⟩ ?_
  refine B.aload_n (pc := 7) (i := 0) dX2_joinBefore_7 rfl rfl ?_
  refine B.getfield (pc := 8) 0 rfl rfl inX2z 4 (by decide) fl_X2_18 rfl dX2_joinBefore_8 ?_
  refine B.iload_n (pc := 11) (i := 2) dX2_joinBefore_11 rfl rfl ?_
  refine B.iaload (pc := 12) 3 rfl (by omega) (by omega) dX2_joinBefore_12 (fun r12 => ?_)
  obtain ⟨lr12, ur12⟩ := r12
  refine B.iadd (pc := 13) dX2_joinBefore_13 ⟨by omega, by omega⟩ ?_
  refine B.iaload (pc := 14) 7 rfl (by omega) (by omega) dX2_joinBefore_14 (fun r14 => ?_)
  obtain ⟨lr14, ur14⟩ := r14
  refine B.ireturn (pc := 15) (by simp) dX2_joinBefore_15 (Nat.le_refl _) (Nat.le_refl _) (fun rz rw => ⟨rfl, ?_⟩)
  exact hj
set_option maxHeartbeats 4000000 in
set_option maxRecDepth 100000 in
theorem mX2_joinAtEnd {l : Launch} {D : va_G} {k : zK} {E : zE} (hE : zEok E) (n_a n_places_a n_lengths_a n_kinds_a n_costs_a n_words_a n_firsts_a n_joins_a n_slots_a n_routes_a : Nat) (n_lineLength n_count kind : Int) (n_places n_lengths n_kinds n_costs n_words n_firsts n_joins n_slots n_routes : Nat → Int) : zMi l D k E yX2_joinAtEnd cX2_joinAtEnd 2 .int { frames := 0, cells := 0, slots := 0, locals := 0 } 0 0 [.inr (some n_a), .inl kind] [(n_a, .inr (.inr (2, [.inl n_lineLength, .inl n_count, .inr (some n_places_a), .inr (some n_lengths_a), .inr (some n_kinds_a), .inr (some n_costs_a), .inr (some n_words_a), .inr (some n_firsts_a), .inr (some n_joins_a), .inr (some n_slots_a), .inr (some n_routes_a)]))), (n_places_a, .inl (false, 480, n_places)), (n_lengths_a, .inl (false, 480, n_lengths)), (n_kinds_a, .inl (false, 480, n_kinds)), (n_costs_a, .inl (false, 480, n_costs)), (n_words_a, .inl (false, 480, n_words)), (n_firsts_a, .inl (false, 25, n_firsts)), (n_joins_a, .inl (false, 25, n_joins)), (n_slots_a, .inl (false, 28, n_slots)), (n_routes_a, .inl (false, 25, n_routes))] (JB n_joins ∧ 0 ≤ kind ∧ kind ≤ 3) (fun z u => u = [(n_a, .inr (.inr (2, [.inl n_lineLength, .inl n_count, .inr (some n_places_a), .inr (some n_lengths_a), .inr (some n_kinds_a), .inr (some n_costs_a), .inr (some n_words_a), .inr (some n_firsts_a), .inr (some n_joins_a), .inr (some n_slots_a), .inr (some n_routes_a)]))), (n_places_a, .inl (false, 480, n_places)), (n_lengths_a, .inl (false, 480, n_lengths)), (n_kinds_a, .inl (false, 480, n_kinds)), (n_costs_a, .inl (false, 480, n_costs)), (n_words_a, .inl (false, 480, n_words)), (n_firsts_a, .inl (false, 25, n_firsts)), (n_joins_a, .inl (false, 25, n_joins)), (n_slots_a, .inl (false, 28, n_slots)), (n_routes_a, .inl (false, 25, n_routes))] ∧ (0 ≤ z ∧ z ≤ 99)) := by
  refine zMi.of RX2 hE (by decide) rfl (by simp) (fun _ _ _ _ => rfl) ?_
  intro Z hP hav hwr B
  obtain ⟨l_kind, u_kind⟩ : zR kind := hav (.inl kind) (by simp)
  obtain ⟨l_n_lineLength, u_n_lineLength⟩ : zR n_lineLength := zWr_at hwr (i := 0) rfl (.inl n_lineLength) (by simp)
  obtain ⟨l_n_count, u_n_count⟩ : zR n_count := zWr_at hwr (i := 0) rfl (.inl n_count) (by simp)
  obtain ⟨hJB, hk⟩ := hP
  have hj := hJB.at (x := kind * 5 + 4) (by omega) (by omega)
  show Z 0 0 0 [some (.inr (some n_a)), some (.inl kind)] [] _
  refine B.aload_n (pc := 0) (i := 0) dX2_joinAtEnd_0 rfl rfl ?_
  refine B.getfield (pc := 1) 0 rfl rfl inX2z 8 (by decide) fl_X2_30 rfl dX2_joinAtEnd_1 ?_
  refine B.iload_n (pc := 4) (i := 1) dX2_joinAtEnd_4 rfl rfl ?_
  refine B.iconst (pc := 5) dX2_joinAtEnd_5 ⟨by decide, by decide⟩ ?_
  refine B.imul (pc := 6) dX2_joinAtEnd_6 ⟨by omega, by omega⟩ ?_
  refine B.iconst (pc := 7) dX2_joinAtEnd_7 ⟨by decide, by decide⟩ ?_
  refine B.iadd (pc := 8) dX2_joinAtEnd_8 ⟨by omega, by omega⟩ ?_
  refine B.iaload (pc := 9) 7 rfl (by omega) (by omega) dX2_joinAtEnd_9 (fun r9 => ?_)
  obtain ⟨lr9, ur9⟩ := r9
  refine B.ireturn (pc := 10) (by simp) dX2_joinAtEnd_10 (Nat.le_refl _) (Nat.le_refl _) (fun rz rw => ⟨rfl, ?_⟩)
  exact hj
set_option maxHeartbeats 4000000 in
set_option maxRecDepth 100000 in
theorem mX2_countWays {l : Launch} {D : va_G} {k : zK} {E : zE} (hE : zEok E) (n_a n_places_a n_lengths_a n_kinds_a n_costs_a n_words_a n_firsts_a n_joins_a n_slots_a n_routes_a : Nat) (n_lineLength n_count : Int) (n_places n_lengths n_kinds n_costs n_words n_firsts n_joins n_slots n_routes : Nat → Int) : zMi l D k E yX2_countWays cX2_countWays 3 .int { frames := 0, cells := 0, slots := 0, locals := 0 } 0 0 [.inr (some n_a)] [(n_a, .inr (.inr (2, [.inl n_lineLength, .inl n_count, .inr (some n_places_a), .inr (some n_lengths_a), .inr (some n_kinds_a), .inr (some n_costs_a), .inr (some n_words_a), .inr (some n_firsts_a), .inr (some n_joins_a), .inr (some n_slots_a), .inr (some n_routes_a)]))), (n_places_a, .inl (false, 480, n_places)), (n_lengths_a, .inl (false, 480, n_lengths)), (n_kinds_a, .inl (false, 480, n_kinds)), (n_costs_a, .inl (false, 480, n_costs)), (n_words_a, .inl (false, 480, n_words)), (n_firsts_a, .inl (false, 25, n_firsts)), (n_joins_a, .inl (false, 25, n_joins)), (n_slots_a, .inl (false, 28, n_slots)), (n_routes_a, .inl (false, 25, n_routes))] (PB n_places n_lengths n_kinds n_costs ∧ 0 ≤ n_count ∧ n_count ≤ 480 ∧ 0 ≤ n_lineLength ∧ n_lineLength ≤ 24) (fun z u => ∃ (n_routes' : Nat → Int), u = [(n_a, .inr (.inr (2, [.inl n_lineLength, .inl n_count, .inr (some n_places_a), .inr (some n_lengths_a), .inr (some n_kinds_a), .inr (some n_costs_a), .inr (some n_words_a), .inr (some n_firsts_a), .inr (some n_joins_a), .inr (some n_slots_a), .inr (some n_routes_a)]))), (n_places_a, .inl (false, 480, n_places)), (n_lengths_a, .inl (false, 480, n_lengths)), (n_kinds_a, .inl (false, 480, n_kinds)), (n_costs_a, .inl (false, 480, n_costs)), (n_words_a, .inl (false, 480, n_words)), (n_firsts_a, .inl (false, 25, n_firsts)), (n_joins_a, .inl (false, 25, n_joins)), (n_slots_a, .inl (false, 28, n_slots)), (n_routes_a, .inl (false, 25, n_routes'))] ∧ (True)) := by
  refine zMi.of RX2 hE (by decide) rfl (by simp) (fun _ _ _ _ => rfl) ?_
  intro Z hP hav hwr B
  obtain ⟨l_n_lineLength, u_n_lineLength⟩ : zR n_lineLength := zWr_at hwr (i := 0) rfl (.inl n_lineLength) (by simp)
  obtain ⟨l_n_count, u_n_count⟩ : zR n_count := zWr_at hwr (i := 0) rfl (.inl n_count) (by simp)
  obtain ⟨hPB, hn⟩ := hP
  have key : ∀ mu_ : Nat, (∀ (lv : List (Option zV)) (ws : zW), (∃ (d2 : Option zV) (s : Int) (n_routes : Nat → Int), lv = [some (.inr (some n_a)), some (.inl s), d2] ∧ ws = [(n_a, .inr (.inr (2, [.inl n_lineLength, .inl n_count, .inr (some n_places_a), .inr (some n_lengths_a), .inr (some n_kinds_a), .inr (some n_costs_a), .inr (some n_words_a), .inr (some n_firsts_a), .inr (some n_joins_a), .inr (some n_slots_a), .inr (some n_routes_a)]))), (n_places_a, .inl (false, 480, n_places)), (n_lengths_a, .inl (false, 480, n_lengths)), (n_kinds_a, .inl (false, 480, n_kinds)), (n_costs_a, .inl (false, 480, n_costs)), (n_words_a, .inl (false, 480, n_words)), (n_firsts_a, .inl (false, 25, n_firsts)), (n_joins_a, .inl (false, 25, n_joins)), (n_slots_a, .inl (false, 28, n_slots)), (n_routes_a, .inl (false, 25, n_routes))] ∧ mu_ = (n_lineLength - s).toNat + 1000 ∧ (0 ≤ s ∧ s ≤ n_lineLength)) → Z 0 0 2 lv [] ws) ∧ (∀ (lv : List (Option zV)) (ws : zW), (∃ (d2 : Option zV) (s : Int) (n_routes : Nat → Int), lv = [some (.inr (some n_a)), some (.inl s), d2] ∧ ws = [(n_a, .inr (.inr (2, [.inl n_lineLength, .inl n_count, .inr (some n_places_a), .inr (some n_lengths_a), .inr (some n_kinds_a), .inr (some n_costs_a), .inr (some n_words_a), .inr (some n_firsts_a), .inr (some n_joins_a), .inr (some n_slots_a), .inr (some n_routes_a)]))), (n_places_a, .inl (false, 480, n_places)), (n_lengths_a, .inl (false, 480, n_lengths)), (n_kinds_a, .inl (false, 480, n_kinds)), (n_costs_a, .inl (false, 480, n_costs)), (n_words_a, .inl (false, 480, n_words)), (n_firsts_a, .inl (false, 25, n_firsts)), (n_joins_a, .inl (false, 25, n_joins)), (n_slots_a, .inl (false, 28, n_slots)), (n_routes_a, .inl (false, 25, n_routes))] ∧ mu_ = (s + 1).toNat ∧ (-1 ≤ s ∧ s < n_count)) → Z 0 0 40 lv [] ws) := by
    intro mu_
    induction mu_ using Nat.strongRecOn with
    | _ mu_ ih =>
      refine ⟨?_, ?_⟩
      · intro lv ws hJ
        obtain ⟨d2, s, n_routes, rfl, rfl, rfl, hi⟩ := hJ
        refine B.iload_n (pc := 2) (i := 1) dX2_countWays_2 rfl rfl ?_
        refine B.aload_n (pc := 3) (i := 0) dX2_countWays_3 rfl rfl ?_
        refine B.getfield (pc := 4) 0 rfl rfl inX2z 0 (by decide) fl_X2_45 rfl dX2_countWays_4 ?_
        refine B.icmp_ge (pc := 7) (tgt := 23) dX2_countWays_7 (by decide) (fun c7 => ?_) (fun c7 => ?_)
        · refine B.aload_n (pc := 23) (i := 0) dX2_countWays_23 rfl rfl ?_
          refine B.getfield (pc := 24) 0 rfl rfl inX2z 10 (by decide) fl_X2_36 rfl dX2_countWays_24 ?_
          refine B.aload_n (pc := 27) (i := 0) dX2_countWays_27 rfl rfl ?_
          refine B.getfield (pc := 28) 0 rfl rfl inX2z 0 (by decide) fl_X2_45 rfl dX2_countWays_28 ?_
          refine B.iconst (pc := 31) dX2_countWays_31 ⟨by decide, by decide⟩ ?_
          refine B.iastore (pc := 32) 9 rfl (by omega) (by omega) dX2_countWays_32 ?_
          simp only [List.set_cons_zero, List.set_cons_succ]
          refine B.aload_n (pc := 33) (i := 0) dX2_countWays_33 rfl rfl ?_
          refine B.getfield (pc := 34) 0 rfl rfl inX2z 1 (by decide) fl_X2_53 rfl dX2_countWays_34 ?_
          refine B.iconst (pc := 37) dX2_countWays_37 ⟨by decide, by decide⟩ ?_
          refine B.isub (pc := 38) dX2_countWays_38 ⟨by omega, by omega⟩ ?_
          refine B.istore_n (pc := 39) (i := 1) dX2_countWays_39 rfl (by decide) ?_
          simp only [List.set_cons_zero, List.set_cons_succ]
          refine (ih _ ?_).2 _ _ ⟨_, _, _, rfl, rfl, rfl, ?_⟩
          · omega
          · omega
        · refine B.aload_n (pc := 10) (i := 0) dX2_countWays_10 rfl rfl ?_
          refine B.getfield (pc := 11) 0 rfl rfl inX2z 10 (by decide) fl_X2_36 rfl dX2_countWays_11 ?_
          refine B.iload_n (pc := 14) (i := 1) dX2_countWays_14 rfl rfl ?_
          refine B.iconst (pc := 15) dX2_countWays_15 ⟨by decide, by decide⟩ ?_
          refine B.iastore (pc := 16) 9 rfl (by omega) (by omega) dX2_countWays_16 ?_
          simp only [List.set_cons_zero, List.set_cons_succ]
          refine B.iinc (pc := 17) dX2_countWays_17 (by decide) rfl ⟨by omega, by omega⟩ ?_
          simp only [List.set_cons_zero, List.set_cons_succ]
          refine B.goto (pc := 20) (tgt := 2) dX2_countWays_20 (by decide) ?_
          refine (ih _ ?_).1 _ _ ⟨_, _, _, rfl, rfl, rfl, ?_⟩
          · omega
          · omega
      · intro lv ws hJ
        obtain ⟨d2, s, n_routes, rfl, rfl, rfl, hi⟩ := hJ
        refine B.iload_n (pc := 40) (i := 1) dX2_countWays_40 rfl rfl ?_
        refine B.if_lt (pc := 41) (tgt := 86) dX2_countWays_41 (by decide) (fun c41 => ?_) (fun c41 => ?_)
        · refine B.aload_n (pc := 86) (i := 0) dX2_countWays_86 rfl rfl ?_
          refine B.getfield (pc := 87) 0 rfl rfl inX2z 10 (by decide) fl_X2_36 rfl dX2_countWays_87 ?_
          refine B.iconst (pc := 90) dX2_countWays_90 ⟨by decide, by decide⟩ ?_
          refine B.iaload (pc := 91) 9 rfl (by omega) (by omega) dX2_countWays_91 (fun r91 => ?_)
          obtain ⟨lr91, ur91⟩ := r91
          refine B.ireturn (pc := 92) (by simp) dX2_countWays_92 (Nat.le_refl _) (Nat.le_refl _) (fun rz rw => ⟨_, rfl, ?_⟩)
          first | trivial | omega
        · have hp := hPB.at (x := s) (by omega) (by omega)
          refine B.aload_n (pc := 44) (i := 0) dX2_countWays_44 rfl rfl ?_
          refine B.getfield (pc := 45) 0 rfl rfl inX2z 2 (by decide) fl_X2_9 rfl dX2_countWays_45 ?_
          refine B.iload_n (pc := 48) (i := 1) dX2_countWays_48 rfl rfl ?_
          refine B.iaload (pc := 49) 1 rfl (by omega) (by omega) dX2_countWays_49 (fun r49 => ?_)
          obtain ⟨lr49, ur49⟩ := r49
          refine B.istore_n (pc := 50) (i := 2) dX2_countWays_50 rfl (by decide) ?_
          simp only [List.set_cons_zero, List.set_cons_succ]
          refine B.aload_n (pc := 51) (i := 0) dX2_countWays_51 rfl rfl ?_
          refine B.getfield (pc := 52) 0 rfl rfl inX2z 10 (by decide) fl_X2_36 rfl dX2_countWays_52 ?_
          refine B.iload_n (pc := 55) (i := 2) dX2_countWays_55 rfl rfl ?_
          refine B.aload_n (pc := 56) (i := 0) dX2_countWays_56 rfl rfl ?_
          refine B.getfield (pc := 57) 0 rfl rfl inX2z 10 (by decide) fl_X2_36 rfl dX2_countWays_57 ?_
          refine B.iload_n (pc := 60) (i := 2) dX2_countWays_60 rfl rfl ?_
          refine B.iaload (pc := 61) 9 rfl (by omega) (by omega) dX2_countWays_61 (fun r61 => ?_)
          obtain ⟨lr61, ur61⟩ := r61
          refine B.aload_n (pc := 62) (i := 0) dX2_countWays_62 rfl rfl ?_
          refine B.getfield (pc := 63) 0 rfl rfl inX2z 10 (by decide) fl_X2_36 rfl dX2_countWays_63 ?_
          refine B.iload_n (pc := 66) (i := 2) dX2_countWays_66 rfl rfl ?_
          refine B.aload_n (pc := 67) (i := 0) dX2_countWays_67 rfl rfl ?_
          refine B.getfield (pc := 68) 0 rfl rfl inX2z 3 (by decide) fl_X2_15 rfl dX2_countWays_68 ?_
          refine B.iload_n (pc := 71) (i := 1) dX2_countWays_71 rfl rfl ?_
          refine B.iaload (pc := 72) 2 rfl (by omega) (by omega) dX2_countWays_72 (fun r72 => ?_)
          obtain ⟨lr72, ur72⟩ := r72
          refine B.iadd (pc := 73) dX2_countWays_73 ⟨by omega, by omega⟩ ?_
          refine B.iaload (pc := 74) 9 rfl (by omega) (by omega) dX2_countWays_74 (fun r74 => ?_)
          obtain ⟨lr74, ur74⟩ := r74
          refine B.iaddw (pc := 75) dX2_countWays_75 (fun w75 rw75 ew75 => ?_)
          obtain ⟨lw75, uw75⟩ := rw75
          refine B.ldc (pc := 76) (n := 1000003) dX2_countWays_76 cn_X2_98 ⟨by decide, by decide⟩ ?_
          refine B.iremw (pc := 78) dX2_countWays_78 (by decide) (fun w78 rw78 ew78 => ?_)
          obtain ⟨lw78, uw78⟩ := rw78
          refine B.iastore (pc := 79) 9 rfl (by omega) (by omega) dX2_countWays_79 ?_
          simp only [List.set_cons_zero, List.set_cons_succ]
          refine B.iinc (pc := 80) dX2_countWays_80 (by decide) rfl ⟨by omega, by omega⟩ ?_
          simp only [List.set_cons_zero, List.set_cons_succ]
          refine B.goto (pc := 83) (tgt := 40) dX2_countWays_83 (by decide) ?_
          refine (ih _ ?_).2 _ _ ⟨_, _, _, rfl, rfl, rfl, ?_⟩
          · omega
          · omega
  show Z 0 0 0 [some (.inr (some n_a)), none, none] [] _
  refine B.iconst (pc := 0) dX2_countWays_0 ⟨by decide, by decide⟩ ?_
  refine B.istore_n (pc := 1) (i := 1) dX2_countWays_1 rfl (by decide) ?_
  simp only [List.set_cons_zero, List.set_cons_succ]
  refine (key _).1 _ _ ⟨_, _, _, rfl, rfl, rfl, ?_⟩
  omega
