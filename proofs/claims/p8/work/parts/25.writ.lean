set_option maxHeartbeats 4000000 in
set_option maxRecDepth 100000 in
theorem mX5_add {l : Launch} {D : va_G} {k : zK} {E : zE} (hE : zEok E) (w_a w_signs_a : Nat) (w_count sg : Int) (w_signs : Nat → Int) : zMv l D k E yX5_add cX5_add 2 { frames := 0, cells := 0, slots := 0, locals := 0 } 0 0 [.inr (some w_a), .inl sg] [(w_a, .inr (.inr (5, [.inr (some w_signs_a), .inl w_count]))), (w_signs_a, .inl (false, 71, w_signs))] (0 ≤ w_count ∧ w_count ≤ 71) (fun z u => ∃ (w_signs' : Nat → Int) (w_count' : Int), u = [(w_a, .inr (.inr (5, [.inr (some w_signs_a), .inl w_count']))), (w_signs_a, .inl (false, 71, w_signs'))] ∧ (0 ≤ w_count' ∧ w_count' ≤ 71)) := by
  refine zMv.of RX5 hE (by decide) rfl (by simp) ?_
  intro Z hP hav hwr B
  obtain ⟨l_sg, u_sg⟩ : zR sg := hav (.inl sg) (by simp)
  obtain ⟨l_w_count, u_w_count⟩ : zR w_count := zWr_at hwr (i := 0) rfl (.inl w_count) (by simp)
  show Z 0 0 0 [some (.inr (some w_a)), some (.inl sg)] [] _
  refine B.aload_n (pc := 0) (i := 0) dX5_add_0 rfl rfl ?_
  refine B.getfield (pc := 1) 0 rfl rfl inX5z 1 (by decide) fl_X5_15 rfl dX5_add_1 ?_
  refine B.bipush (pc := 4) dX5_add_4 ⟨by decide, by decide⟩ ?_
  refine B.icmp_ge (pc := 6) (tgt := 29) dX5_add_6 (by decide) (fun c6 => ?_) (fun c6 => ?_)
  · refine B.vreturn (pc := 29) rfl dX5_add_29 (Nat.le_refl _) (Nat.le_refl _) (fun rw => ⟨_, _, rfl, ?_⟩)
    omega
  · refine B.aload_n (pc := 9) (i := 0) dX5_add_9 rfl rfl ?_
    refine B.getfield (pc := 10) 0 rfl rfl inX5z 0 (by decide) fl_X5_9 rfl dX5_add_10 ?_
    refine B.aload_n (pc := 13) (i := 0) dX5_add_13 rfl rfl ?_
    refine B.getfield (pc := 14) 0 rfl rfl inX5z 1 (by decide) fl_X5_15 rfl dX5_add_14 ?_
    refine B.iload_n (pc := 17) (i := 1) dX5_add_17 rfl rfl ?_
    refine B.iastore (pc := 18) 1 rfl (by omega) (by omega) dX5_add_18 ?_
    simp only [List.set_cons_zero, List.set_cons_succ]
    refine B.aload_n (pc := 19) (i := 0) dX5_add_19 rfl rfl ?_
    refine B.dup (pc := 20) dX5_add_20 ?_
    refine B.getfield (pc := 21) 0 rfl rfl inX5z 1 (by decide) fl_X5_15 rfl dX5_add_21 ?_
    refine B.iconst (pc := 24) dX5_add_24 ⟨by decide, by decide⟩ ?_
    refine B.iadd (pc := 25) dX5_add_25 ⟨by omega, by omega⟩ ?_
    refine B.putfield (pc := 26) 0 rfl rfl inX5z tyX5 tyX5_ok nmX5 1 (by decide) fl_X5_15 rfl rfl rfl (Nat.le_of_ble_eq_true rfl) dX5_add_26 ?_
    simp only [List.set_cons_zero, List.set_cons_succ]
    refine B.vreturn (pc := 29) rfl dX5_add_29 (Nat.le_refl _) (Nat.le_refl _) (fun rw => ⟨_, _, rfl, ?_⟩)
    omega
set_option maxHeartbeats 4000000 in
set_option maxRecDepth 100000 in
theorem mX5_writePiece {l : Launch} {D : va_G} {k : zK} {E : zE} (hE : zEok E) (w_a w_signs_a n_a n_places_a n_lengths_a n_kinds_a n_costs_a n_words_a n_firsts_a n_joins_a n_slots_a n_routes_a b_a b_dictionary_a b_dictionary_letters_a b_dictionary_lengths_a b_dictionary_kinds_a b_dictionary_costs_a b_joins_a b_rules_a b_line_a : Nat) (w_count n_lineLength n_count b_dictionary_count b_lineLength piece : Int) (w_signs n_places n_lengths n_kinds n_costs n_words n_firsts n_joins n_slots n_routes b_dictionary_letters b_dictionary_lengths b_dictionary_kinds b_dictionary_costs b_joins b_rules b_line : Nat → Int) : zMv l D k E yX5_writePiece cX5_writePiece 6 { frames := 1, cells := 0, slots := 0, locals := 21 } 0 0 [.inr (some w_a), .inl piece, .inr (some n_a), .inr (some b_a)] [(w_a, .inr (.inr (5, [.inr (some w_signs_a), .inl w_count]))), (w_signs_a, .inl (false, 71, w_signs)), (n_a, .inr (.inr (2, [.inl n_lineLength, .inl n_count, .inr (some n_places_a), .inr (some n_lengths_a), .inr (some n_kinds_a), .inr (some n_costs_a), .inr (some n_words_a), .inr (some n_firsts_a), .inr (some n_joins_a), .inr (some n_slots_a), .inr (some n_routes_a)]))), (n_places_a, .inl (false, 480, n_places)), (n_lengths_a, .inl (false, 480, n_lengths)), (n_kinds_a, .inl (false, 480, n_kinds)), (n_costs_a, .inl (false, 480, n_costs)), (n_words_a, .inl (false, 480, n_words)), (n_firsts_a, .inl (false, 25, n_firsts)), (n_joins_a, .inl (false, 25, n_joins)), (n_slots_a, .inl (false, 28, n_slots)), (n_routes_a, .inl (false, 25, n_routes)), (b_a, .inr (.inr (0, [.inr (some b_dictionary_a), .inr (some b_joins_a), .inr (some b_rules_a), .inr (some b_line_a), .inl b_lineLength]))), (b_dictionary_a, .inr (.inr (1, [.inr (some b_dictionary_letters_a), .inr (some b_dictionary_lengths_a), .inr (some b_dictionary_kinds_a), .inr (some b_dictionary_costs_a), .inl b_dictionary_count]))), (b_dictionary_letters_a, .inl (false, 96, b_dictionary_letters)), (b_dictionary_lengths_a, .inl (false, 16, b_dictionary_lengths)), (b_dictionary_kinds_a, .inl (false, 16, b_dictionary_kinds)), (b_dictionary_costs_a, .inl (false, 16, b_dictionary_costs)), (b_joins_a, .inl (false, 25, b_joins)), (b_rules_a, .inl (false, 4, b_rules)), (b_line_a, .inl (false, 24, b_line))] (0 ≤ w_count ∧ w_count ≤ 71 ∧ PB n_places n_lengths n_kinds n_costs ∧ 0 ≤ piece ∧ piece < 480) (fun z u => ∃ (w_signs' : Nat → Int) (w_count' : Int), u = [(w_a, .inr (.inr (5, [.inr (some w_signs_a), .inl w_count']))), (w_signs_a, .inl (false, 71, w_signs')), (n_a, .inr (.inr (2, [.inl n_lineLength, .inl n_count, .inr (some n_places_a), .inr (some n_lengths_a), .inr (some n_kinds_a), .inr (some n_costs_a), .inr (some n_words_a), .inr (some n_firsts_a), .inr (some n_joins_a), .inr (some n_slots_a), .inr (some n_routes_a)]))), (n_places_a, .inl (false, 480, n_places)), (n_lengths_a, .inl (false, 480, n_lengths)), (n_kinds_a, .inl (false, 480, n_kinds)), (n_costs_a, .inl (false, 480, n_costs)), (n_words_a, .inl (false, 480, n_words)), (n_firsts_a, .inl (false, 25, n_firsts)), (n_joins_a, .inl (false, 25, n_joins)), (n_slots_a, .inl (false, 28, n_slots)), (n_routes_a, .inl (false, 25, n_routes)), (b_a, .inr (.inr (0, [.inr (some b_dictionary_a), .inr (some b_joins_a), .inr (some b_rules_a), .inr (some b_line_a), .inl b_lineLength]))), (b_dictionary_a, .inr (.inr (1, [.inr (some b_dictionary_letters_a), .inr (some b_dictionary_lengths_a), .inr (some b_dictionary_kinds_a), .inr (some b_dictionary_costs_a), .inl b_dictionary_count]))), (b_dictionary_letters_a, .inl (false, 96, b_dictionary_letters)), (b_dictionary_lengths_a, .inl (false, 16, b_dictionary_lengths)), (b_dictionary_kinds_a, .inl (false, 16, b_dictionary_kinds)), (b_dictionary_costs_a, .inl (false, 16, b_dictionary_costs)), (b_joins_a, .inl (false, 25, b_joins)), (b_rules_a, .inl (false, 4, b_rules)), (b_line_a, .inl (false, 24, b_line))] ∧ (0 ≤ w_count' ∧ w_count' ≤ 71)) := by
  refine zMv.of RX5 hE (by decide) rfl (by simp) ?_
  intro Z hP hav hwr B
  obtain ⟨l_piece, u_piece⟩ : zR piece := hav (.inl piece) (by simp)
  obtain ⟨l_w_count, u_w_count⟩ : zR w_count := zWr_at hwr (i := 0) rfl (.inl w_count) (by simp)
  obtain ⟨l_n_lineLength, u_n_lineLength⟩ : zR n_lineLength := zWr_at hwr (i := 2) rfl (.inl n_lineLength) (by simp)
  obtain ⟨l_n_count, u_n_count⟩ : zR n_count := zWr_at hwr (i := 2) rfl (.inl n_count) (by simp)
  obtain ⟨l_b_lineLength, u_b_lineLength⟩ : zR b_lineLength := zWr_at hwr (i := 12) rfl (.inl b_lineLength) (by simp)
  obtain ⟨l_b_dictionary_count, u_b_dictionary_count⟩ : zR b_dictionary_count := zWr_at hwr (i := 13) rfl (.inl b_dictionary_count) (by simp)
  obtain ⟨hw1, hw2, hPB, hpc⟩ := hP
  have hp := hPB.at (x := piece) (by omega) (by omega)
  have key : ∀ mu_ : Nat, (∀ (lv : List (Option zV)) (ws : zW), (∃ (pl : Int) (s : Int) (w_signs : Nat → Int) (w_count : Int), lv = [some (.inr (some w_a)), some (.inl piece), some (.inr (some n_a)), some (.inr (some b_a)), some (.inl pl), some (.inl s)] ∧ ws = [(w_a, .inr (.inr (5, [.inr (some w_signs_a), .inl w_count]))), (w_signs_a, .inl (false, 71, w_signs)), (n_a, .inr (.inr (2, [.inl n_lineLength, .inl n_count, .inr (some n_places_a), .inr (some n_lengths_a), .inr (some n_kinds_a), .inr (some n_costs_a), .inr (some n_words_a), .inr (some n_firsts_a), .inr (some n_joins_a), .inr (some n_slots_a), .inr (some n_routes_a)]))), (n_places_a, .inl (false, 480, n_places)), (n_lengths_a, .inl (false, 480, n_lengths)), (n_kinds_a, .inl (false, 480, n_kinds)), (n_costs_a, .inl (false, 480, n_costs)), (n_words_a, .inl (false, 480, n_words)), (n_firsts_a, .inl (false, 25, n_firsts)), (n_joins_a, .inl (false, 25, n_joins)), (n_slots_a, .inl (false, 28, n_slots)), (n_routes_a, .inl (false, 25, n_routes)), (b_a, .inr (.inr (0, [.inr (some b_dictionary_a), .inr (some b_joins_a), .inr (some b_rules_a), .inr (some b_line_a), .inl b_lineLength]))), (b_dictionary_a, .inr (.inr (1, [.inr (some b_dictionary_letters_a), .inr (some b_dictionary_lengths_a), .inr (some b_dictionary_kinds_a), .inr (some b_dictionary_costs_a), .inl b_dictionary_count]))), (b_dictionary_letters_a, .inl (false, 96, b_dictionary_letters)), (b_dictionary_lengths_a, .inl (false, 16, b_dictionary_lengths)), (b_dictionary_kinds_a, .inl (false, 16, b_dictionary_kinds)), (b_dictionary_costs_a, .inl (false, 16, b_dictionary_costs)), (b_joins_a, .inl (false, 25, b_joins)), (b_rules_a, .inl (false, 4, b_rules)), (b_line_a, .inl (false, 24, b_line))] ∧ mu_ = (n_lengths piece.toNat - s).toNat ∧ (pl = n_places piece.toNat ∧ 0 ≤ s ∧ s ≤ n_lengths piece.toNat ∧ 0 ≤ w_count ∧ w_count ≤ 71)) → Z 0 0 11 lv [] ws) := by
    intro mu_
    induction mu_ using Nat.strongRecOn with
    | _ mu_ ih =>
      · intro lv ws hJ
        obtain ⟨pl, s, w_signs, w_count, rfl, rfl, rfl, hi⟩ := hJ
        refine B.iload (pc := 11) dX5_writePiece_11 rfl ?_
        refine B.aload_n (pc := 13) (i := 2) dX5_writePiece_13 rfl rfl ?_
        refine B.getfield (pc := 14) 2 rfl rfl inX2z 3 (by decide) fl_X5_41 rfl dX5_writePiece_14 ?_
        refine B.iload_n (pc := 17) (i := 1) dX5_writePiece_17 rfl rfl ?_
        refine B.iaload (pc := 18) 4 rfl (by omega) (by omega) dX5_writePiece_18 (fun r18 => ?_)
        obtain ⟨lr18, ur18⟩ := r18
        refine B.icmp_ge (pc := 19) (tgt := 42) dX5_writePiece_19 (by decide) (fun c19 => ?_) (fun c19 => ?_)
        · refine B.aload_n (pc := 42) (i := 2) dX5_writePiece_42 rfl rfl ?_
          refine B.getfield (pc := 43) 2 rfl rfl inX2z 4 (by decide) fl_X5_49 rfl dX5_writePiece_43 ?_
          refine B.iload_n (pc := 46) (i := 1) dX5_writePiece_46 rfl rfl ?_
          refine B.iaload (pc := 47) 5 rfl (by omega) (by omega) dX5_writePiece_47 (fun r47 => ?_)
          obtain ⟨lr47, ur47⟩ := r47
          refine B.iconst (pc := 48) dX5_writePiece_48 ⟨by decide, by decide⟩ ?_
          refine B.icmp_ne (pc := 49) (tgt := 58) dX5_writePiece_49 (by decide) (fun c49 => ?_) (fun c49 => ?_)
          · refine B.vreturn (pc := 58) rfl dX5_writePiece_58 (Nat.le_refl _) (Nat.le_refl _) (fun rw => ⟨_, _, rfl, ?_⟩)
            omega
          · refine B.aload_n (pc := 52) (i := 0) dX5_writePiece_52 rfl rfl ?_
            refine B.bipush (pc := 53) dX5_writePiece_53 ⟨by decide, by decide⟩ ?_
            refine B.callVv (pc := 55) 1 (mX5_add hE _ _ _ _ _) 0 rfl rfl ml_X5_25 im_X5_add se_X5_add it_X5 co_X5_add (by decide +kernel) rfl rfl rfl ⟨by decide, by decide⟩ ⟨by decide, by decide⟩ [0, 1] rfl rfl rfl (Nat.le_of_ble_eq_true rfl) dX5_writePiece_55 (fun _ => by omega) (fun uk55 ruk55 rak55 hqk55 => ?_)
            obtain ⟨w_signs_k55, w_count_k55, rfl, hk55⟩ := hqk55
            simp only [zput, List.set_cons_zero, List.set_cons_succ, List.append_nil, Nat.add_zero]
            refine B.vreturn (pc := 58) rfl dX5_writePiece_58 (Nat.le_refl _) (Nat.le_refl _) (fun rw => ⟨_, _, rfl, ?_⟩)
            omega
        · refine B.aload_n (pc := 22) (i := 0) dX5_writePiece_22 rfl rfl ?_
          refine B.aload_n (pc := 23) (i := 3) dX5_writePiece_23 rfl rfl ?_
          refine B.getfield (pc := 24) 12 rfl rfl inX0z 3 (by decide) fl_X5_44 rfl dX5_writePiece_24 ?_
          refine B.iload (pc := 27) dX5_writePiece_27 rfl ?_
          refine B.iload (pc := 29) dX5_writePiece_29 rfl ?_
          refine B.iadd (pc := 31) dX5_writePiece_31 ⟨by omega, by omega⟩ ?_
          refine B.iaload (pc := 32) 20 rfl (by omega) (by omega) dX5_writePiece_32 (fun r32 => ?_)
          obtain ⟨lr32, ur32⟩ := r32
          refine B.callVv (pc := 33) 1 (mX5_add hE _ _ _ _ _) 0 rfl rfl ml_X5_25 im_X5_add se_X5_add it_X5 co_X5_add (by decide +kernel) rfl rfl rfl ⟨by decide, by decide⟩ ⟨by decide, by decide⟩ [0, 1] rfl rfl rfl (Nat.le_of_ble_eq_true rfl) dX5_writePiece_33 (fun _ => by omega) (fun uk33 ruk33 rak33 hqk33 => ?_)
          obtain ⟨w_signs_k33, w_count_k33, rfl, hk33⟩ := hqk33
          simp only [zput, List.set_cons_zero, List.set_cons_succ, List.append_nil, Nat.add_zero]
          refine B.iinc (pc := 36) dX5_writePiece_36 (by decide) rfl ⟨by omega, by omega⟩ ?_
          simp only [List.set_cons_zero, List.set_cons_succ]
          refine B.goto (pc := 39) (tgt := 11) dX5_writePiece_39 (by decide) ?_
          refine (ih _ ?_) _ _ ⟨_, _, _, _, rfl, rfl, rfl, ?_⟩
          · omega
          · omega
  show Z 0 0 0 [some (.inr (some w_a)), some (.inl piece), some (.inr (some n_a)), some (.inr (some b_a)), none, none] [] _
  refine B.aload_n (pc := 0) (i := 2) dX5_writePiece_0 rfl rfl ?_
  refine B.getfield (pc := 1) 2 rfl rfl inX2z 2 (by decide) fl_X5_36 rfl dX5_writePiece_1 ?_
  refine B.iload_n (pc := 4) (i := 1) dX5_writePiece_4 rfl rfl ?_
  refine B.iaload (pc := 5) 3 rfl (by omega) (by omega) dX5_writePiece_5 (fun r5 => ?_)
  obtain ⟨lr5, ur5⟩ := r5
  refine B.istore (pc := 6) (i := 4) dX5_writePiece_6 (by decide) ?_
  simp only [List.set_cons_zero, List.set_cons_succ]
  refine B.iconst (pc := 8) dX5_writePiece_8 ⟨by decide, by decide⟩ ?_
  refine B.istore (pc := 9) (i := 5) dX5_writePiece_9 (by decide) ?_
  simp only [List.set_cons_zero, List.set_cons_succ]
  refine (key _) _ _ ⟨_, _, _, _, rfl, rfl, rfl, ?_⟩
  omega
set_option maxHeartbeats 4000000 in
set_option maxRecDepth 100000 in
theorem mX5_write {l : Launch} {D : va_G} {k : zK} {E : zE} (hE : zEok E) (w_a w_signs_a k_a k_before_a k_counts_a k_kept_a k_followed_a n_a n_places_a n_lengths_a n_kinds_a n_costs_a n_words_a n_firsts_a n_joins_a n_slots_a n_routes_a b_a b_dictionary_a b_dictionary_letters_a b_dictionary_lengths_a b_dictionary_kinds_a b_dictionary_costs_a b_joins_a b_rules_a b_line_a : Nat) (w_count n_lineLength n_count b_dictionary_count b_lineLength i : Int) (w_signs k_before k_counts k_kept k_followed n_places n_lengths n_kinds n_costs n_words n_firsts n_joins n_slots n_routes b_dictionary_letters b_dictionary_lengths b_dictionary_kinds b_dictionary_costs b_joins b_rules b_line : Nat → Int) : zMv l D k E yX5_write cX5_write 7 { frames := 2, cells := 0, slots := 0, locals := 49 } 0 0 [.inr (some w_a), .inl i, .inr (some k_a), .inr (some n_a), .inr (some b_a)] [(w_a, .inr (.inr (5, [.inr (some w_signs_a), .inl w_count]))), (w_signs_a, .inl (false, 71, w_signs)), (k_a, .inr (.inr (4, [.inr (some k_before_a), .inr (some k_counts_a), .inr (some k_kept_a), .inr (some k_followed_a)]))), (k_before_a, .inl (false, 125, k_before)), (k_counts_a, .inl (false, 125, k_counts)), (k_kept_a, .inl (false, 1500, k_kept)), (k_followed_a, .inl (false, 24, k_followed)), (n_a, .inr (.inr (2, [.inl n_lineLength, .inl n_count, .inr (some n_places_a), .inr (some n_lengths_a), .inr (some n_kinds_a), .inr (some n_costs_a), .inr (some n_words_a), .inr (some n_firsts_a), .inr (some n_joins_a), .inr (some n_slots_a), .inr (some n_routes_a)]))), (n_places_a, .inl (false, 480, n_places)), (n_lengths_a, .inl (false, 480, n_lengths)), (n_kinds_a, .inl (false, 480, n_kinds)), (n_costs_a, .inl (false, 480, n_costs)), (n_words_a, .inl (false, 480, n_words)), (n_firsts_a, .inl (false, 25, n_firsts)), (n_joins_a, .inl (false, 25, n_joins)), (n_slots_a, .inl (false, 28, n_slots)), (n_routes_a, .inl (false, 25, n_routes)), (b_a, .inr (.inr (0, [.inr (some b_dictionary_a), .inr (some b_joins_a), .inr (some b_rules_a), .inr (some b_line_a), .inl b_lineLength]))), (b_dictionary_a, .inr (.inr (1, [.inr (some b_dictionary_letters_a), .inr (some b_dictionary_lengths_a), .inr (some b_dictionary_kinds_a), .inr (some b_dictionary_costs_a), .inl b_dictionary_count]))), (b_dictionary_letters_a, .inl (false, 96, b_dictionary_letters)), (b_dictionary_lengths_a, .inl (false, 16, b_dictionary_lengths)), (b_dictionary_kinds_a, .inl (false, 16, b_dictionary_kinds)), (b_dictionary_costs_a, .inl (false, 16, b_dictionary_costs)), (b_joins_a, .inl (false, 25, b_joins)), (b_rules_a, .inl (false, 4, b_rules)), (b_line_a, .inl (false, 24, b_line))] (PB n_places n_lengths n_kinds n_costs ∧ KB k_kept ∧ FO k_followed ∧ 0 ≤ n_lineLength ∧ n_lineLength ≤ 24 ∧ 0 ≤ i ∧ i < 12) (fun z u => ∃ (w_signs' : Nat → Int) (w_count' : Int) (k_followed' : Nat → Int), u = [(w_a, .inr (.inr (5, [.inr (some w_signs_a), .inl w_count']))), (w_signs_a, .inl (false, 71, w_signs')), (k_a, .inr (.inr (4, [.inr (some k_before_a), .inr (some k_counts_a), .inr (some k_kept_a), .inr (some k_followed_a)]))), (k_before_a, .inl (false, 125, k_before)), (k_counts_a, .inl (false, 125, k_counts)), (k_kept_a, .inl (false, 1500, k_kept)), (k_followed_a, .inl (false, 24, k_followed')), (n_a, .inr (.inr (2, [.inl n_lineLength, .inl n_count, .inr (some n_places_a), .inr (some n_lengths_a), .inr (some n_kinds_a), .inr (some n_costs_a), .inr (some n_words_a), .inr (some n_firsts_a), .inr (some n_joins_a), .inr (some n_slots_a), .inr (some n_routes_a)]))), (n_places_a, .inl (false, 480, n_places)), (n_lengths_a, .inl (false, 480, n_lengths)), (n_kinds_a, .inl (false, 480, n_kinds)), (n_costs_a, .inl (false, 480, n_costs)), (n_words_a, .inl (false, 480, n_words)), (n_firsts_a, .inl (false, 25, n_firsts)), (n_joins_a, .inl (false, 25, n_joins)), (n_slots_a, .inl (false, 28, n_slots)), (n_routes_a, .inl (false, 25, n_routes)), (b_a, .inr (.inr (0, [.inr (some b_dictionary_a), .inr (some b_joins_a), .inr (some b_rules_a), .inr (some b_line_a), .inl b_lineLength]))), (b_dictionary_a, .inr (.inr (1, [.inr (some b_dictionary_letters_a), .inr (some b_dictionary_lengths_a), .inr (some b_dictionary_kinds_a), .inr (some b_dictionary_costs_a), .inl b_dictionary_count]))), (b_dictionary_letters_a, .inl (false, 96, b_dictionary_letters)), (b_dictionary_lengths_a, .inl (false, 16, b_dictionary_lengths)), (b_dictionary_kinds_a, .inl (false, 16, b_dictionary_kinds)), (b_dictionary_costs_a, .inl (false, 16, b_dictionary_costs)), (b_joins_a, .inl (false, 25, b_joins)), (b_rules_a, .inl (false, 4, b_rules)), (b_line_a, .inl (false, 24, b_line))] ∧ (0 ≤ w_count' ∧ w_count' ≤ 71 ∧ FO k_followed')) := by
  refine zMv.of RX5 hE (by decide) rfl (by simp) ?_
  intro Z hP hav hwr B
  obtain ⟨l_i, u_i⟩ : zR i := hav (.inl i) (by simp)
  obtain ⟨l_w_count, u_w_count⟩ : zR w_count := zWr_at hwr (i := 0) rfl (.inl w_count) (by simp)
  obtain ⟨l_n_lineLength, u_n_lineLength⟩ : zR n_lineLength := zWr_at hwr (i := 7) rfl (.inl n_lineLength) (by simp)
  obtain ⟨l_n_count, u_n_count⟩ : zR n_count := zWr_at hwr (i := 7) rfl (.inl n_count) (by simp)
  obtain ⟨l_b_lineLength, u_b_lineLength⟩ : zR b_lineLength := zWr_at hwr (i := 17) rfl (.inl b_lineLength) (by simp)
  obtain ⟨l_b_dictionary_count, u_b_dictionary_count⟩ : zR b_dictionary_count := zWr_at hwr (i := 18) rfl (.inl b_dictionary_count) (by simp)
  obtain ⟨hPB, hK, hFo, hl⟩ := hP
  have key : ∀ mu_ : Nat, (∀ (lv : List (Option zV)) (ws : zW), (∃ (np : Int) (s : Int) (w_signs : Nat → Int) (w_count : Int) (k_followed : Nat → Int), lv = [some (.inr (some w_a)), some (.inl i), some (.inr (some k_a)), some (.inr (some n_a)), some (.inr (some b_a)), some (.inl np), some (.inl s)] ∧ ws = [(w_a, .inr (.inr (5, [.inr (some w_signs_a), .inl w_count]))), (w_signs_a, .inl (false, 71, w_signs)), (k_a, .inr (.inr (4, [.inr (some k_before_a), .inr (some k_counts_a), .inr (some k_kept_a), .inr (some k_followed_a)]))), (k_before_a, .inl (false, 125, k_before)), (k_counts_a, .inl (false, 125, k_counts)), (k_kept_a, .inl (false, 1500, k_kept)), (k_followed_a, .inl (false, 24, k_followed)), (n_a, .inr (.inr (2, [.inl n_lineLength, .inl n_count, .inr (some n_places_a), .inr (some n_lengths_a), .inr (some n_kinds_a), .inr (some n_costs_a), .inr (some n_words_a), .inr (some n_firsts_a), .inr (some n_joins_a), .inr (some n_slots_a), .inr (some n_routes_a)]))), (n_places_a, .inl (false, 480, n_places)), (n_lengths_a, .inl (false, 480, n_lengths)), (n_kinds_a, .inl (false, 480, n_kinds)), (n_costs_a, .inl (false, 480, n_costs)), (n_words_a, .inl (false, 480, n_words)), (n_firsts_a, .inl (false, 25, n_firsts)), (n_joins_a, .inl (false, 25, n_joins)), (n_slots_a, .inl (false, 28, n_slots)), (n_routes_a, .inl (false, 25, n_routes)), (b_a, .inr (.inr (0, [.inr (some b_dictionary_a), .inr (some b_joins_a), .inr (some b_rules_a), .inr (some b_line_a), .inl b_lineLength]))), (b_dictionary_a, .inr (.inr (1, [.inr (some b_dictionary_letters_a), .inr (some b_dictionary_lengths_a), .inr (some b_dictionary_kinds_a), .inr (some b_dictionary_costs_a), .inl b_dictionary_count]))), (b_dictionary_letters_a, .inl (false, 96, b_dictionary_letters)), (b_dictionary_lengths_a, .inl (false, 16, b_dictionary_lengths)), (b_dictionary_kinds_a, .inl (false, 16, b_dictionary_kinds)), (b_dictionary_costs_a, .inl (false, 16, b_dictionary_costs)), (b_joins_a, .inl (false, 25, b_joins)), (b_rules_a, .inl (false, 4, b_rules)), (b_line_a, .inl (false, 24, b_line))] ∧ mu_ = (np - s).toNat ∧ (0 ≤ np ∧ np ≤ 24 ∧ 0 ≤ s ∧ s ≤ np ∧ 0 ≤ w_count ∧ w_count ≤ 71 ∧ FO k_followed)) → Z 0 0 16 lv [] ws) := by
    intro mu_
    induction mu_ using Nat.strongRecOn with
    | _ mu_ ih =>
      · intro lv ws hJ
        obtain ⟨np, s, w_signs, w_count, k_followed, rfl, rfl, rfl, hi⟩ := hJ
        obtain ⟨i1, i2, i3, i4, i5, i6, i7⟩ := hi
        refine B.iload (pc := 16) dX5_write_16 rfl ?_
        refine B.iload (pc := 18) dX5_write_18 rfl ?_
        refine B.icmp_ge (pc := 20) (tgt := 54) dX5_write_20 (by decide) (fun c20 => ?_) (fun c20 => ?_)
        · refine B.vreturn (pc := 54) rfl dX5_write_54 (Nat.le_refl _) (Nat.le_refl _) (fun rw => ⟨_, _, _, rfl, ?_⟩)
          exact ⟨i5, i6, i7⟩
        · refine B.iload (pc := 23) dX5_write_23 rfl ?_
          refine B.if_le (pc := 25) (tgt := 34) dX5_write_25 (by decide) (fun c25 => ?_) (fun c25 => ?_)
          · refine B.aload_n (pc := 34) (i := 0) dX5_write_34 rfl rfl ?_
            refine B.aload_n (pc := 35) (i := 2) dX5_write_35 rfl rfl ?_
            refine B.getfield (pc := 36) 2 rfl rfl inX4z 3 (by decide) fl_X5_29 rfl dX5_write_36 ?_
            have hf := i7.at (x := s) (by omega) (by omega)
            refine B.iload (pc := 39) dX5_write_39 rfl ?_
            refine B.iaload (pc := 41) 6 rfl (by omega) (by omega) dX5_write_41 (fun r41 => ?_)
            obtain ⟨lr41, ur41⟩ := r41
            refine B.aload_n (pc := 42) (i := 3) dX5_write_42 rfl rfl ?_
            refine B.aload (pc := 43) dX5_write_43 rfl ?_
            refine B.callVv (pc := 45) 3 (mX5_writePiece hE _ _ _ _ _ _ _ _ _ _ _ _ _ _ _ _ _ _ _ _ _ _ _ _ _ _ _ _ _ _ _ _ _ _ _ _ _ _ _ _ _ _ _ _) 0 rfl rfl ml_X5_32 im_X5_writePiece se_X5_writePiece it_X5 co_X5_writePiece (by decide +kernel) rfl rfl rfl ⟨by decide, by decide⟩ ⟨by decide, by decide⟩ [0, 1, 7, 8, 9, 10, 11, 12, 13, 14, 15, 16, 17, 18, 19, 20, 21, 22, 23, 24, 25] rfl rfl rfl (Nat.le_of_ble_eq_true rfl) dX5_write_45 (fun _ => ⟨by omega, by omega, hPB, by omega, by omega⟩) (fun uk45 ruk45 rak45 hqk45 => ?_)
            obtain ⟨w_signs_k45, w_count_k45, rfl, hk45⟩ := hqk45
            simp only [zput, List.set_cons_zero, List.set_cons_succ, List.append_nil, Nat.add_zero]
            refine B.iinc (pc := 48) dX5_write_48 (by decide) rfl ⟨by omega, by omega⟩ ?_
            simp only [List.set_cons_zero, List.set_cons_succ]
            refine B.goto (pc := 51) (tgt := 16) dX5_write_51 (by decide) ?_
            refine (ih _ ?_) _ _ ⟨_, _, _, _, _, rfl, rfl, rfl, ?_⟩
            · omega
            · exact ⟨i1, i2, by omega, by omega, by omega, by omega, i7⟩
          · refine B.aload_n (pc := 28) (i := 0) dX5_write_28 rfl rfl ?_
            refine B.bipush (pc := 29) dX5_write_29 ⟨by decide, by decide⟩ ?_
            refine B.callVv (pc := 31) 1 (mX5_add hE _ _ _ _ _) 0 rfl rfl ml_X5_25 im_X5_add se_X5_add it_X5 co_X5_add (by decide +kernel) rfl rfl rfl ⟨by decide, by decide⟩ ⟨by decide, by decide⟩ [0, 1] rfl rfl rfl (Nat.le_of_ble_eq_true rfl) dX5_write_31 (fun _ => by omega) (fun uk31 ruk31 rak31 hqk31 => ?_)
            obtain ⟨w_signs_k31, w_count_k31, rfl, hk31⟩ := hqk31
            simp only [zput, List.set_cons_zero, List.set_cons_succ, List.append_nil, Nat.add_zero]
            refine B.aload_n (pc := 34) (i := 0) dX5_write_34 rfl rfl ?_
            refine B.aload_n (pc := 35) (i := 2) dX5_write_35 rfl rfl ?_
            refine B.getfield (pc := 36) 2 rfl rfl inX4z 3 (by decide) fl_X5_29 rfl dX5_write_36 ?_
            have hf := i7.at (x := s) (by omega) (by omega)
            refine B.iload (pc := 39) dX5_write_39 rfl ?_
            refine B.iaload (pc := 41) 6 rfl (by omega) (by omega) dX5_write_41 (fun r41 => ?_)
            obtain ⟨lr41, ur41⟩ := r41
            refine B.aload_n (pc := 42) (i := 3) dX5_write_42 rfl rfl ?_
            refine B.aload (pc := 43) dX5_write_43 rfl ?_
            refine B.callVv (pc := 45) 3 (mX5_writePiece hE _ _ _ _ _ _ _ _ _ _ _ _ _ _ _ _ _ _ _ _ _ _ _ _ _ _ _ _ _ _ _ _ _ _ _ _ _ _ _ _ _ _ _ _) 0 rfl rfl ml_X5_32 im_X5_writePiece se_X5_writePiece it_X5 co_X5_writePiece (by decide +kernel) rfl rfl rfl ⟨by decide, by decide⟩ ⟨by decide, by decide⟩ [0, 1, 7, 8, 9, 10, 11, 12, 13, 14, 15, 16, 17, 18, 19, 20, 21, 22, 23, 24, 25] rfl rfl rfl (Nat.le_of_ble_eq_true rfl) dX5_write_45 (fun _ => ⟨by omega, by omega, hPB, by omega, by omega⟩) (fun uk45 ruk45 rak45 hqk45 => ?_)
            obtain ⟨w_signs_k45, w_count_k45, rfl, hk45⟩ := hqk45
            simp only [zput, List.set_cons_zero, List.set_cons_succ, List.append_nil, Nat.add_zero]
            refine B.iinc (pc := 48) dX5_write_48 (by decide) rfl ⟨by omega, by omega⟩ ?_
            simp only [List.set_cons_zero, List.set_cons_succ]
            refine B.goto (pc := 51) (tgt := 16) dX5_write_51 (by decide) ?_
            refine (ih _ ?_) _ _ ⟨_, _, _, _, _, rfl, rfl, rfl, ?_⟩
            · omega
            · exact ⟨i1, i2, by omega, by omega, by omega, by omega, i7⟩
  show Z 0 0 0 [some (.inr (some w_a)), some (.inl i), some (.inr (some k_a)), some (.inr (some n_a)), some (.inr (some b_a)), none, none] [] _
  refine B.aload_n (pc := 0) (i := 0) dX5_write_0 rfl rfl ?_
  refine B.iconst (pc := 1) dX5_write_1 ⟨by decide, by decide⟩ ?_
  refine B.putfield (pc := 2) 0 rfl rfl inX5z tyX5 tyX5_ok nmX5 1 (by decide) fl_X5_15 rfl rfl rfl (Nat.le_of_ble_eq_true rfl) dX5_write_2 ?_
  simp only [List.set_cons_zero, List.set_cons_succ]
  refine B.aload_n (pc := 5) (i := 2) dX5_write_5 rfl rfl ?_
  refine B.aload_n (pc := 6) (i := 3) dX5_write_6 rfl rfl ?_
  refine B.iload_n (pc := 7) (i := 1) dX5_write_7 rfl rfl ?_
  refine B.callVi (pc := 8) 2 (mX4_follow hE _ _ _ _ _ _ _ _ _ _ _ _ _ _ _ _ _ _ _ _ _ _ _ _ _ _ _ _ _ _ _) 2 rfl rfl ml_X5_19 im_X4_follow se_X4_follow it_X4 co_X4_follow (by decide +kernel) rfl rfl rfl ⟨by decide, by decide⟩ ⟨by decide, by decide⟩ [2, 3, 4, 5, 6, 7, 8, 9, 10, 11, 12, 13, 14, 15, 16] rfl rfl rfl (Nat.le_of_ble_eq_true rfl) dX5_write_8 (fun _ => ⟨hPB, hK, hFo, by omega, by omega, by omega, by omega⟩) (fun zk8 uk8 rzk8 ruk8 rak8 hqk8 => ?_)
  obtain ⟨lzk8, uzk8⟩ := rzk8
  obtain ⟨k_followed_k8, rfl, hk8⟩ := hqk8
  simp only [zput, List.set_cons_zero, List.set_cons_succ, List.append_nil, Nat.add_zero]
  refine B.istore (pc := 11) (i := 5) dX5_write_11 (by decide) ?_
  simp only [List.set_cons_zero, List.set_cons_succ]
  refine B.iconst (pc := 13) dX5_write_13 ⟨by decide, by decide⟩ ?_
  refine B.istore (pc := 14) (i := 6) dX5_write_14 (by decide) ?_
  simp only [List.set_cons_zero, List.set_cons_succ]
  refine (key _) _ _ ⟨_, _, _, _, _, rfl, rfl, rfl, ?_⟩
  exact ⟨hk8.1, hk8.2.1, by omega, by omega, by omega, by omega, hk8.2.2⟩
