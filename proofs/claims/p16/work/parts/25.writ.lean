set_option maxHeartbeats 4000000 in
set_option maxRecDepth 100000 in
theorem mX5_add {l : Launch} {D : va_G} {k : zK} {E : zE} (hE : zEok E) (w_a w_signs_a : Nat) (w_count sg : Int) (w_signs : Nat → Int) : zMv l D k E yX5_add cX5_add 2 { frames := 0, cells := 0, slots := 0, locals := 0 } 0 0 [.inr (some w_a), .inl sg] [(w_a, .inr (.inr (5, [.inr (some w_signs_a), .inl w_count]))), (w_signs_a, .inl (false, 71, w_signs))] (0 ≤ w_count ∧ w_count ≤ 71) (fun z u => ∃ (w_signs' : Nat → Int) (w_count' : Int), u = [(w_a, .inr (.inr (5, [.inr (some w_signs_a), .inl w_count']))), (w_signs_a, .inl (false, 71, w_signs'))] ∧ (0 ≤ w_count' ∧ w_count' ≤ 71 ∧ (w_count < 71 → w_count' = w_count + 1 ∧ w_signs' = zup w_signs w_count.toNat sg))) := by
  refine zMv.of RX5 hE (by decide) rfl (by simp) ?_
  intro Z hP hav hwr B
  obtain ⟨l_sg, u_sg⟩ : zR sg := hav (.inl sg) (by simp)
  obtain ⟨l_w_count, u_w_count⟩ : zR w_count := zWr_at hwr (i := 0) rfl (.inl w_count) (by simp)
  show Z 0 0 0 [some (.inr (some w_a)), some (.inl sg)] [] _
  refine B.aload_n (pc := 0) (i := 0) dX5_add_0 rfl rfl ?_
  refine B.getfield (pc := 1) 0 rfl rfl inX5z 1 (by decide) fl_X5_15 rfl dX5_add_1 ?_
  refine B.bipush (pc := 4) dX5_add_4 ⟨by decide, by decide⟩ ?_
  refine B.icmp_ge (pc := 6) (tgt := 29) dX5_add_6 (by decide) (fun c6 => ?_) (fun c6 => ?_)
  · refine B.vreturn (pc := 29) rfl dX5_add_29 (Nat.le_refl _) (Nat.le_refl _) (fun rw => ⟨_, _, rfl, ?_⟩)
    first | exact ⟨by omega, by omega, fun _ => ⟨rfl, rfl⟩⟩ | exact ⟨by omega, by omega, fun q => by omega⟩
  · refine B.aload_n (pc := 9) (i := 0) dX5_add_9 rfl rfl ?_
    refine B.getfield (pc := 10) 0 rfl rfl inX5z 0 (by decide) fl_X5_9 rfl dX5_add_10 ?_
    refine B.aload_n (pc := 13) (i := 0) dX5_add_13 rfl rfl ?_
    refine B.getfield (pc := 14) 0 rfl rfl inX5z 1 (by decide) fl_X5_15 rfl dX5_add_14 ?_
    refine B.iload_n (pc := 17) (i := 1) dX5_add_17 rfl rfl ?_
    refine B.iastore (pc := 18) 1 rfl (by omega) (by omega) dX5_add_18 ?_
    simp only [List.set_cons_zero, List.set_cons_succ]
    refine B.aload_n (pc := 19) (i := 0) dX5_add_19 rfl rfl ?_
    refine B.dup (pc := 20) dX5_add_20 ?_
    refine B.getfield (pc := 21) 0 rfl rfl inX5z 1 (by decide) fl_X5_15 rfl dX5_add_21 ?_
    refine B.iconst (pc := 24) dX5_add_24 ⟨by decide, by decide⟩ ?_
    refine B.iadd (pc := 25) dX5_add_25 ⟨by omega, by omega⟩ ?_
    refine B.putfield (pc := 26) 0 rfl rfl inX5z tyX5 tyX5_ok nmX5 1 (by decide) fl_X5_15 rfl rfl rfl (Nat.le_of_ble_eq_true rfl) dX5_add_26 ?_
    simp only [List.set_cons_zero, List.set_cons_succ]
    refine B.vreturn (pc := 29) rfl dX5_add_29 (Nat.le_refl _) (Nat.le_refl _) (fun rw => ⟨_, _, rfl, ?_⟩)
    first | exact ⟨by omega, by omega, fun _ => ⟨rfl, rfl⟩⟩ | exact ⟨by omega, by omega, fun q => by omega⟩
set_option maxHeartbeats 4000000 in
set_option maxRecDepth 100000 in
theorem mX5_writePiece {l : Launch} {D : va_G} {k : zK} {E : zE} (hE : zEok E) (w_a w_signs_a n_a n_places_a n_lengths_a n_kinds_a n_costs_a n_words_a n_firsts_a n_joins_a n_slots_a n_routes_a b_a b_dictionary_a b_dictionary_letters_a b_dictionary_lengths_a b_dictionary_kinds_a b_dictionary_costs_a b_joins_a b_rules_a b_line_a : Nat) (w_count n_lineLength n_count b_dictionary_count b_lineLength piece : Int) (w_signs n_places n_lengths n_kinds n_costs n_words n_firsts n_joins n_slots n_routes b_dictionary_letters b_dictionary_lengths b_dictionary_kinds b_dictionary_costs b_joins b_rules b_line : Nat → Int) : zMv l D k E yX5_writePiece cX5_writePiece 6 { frames := 1, cells := 0, slots := 0, locals := 21 } 0 0 [.inr (some w_a), .inl piece, .inr (some n_a), .inr (some b_a)] [(w_a, .inr (.inr (5, [.inr (some w_signs_a), .inl w_count]))), (w_signs_a, .inl (false, 71, w_signs)), (n_a, .inr (.inr (2, [.inl n_lineLength, .inl n_count, .inr (some n_places_a), .inr (some n_lengths_a), .inr (some n_kinds_a), .inr (some n_costs_a), .inr (some n_words_a), .inr (some n_firsts_a), .inr (some n_joins_a), .inr (some n_slots_a), .inr (some n_routes_a)]))), (n_places_a, .inl (false, 480, n_places)), (n_lengths_a, .inl (false, 480, n_lengths)), (n_kinds_a, .inl (false, 480, n_kinds)), (n_costs_a, .inl (false, 480, n_costs)), (n_words_a, .inl (false, 480, n_words)), (n_firsts_a, .inl (false, 25, n_firsts)), (n_joins_a, .inl (false, 25, n_joins)), (n_slots_a, .inl (false, 28, n_slots)), (n_routes_a, .inl (false, 25, n_routes)), (b_a, .inr (.inr (0, [.inr (some b_dictionary_a), .inr (some b_joins_a), .inr (some b_rules_a), .inr (some b_line_a), .inl b_lineLength]))), (b_dictionary_a, .inr (.inr (1, [.inr (some b_dictionary_letters_a), .inr (some b_dictionary_lengths_a), .inr (some b_dictionary_kinds_a), .inr (some b_dictionary_costs_a), .inl b_dictionary_count]))), (b_dictionary_letters_a, .inl (false, 96, b_dictionary_letters)), (b_dictionary_lengths_a, .inl (false, 16, b_dictionary_lengths)), (b_dictionary_kinds_a, .inl (false, 16, b_dictionary_kinds)), (b_dictionary_costs_a, .inl (false, 16, b_dictionary_costs)), (b_joins_a, .inl (false, 25, b_joins)), (b_rules_a, .inl (false, 4, b_rules)), (b_line_a, .inl (false, 24, b_line))] (0 ≤ w_count ∧ w_count ≤ 71 ∧ PB n_places n_lengths n_kinds n_costs ∧ 0 ≤ piece ∧ piece < 480 ∧ w_count + n_lengths piece.toNat + (if n_kinds piece.toNat = 3 then 1 else 0) ≤ 71) (fun z u => ∃ (w_signs' : Nat → Int) (w_count' : Int), u = [(w_a, .inr (.inr (5, [.inr (some w_signs_a), .inl w_count']))), (w_signs_a, .inl (false, 71, w_signs')), (n_a, .inr (.inr (2, [.inl n_lineLength, .inl n_count, .inr (some n_places_a), .inr (some n_lengths_a), .inr (some n_kinds_a), .inr (some n_costs_a), .inr (some n_words_a), .inr (some n_firsts_a), .inr (some n_joins_a), .inr (some n_slots_a), .inr (some n_routes_a)]))), (n_places_a, .inl (false, 480, n_places)), (n_lengths_a, .inl (false, 480, n_lengths)), (n_kinds_a, .inl (false, 480, n_kinds)), (n_costs_a, .inl (false, 480, n_costs)), (n_words_a, .inl (false, 480, n_words)), (n_firsts_a, .inl (false, 25, n_firsts)), (n_joins_a, .inl (false, 25, n_joins)), (n_slots_a, .inl (false, 28, n_slots)), (n_routes_a, .inl (false, 25, n_routes)), (b_a, .inr (.inr (0, [.inr (some b_dictionary_a), .inr (some b_joins_a), .inr (some b_rules_a), .inr (some b_line_a), .inl b_lineLength]))), (b_dictionary_a, .inr (.inr (1, [.inr (some b_dictionary_letters_a), .inr (some b_dictionary_lengths_a), .inr (some b_dictionary_kinds_a), .inr (some b_dictionary_costs_a), .inl b_dictionary_count]))), (b_dictionary_letters_a, .inl (false, 96, b_dictionary_letters)), (b_dictionary_lengths_a, .inl (false, 16, b_dictionary_lengths)), (b_dictionary_kinds_a, .inl (false, 16, b_dictionary_kinds)), (b_dictionary_costs_a, .inl (false, 16, b_dictionary_costs)), (b_joins_a, .inl (false, 25, b_joins)), (b_rules_a, .inl (false, 4, b_rules)), (b_line_a, .inl (false, 24, b_line))] ∧ (0 ≤ w_count' ∧ w_count' ≤ 71 ∧ w_count' = w_count + n_lengths piece.toNat + (if n_kinds piece.toNat = 3 then 1 else 0) ∧ (∀ q : Nat, (q : Int) < w_count → w_signs' q = w_signs q) ∧ (∀ q : Nat, w_count ≤ (q : Int) → (q : Int) < w_count' → w_signs' q = sgv b_line n_places n_lengths n_kinds piece.toNat (q - w_count)))) := by
  refine zMv.of RX5 hE (by decide) rfl (by simp) ?_
  intro Z hP hav hwr B
  obtain ⟨l_piece, u_piece⟩ : zR piece := hav (.inl piece) (by simp)
  obtain ⟨l_w_count, u_w_count⟩ : zR w_count := zWr_at hwr (i := 0) rfl (.inl w_count) (by simp)
  obtain ⟨l_n_lineLength, u_n_lineLength⟩ : zR n_lineLength := zWr_at hwr (i := 2) rfl (.inl n_lineLength) (by simp)
  obtain ⟨l_n_count, u_n_count⟩ : zR n_count := zWr_at hwr (i := 2) rfl (.inl n_count) (by simp)
  obtain ⟨l_b_lineLength, u_b_lineLength⟩ : zR b_lineLength := zWr_at hwr (i := 12) rfl (.inl b_lineLength) (by simp)
  obtain ⟨l_b_dictionary_count, u_b_dictionary_count⟩ : zR b_dictionary_count := zWr_at hwr (i := 13) rfl (.inl b_dictionary_count) (by simp)
  obtain ⟨hw1, hw2, hPB, hp1, hp2, hwl⟩ := hP
  have hp := hPB.at (x := piece) (by omega) (by omega)
  obtain ⟨wl, ewl⟩ : ∃ x : Int, x = (if n_kinds piece.toNat = 3 then 1 else 0) := ⟨_, rfl⟩
  rw [← ewl] at hwl
  have hwl2 : (n_kinds piece.toNat = 3 → wl = 1) ∧ (n_kinds piece.toNat ≠ 3 → wl = 0) := ⟨fun q => by rw [ewl, if_pos q], fun q => by rw [ewl, if_neg q]⟩
  obtain ⟨w_signs0, e_signs0⟩ : ∃ x, x = w_signs := ⟨_, rfl⟩
  obtain ⟨w_count0, e_count0⟩ : ∃ x, x = w_count := ⟨_, rfl⟩
  rw [← e_signs0, ← e_count0] at B
  have key : ∀ mu_ : Nat, (∀ (lv : List (Option zV)) (ws : zW), (∃ (pl : Int) (s : Int) (w_signs : Nat → Int) (w_count : Int), lv = [some (.inr (some w_a)), some (.inl piece), some (.inr (some n_a)), some (.inr (some b_a)), some (.inl pl), some (.inl s)] ∧ ws = [(w_a, .inr (.inr (5, [.inr (some w_signs_a), .inl w_count]))), (w_signs_a, .inl (false, 71, w_signs)), (n_a, .inr (.inr (2, [.inl n_lineLength, .inl n_count, .inr (some n_places_a), .inr (some n_lengths_a), .inr (some n_kinds_a), .inr (some n_costs_a), .inr (some n_words_a), .inr (some n_firsts_a), .inr (some n_joins_a), .inr (some n_slots_a), .inr (some n_routes_a)]))), (n_places_a, .inl (false, 480, n_places)), (n_lengths_a, .inl (false, 480, n_lengths)), (n_kinds_a, .inl (false, 480, n_kinds)), (n_costs_a, .inl (false, 480, n_costs)), (n_words_a, .inl (false, 480, n_words)), (n_firsts_a, .inl (false, 25, n_firsts)), (n_joins_a, .inl (false, 25, n_joins)), (n_slots_a, .inl (false, 28, n_slots)), (n_routes_a, .inl (false, 25, n_routes)), (b_a, .inr (.inr (0, [.inr (some b_dictionary_a), .inr (some b_joins_a), .inr (some b_rules_a), .inr (some b_line_a), .inl b_lineLength]))), (b_dictionary_a, .inr (.inr (1, [.inr (some b_dictionary_letters_a), .inr (some b_dictionary_lengths_a), .inr (some b_dictionary_kinds_a), .inr (some b_dictionary_costs_a), .inl b_dictionary_count]))), (b_dictionary_letters_a, .inl (false, 96, b_dictionary_letters)), (b_dictionary_lengths_a, .inl (false, 16, b_dictionary_lengths)), (b_dictionary_kinds_a, .inl (false, 16, b_dictionary_kinds)), (b_dictionary_costs_a, .inl (false, 16, b_dictionary_costs)), (b_joins_a, .inl (false, 25, b_joins)), (b_rules_a, .inl (false, 4, b_rules)), (b_line_a, .inl (false, 24, b_line))] ∧ mu_ = (n_lengths piece.toNat - s).toNat ∧ (pl = n_places piece.toNat ∧ 0 ≤ s ∧ s ≤ n_lengths piece.toNat ∧ 0 ≤ w_count ∧ w_count ≤ 71 ∧ w_count = w_count0 + s ∧ (∀ q : Nat, (q : Int) < w_count0 → w_signs q = w_signs0 q) ∧ (∀ q : Nat, w_count0 ≤ (q : Int) → (q : Int) < w_count → w_signs q = b_line (n_places piece.toNat + (q - w_count0)).toNat))) → Z 0 0 11 lv [] ws) := by
    intro mu_
    induction mu_ using Nat.strongRecOn with
    | _ mu_ ih =>
      · intro lv ws hJ
        obtain ⟨pl, s, w_signs, w_count, rfl, rfl, rfl, hi⟩ := hJ
        obtain ⟨i1, i2, i3, i4, i5, i6, i7, i8⟩ := hi
        refine B.iload (pc := 11) dX5_writePiece_11 rfl ?_
        refine B.aload_n (pc := 13) (i := 2) dX5_writePiece_13 rfl rfl ?_
        refine B.getfield (pc := 14) 2 rfl rfl inX2z 3 (by decide) fl_X5_41 rfl dX5_writePiece_14 ?_
        refine B.iload_n (pc := 17) (i := 1) dX5_writePiece_17 rfl rfl ?_
        refine B.iaload (pc := 18) 4 rfl (by omega) (by omega) dX5_writePiece_18 (fun r18 => ?_)
        obtain ⟨lr18, ur18⟩ := r18
        refine B.icmp_ge (pc := 19) (tgt := 42) dX5_writePiece_19 (by decide) (fun c19 => ?_) (fun c19 => ?_)
        · refine B.aload_n (pc := 42) (i := 2) dX5_writePiece_42 rfl rfl ?_
          refine B.getfield (pc := 43) 2 rfl rfl inX2z 4 (by decide) fl_X5_49 rfl dX5_writePiece_43 ?_
          refine B.iload_n (pc := 46) (i := 1) dX5_writePiece_46 rfl rfl ?_
          refine B.iaload (pc := 47) 5 rfl (by omega) (by omega) dX5_writePiece_47 (fun r47 => ?_)
          obtain ⟨lr47, ur47⟩ := r47
          refine B.iconst (pc := 48) dX5_writePiece_48 ⟨by decide, by decide⟩ ?_
          refine B.icmp_ne (pc := 49) (tgt := 58) dX5_writePiece_49 (by decide) (fun c49 => ?_) (fun c49 => ?_)
          · refine B.vreturn (pc := 58) rfl dX5_writePiece_58 (Nat.le_refl _) (Nat.le_refl _) (fun rw => ⟨_, _, rfl, ?_⟩)
            try obtain ⟨o1, o2, o3⟩ := hk55
            try obtain ⟨o4, o5⟩ := o3 (by omega)
            rw [← ewl]
            first
              | (refine ⟨by omega, by omega, by omega, i7, fun q h1 h2 => ?_⟩
                 unfold sgv
                 rw [if_pos (by omega)]
                 exact i8 q h1 (by omega))
              | (refine ⟨by omega, by omega, by omega, fun q hq => ?_, fun q h1 h2 => ?_⟩
                 · rw [o5, zup_ne (by omega)]; exact i7 q hq
                 · rw [o5]
                   unfold sgv
                   by_cases e : q = w_count.toNat
                   · rw [e, zup_eq, if_neg (by omega), if_pos ⟨by omega, by omega⟩]
                   · rw [zup_ne e, if_pos (by omega)]
                     exact i8 q h1 (by omega))
          · refine B.aload_n (pc := 52) (i := 0) dX5_writePiece_52 rfl rfl ?_
            refine B.bipush (pc := 53) dX5_writePiece_53 ⟨by decide, by decide⟩ ?_
            refine B.callVv (pc := 55) 1 (mX5_add hE _ _ _ _ _) 0 rfl rfl ml_X5_25 im_X5_add se_X5_add it_X5 co_X5_add (by decide +kernel) rfl rfl rfl ⟨by decide, by decide⟩ ⟨by decide, by decide⟩ [0, 1] rfl rfl rfl (Nat.le_of_ble_eq_true rfl) dX5_writePiece_55 (fun _ => by omega) (fun uk55 ruk55 rak55 hqk55 => ?_)
            obtain ⟨w_signs_k55, w_count_k55, rfl, hk55⟩ := hqk55
            simp only [zput, List.set_cons_zero, List.set_cons_succ, List.append_nil, Nat.add_zero]
            refine B.vreturn (pc := 58) rfl dX5_writePiece_58 (Nat.le_refl _) (Nat.le_refl _) (fun rw => ⟨_, _, rfl, ?_⟩)
            try obtain ⟨o1, o2, o3⟩ := hk55
            try obtain ⟨o4, o5⟩ := o3 (by omega)
            rw [← ewl]
            first
              | (refine ⟨by omega, by omega, by omega, i7, fun q h1 h2 => ?_⟩
                 unfold sgv
                 rw [if_pos (by omega)]
                 exact i8 q h1 (by omega))
              | (refine ⟨by omega, by omega, by omega, fun q hq => ?_, fun q h1 h2 => ?_⟩
                 · rw [o5, zup_ne (by omega)]; exact i7 q hq
                 · rw [o5]
                   unfold sgv
                   by_cases e : q = w_count.toNat
                   · rw [e, zup_eq, if_neg (by omega), if_pos ⟨by omega, by omega⟩]
                   · rw [zup_ne e, if_pos (by omega)]
                     exact i8 q h1 (by omega))
        · refine B.aload_n (pc := 22) (i := 0) dX5_writePiece_22 rfl rfl ?_
          refine B.aload_n (pc := 23) (i := 3) dX5_writePiece_23 rfl rfl ?_
          refine B.getfield (pc := 24) 12 rfl rfl inX0z 3 (by decide) fl_X5_44 rfl dX5_writePiece_24 ?_
          refine B.iload (pc := 27) dX5_writePiece_27 rfl ?_
          refine B.iload (pc := 29) dX5_writePiece_29 rfl ?_
          refine B.iadd (pc := 31) dX5_writePiece_31 ⟨by omega, by omega⟩ ?_
          refine B.iaload (pc := 32) 20 rfl (by omega) (by omega) dX5_writePiece_32 (fun r32 => ?_)
          obtain ⟨lr32, ur32⟩ := r32
          refine B.callVv (pc := 33) 1 (mX5_add hE _ _ _ _ _) 0 rfl rfl ml_X5_25 im_X5_add se_X5_add it_X5 co_X5_add (by decide +kernel) rfl rfl rfl ⟨by decide, by decide⟩ ⟨by decide, by decide⟩ [0, 1] rfl rfl rfl (Nat.le_of_ble_eq_true rfl) dX5_writePiece_33 (fun _ => by omega) (fun uk33 ruk33 rak33 hqk33 => ?_)
          obtain ⟨w_signs_k33, w_count_k33, rfl, hk33⟩ := hqk33
          simp only [zput, List.set_cons_zero, List.set_cons_succ, List.append_nil, Nat.add_zero]
          refine B.iinc (pc := 36) dX5_writePiece_36 (by decide) rfl ⟨by omega, by omega⟩ ?_
          simp only [List.set_cons_zero, List.set_cons_succ]
          refine B.goto (pc := 39) (tgt := 11) dX5_writePiece_39 (by decide) ?_
          refine (ih _ ?_) _ _ ⟨_, _, _, _, rfl, rfl, rfl, ?_⟩
          · omega
          · obtain ⟨o1, o2, o3⟩ := hk33
            obtain ⟨o4, o5⟩ := o3 (by omega)
            refine ⟨i1, by omega, by omega, by omega, by omega, by omega, fun q hq => ?_, fun q h1 h2 => ?_⟩
            · rw [o5, zup_ne (by omega)]; exact i7 q hq
            · rw [o5]
              by_cases e : q = w_count.toNat
              · rw [e, zup_eq]
                congr 1
                omega
              · rw [zup_ne e]; exact i8 q h1 (by omega)
  show Z 0 0 0 [some (.inr (some w_a)), some (.inl piece), some (.inr (some n_a)), some (.inr (some b_a)), none, none] [] _
  refine B.aload_n (pc := 0) (i := 2) dX5_writePiece_0 rfl rfl ?_
  refine B.getfield (pc := 1) 2 rfl rfl inX2z 2 (by decide) fl_X5_36 rfl dX5_writePiece_1 ?_
  refine B.iload_n (pc := 4) (i := 1) dX5_writePiece_4 rfl rfl ?_
  refine B.iaload (pc := 5) 3 rfl (by omega) (by omega) dX5_writePiece_5 (fun r5 => ?_)
  obtain ⟨lr5, ur5⟩ := r5
  refine B.istore (pc := 6) (i := 4) dX5_writePiece_6 (by decide) ?_
  simp only [List.set_cons_zero, List.set_cons_succ]
  refine B.iconst (pc := 8) dX5_writePiece_8 ⟨by decide, by decide⟩ ?_
  refine B.istore (pc := 9) (i := 5) dX5_writePiece_9 (by decide) ?_
  simp only [List.set_cons_zero, List.set_cons_succ]
  refine (key _) _ _ ⟨_, _, _, _, rfl, rfl, rfl, ?_⟩
  exact ⟨rfl, by omega, by omega, by omega, by omega, by omega, fun q hq => by rw [e_signs0], fun q h1 h2 => by omega⟩
set_option maxHeartbeats 4000000 in
set_option maxRecDepth 100000 in
theorem mX5_write {l : Launch} {D : va_G} {k : zK} {E : zE} (hE : zEok E) (w_a w_signs_a k_a k_before_a k_counts_a k_kept_a k_followed_a n_a n_places_a n_lengths_a n_kinds_a n_costs_a n_words_a n_firsts_a n_joins_a n_slots_a n_routes_a b_a b_dictionary_a b_dictionary_letters_a b_dictionary_lengths_a b_dictionary_kinds_a b_dictionary_costs_a b_joins_a b_rules_a b_line_a : Nat) (w_count n_lineLength n_count b_dictionary_count b_lineLength i : Int) (w_signs k_before k_counts k_kept k_followed n_places n_lengths n_kinds n_costs n_words n_firsts n_joins n_slots n_routes b_dictionary_letters b_dictionary_lengths b_dictionary_kinds b_dictionary_costs b_joins b_rules b_line : Nat → Int) : zMv l D k E yX5_write cX5_write 7 { frames := 2, cells := 0, slots := 0, locals := 49 } 0 0 [.inr (some w_a), .inl i, .inr (some k_a), .inr (some n_a), .inr (some b_a)] [(w_a, .inr (.inr (5, [.inr (some w_signs_a), .inl w_count]))), (w_signs_a, .inl (false, 71, w_signs)), (k_a, .inr (.inr (4, [.inr (some k_before_a), .inr (some k_counts_a), .inr (some k_kept_a), .inr (some k_followed_a)]))), (k_before_a, .inl (false, 125, k_before)), (k_counts_a, .inl (false, 125, k_counts)), (k_kept_a, .inl (false, 1500, k_kept)), (k_followed_a, .inl (false, 24, k_followed)), (n_a, .inr (.inr (2, [.inl n_lineLength, .inl n_count, .inr (some n_places_a), .inr (some n_lengths_a), .inr (some n_kinds_a), .inr (some n_costs_a), .inr (some n_words_a), .inr (some n_firsts_a), .inr (some n_joins_a), .inr (some n_slots_a), .inr (some n_routes_a)]))), (n_places_a, .inl (false, 480, n_places)), (n_lengths_a, .inl (false, 480, n_lengths)), (n_kinds_a, .inl (false, 480, n_kinds)), (n_costs_a, .inl (false, 480, n_costs)), (n_words_a, .inl (false, 480, n_words)), (n_firsts_a, .inl (false, 25, n_firsts)), (n_joins_a, .inl (false, 25, n_joins)), (n_slots_a, .inl (false, 28, n_slots)), (n_routes_a, .inl (false, 25, n_routes)), (b_a, .inr (.inr (0, [.inr (some b_dictionary_a), .inr (some b_joins_a), .inr (some b_rules_a), .inr (some b_line_a), .inl b_lineLength]))), (b_dictionary_a, .inr (.inr (1, [.inr (some b_dictionary_letters_a), .inr (some b_dictionary_lengths_a), .inr (some b_dictionary_kinds_a), .inr (some b_dictionary_costs_a), .inl b_dictionary_count]))), (b_dictionary_letters_a, .inl (false, 96, b_dictionary_letters)), (b_dictionary_lengths_a, .inl (false, 16, b_dictionary_lengths)), (b_dictionary_kinds_a, .inl (false, 16, b_dictionary_kinds)), (b_dictionary_costs_a, .inl (false, 16, b_dictionary_costs)), (b_joins_a, .inl (false, 25, b_joins)), (b_rules_a, .inl (false, 4, b_rules)), (b_line_a, .inl (false, 24, b_line))] (PB n_places n_lengths n_kinds n_costs ∧ KB k_kept ∧ FO k_followed ∧ GN n_lineLength n_count n_places n_lengths n_kinds n_costs n_firsts ∧ JB n_joins ∧ CB k_counts ∧ KW n_lineLength n_count n_places n_lengths n_kinds n_costs n_firsts n_joins k_before k_counts k_kept ∧ 1 ≤ n_lineLength ∧ 0 ≤ i ∧ i < k_counts 4) (fun z u => ∃ (w_signs' : Nat → Int) (w_count' : Int) (k_followed' : Nat → Int), u = [(w_a, .inr (.inr (5, [.inr (some w_signs_a), .inl w_count']))), (w_signs_a, .inl (false, 71, w_signs')), (k_a, .inr (.inr (4, [.inr (some k_before_a), .inr (some k_counts_a), .inr (some k_kept_a), .inr (some k_followed_a)]))), (k_before_a, .inl (false, 125, k_before)), (k_counts_a, .inl (false, 125, k_counts)), (k_kept_a, .inl (false, 1500, k_kept)), (k_followed_a, .inl (false, 24, k_followed')), (n_a, .inr (.inr (2, [.inl n_lineLength, .inl n_count, .inr (some n_places_a), .inr (some n_lengths_a), .inr (some n_kinds_a), .inr (some n_costs_a), .inr (some n_words_a), .inr (some n_firsts_a), .inr (some n_joins_a), .inr (some n_slots_a), .inr (some n_routes_a)]))), (n_places_a, .inl (false, 480, n_places)), (n_lengths_a, .inl (false, 480, n_lengths)), (n_kinds_a, .inl (false, 480, n_kinds)), (n_costs_a, .inl (false, 480, n_costs)), (n_words_a, .inl (false, 480, n_words)), (n_firsts_a, .inl (false, 25, n_firsts)), (n_joins_a, .inl (false, 25, n_joins)), (n_slots_a, .inl (false, 28, n_slots)), (n_routes_a, .inl (false, 25, n_routes)), (b_a, .inr (.inr (0, [.inr (some b_dictionary_a), .inr (some b_joins_a), .inr (some b_rules_a), .inr (some b_line_a), .inl b_lineLength]))), (b_dictionary_a, .inr (.inr (1, [.inr (some b_dictionary_letters_a), .inr (some b_dictionary_lengths_a), .inr (some b_dictionary_kinds_a), .inr (some b_dictionary_costs_a), .inl b_dictionary_count]))), (b_dictionary_letters_a, .inl (false, 96, b_dictionary_letters)), (b_dictionary_lengths_a, .inl (false, 16, b_dictionary_lengths)), (b_dictionary_kinds_a, .inl (false, 16, b_dictionary_kinds)), (b_dictionary_costs_a, .inl (false, 16, b_dictionary_costs)), (b_joins_a, .inl (false, 25, b_joins)), (b_rules_a, .inl (false, 4, b_rules)), (b_line_a, .inl (false, 24, b_line))] ∧ (0 ≤ w_count' ∧ w_count' ≤ 71 ∧ FO k_followed' ∧ ∃ n : Nat, PA (nC n_lineLength n_places n_lengths n_kinds k_kept) (k_kept (48 + i).toNat % 8192) n ∧ w_count' = oW n_lengths n_kinds (wk (nC n_lineLength n_places n_lengths n_kinds k_kept) (k_kept (48 + i).toNat % 8192)) n - 1 ∧ ∀ q : Nat, (q : Int) < w_count' → SG b_line n_places n_lengths n_kinds (wk (nC n_lineLength n_places n_lengths n_kinds k_kept) (k_kept (48 + i).toNat % 8192)) n q (w_signs' q))) := by
  refine zMv.of RX5 hE (by decide) rfl (by simp) ?_
  intro Z hP hav hwr B
  obtain ⟨l_i, u_i⟩ : zR i := hav (.inl i) (by simp)
  obtain ⟨l_w_count, u_w_count⟩ : zR w_count := zWr_at hwr (i := 0) rfl (.inl w_count) (by simp)
  obtain ⟨l_n_lineLength, u_n_lineLength⟩ : zR n_lineLength := zWr_at hwr (i := 7) rfl (.inl n_lineLength) (by simp)
  obtain ⟨l_n_count, u_n_count⟩ : zR n_count := zWr_at hwr (i := 7) rfl (.inl n_count) (by simp)
  obtain ⟨l_b_lineLength, u_b_lineLength⟩ : zR b_lineLength := zWr_at hwr (i := 17) rfl (.inl b_lineLength) (by simp)
  obtain ⟨l_b_dictionary_count, u_b_dictionary_count⟩ : zR b_dictionary_count := zWr_at hwr (i := 18) rfl (.inl b_dictionary_count) (by simp)
  obtain ⟨hPB, hK, hFo, hG, hrest⟩ := id hP
  obtain ⟨hn1, hn2, hn3, hl2⟩ := hG.1
  obtain ⟨hJ, hC, hKW, hl1, hi0, hi1⟩ := hrest
  have hc4 := hC 4 (by omega)
  have key : ∀ mu_ : Nat, (∀ (lv : List (Option zV)) (ws : zW), (∃ (np : Int) (s : Int) (w_signs : Nat → Int) (w_count : Int) (k_followed : Nat → Int), lv = [some (.inr (some w_a)), some (.inl i), some (.inr (some k_a)), some (.inr (some n_a)), some (.inr (some b_a)), some (.inl np), some (.inl s)] ∧ ws = [(w_a, .inr (.inr (5, [.inr (some w_signs_a), .inl w_count]))), (w_signs_a, .inl (false, 71, w_signs)), (k_a, .inr (.inr (4, [.inr (some k_before_a), .inr (some k_counts_a), .inr (some k_kept_a), .inr (some k_followed_a)]))), (k_before_a, .inl (false, 125, k_before)), (k_counts_a, .inl (false, 125, k_counts)), (k_kept_a, .inl (false, 1500, k_kept)), (k_followed_a, .inl (false, 24, k_followed)), (n_a, .inr (.inr (2, [.inl n_lineLength, .inl n_count, .inr (some n_places_a), .inr (some n_lengths_a), .inr (some n_kinds_a), .inr (some n_costs_a), .inr (some n_words_a), .inr (some n_firsts_a), .inr (some n_joins_a), .inr (some n_slots_a), .inr (some n_routes_a)]))), (n_places_a, .inl (false, 480, n_places)), (n_lengths_a, .inl (false, 480, n_lengths)), (n_kinds_a, .inl (false, 480, n_kinds)), (n_costs_a, .inl (false, 480, n_costs)), (n_words_a, .inl (false, 480, n_words)), (n_firsts_a, .inl (false, 25, n_firsts)), (n_joins_a, .inl (false, 25, n_joins)), (n_slots_a, .inl (false, 28, n_slots)), (n_routes_a, .inl (false, 25, n_routes)), (b_a, .inr (.inr (0, [.inr (some b_dictionary_a), .inr (some b_joins_a), .inr (some b_rules_a), .inr (some b_line_a), .inl b_lineLength]))), (b_dictionary_a, .inr (.inr (1, [.inr (some b_dictionary_letters_a), .inr (some b_dictionary_lengths_a), .inr (some b_dictionary_kinds_a), .inr (some b_dictionary_costs_a), .inl b_dictionary_count]))), (b_dictionary_letters_a, .inl (false, 96, b_dictionary_letters)), (b_dictionary_lengths_a, .inl (false, 16, b_dictionary_lengths)), (b_dictionary_kinds_a, .inl (false, 16, b_dictionary_kinds)), (b_dictionary_costs_a, .inl (false, 16, b_dictionary_costs)), (b_joins_a, .inl (false, 25, b_joins)), (b_rules_a, .inl (false, 4, b_rules)), (b_line_a, .inl (false, 24, b_line))] ∧ mu_ = (np - s).toNat ∧ (0 ≤ s ∧ s ≤ np ∧ np ≤ 24 ∧ 0 ≤ w_count ∧ w_count ≤ 71 ∧ FO k_followed ∧ PA (nC n_lineLength n_places n_lengths n_kinds k_kept) (k_kept (48 + i).toNat % 8192) np.toNat ∧ (∀ j : Nat, (j : Int) < np → 0 ≤ wk (nC n_lineLength n_places n_lengths n_kinds k_kept) (k_kept (48 + i).toNat % 8192) j ∧ wk (nC n_lineLength n_places n_lengths n_kinds k_kept) (k_kept (48 + i).toNat % 8192) j / 16 < n_count ∧ k_followed j = wk (nC n_lineLength n_places n_lengths n_kinds k_kept) (k_kept (48 + i).toNat % 8192) j / 16 ∧ oW n_lengths n_kinds (wk (nC n_lineLength n_places n_lengths n_kinds k_kept) (k_kept (48 + i).toNat % 8192)) (j + 1) ≤ 72) ∧ SW1 b_line n_places n_lengths n_kinds (wk (nC n_lineLength n_places n_lengths n_kinds k_kept) (k_kept (48 + i).toNat % 8192)) w_signs s.toNat w_count)) → Z 0 0 16 lv [] ws) := by
    intro mu_
    induction mu_ using Nat.strongRecOn with
    | _ mu_ ih =>
      · intro lv ws hJ
        obtain ⟨np, s, w_signs, w_count, k_followed, rfl, rfl, rfl, hi⟩ := hJ
        obtain ⟨i1, i2, i3, i4, i5, i6, i7, i8, i9⟩ := hi
        refine B.iload (pc := 16) dX5_write_16 rfl ?_
        refine B.iload (pc := 18) dX5_write_18 rfl ?_
        refine B.icmp_ge (pc := 20) (tgt := 54) dX5_write_20 (by decide) (fun c20 => ?_) (fun c20 => ?_)
        · refine B.vreturn (pc := 54) rfl dX5_write_54 (Nat.le_refl _) (Nat.le_refl _) (fun rw => ⟨_, _, _, rfl, ?_⟩)
          have es : s = np := by omega
          rw [es] at i9
          have hnp : 1 ≤ np.toNat := by
            by_cases q : 1 ≤ np.toNat
            · exact q
            · exfalso
              have h2 := i7.2
              rw [show np.toNat = 0 by omega] at h2
              have h3 : wk (nC n_lineLength n_places n_lengths n_kinds k_kept) (k_kept (48 + i).toNat % 8192) 0 = (k_kept (48 + i).toNat % 8192) := rfl
              omega
          exact ⟨i4, i5, i6, np.toNat, i7, i9.2.1 hnp, i9.2.2⟩
        · have hf := i6.at (x := s) (by omega) (by omega)
          have h8 := i8 s.toNat (by omega)
          have hgs := hG.2.1 (k_followed s.toNat).toNat (by omega)
          have hos : oW n_lengths n_kinds (wk (nC n_lineLength n_places n_lengths n_kinds k_kept) (k_kept (48 + i).toNat % 8192)) (s.toNat + 1) = oW n_lengths n_kinds (wk (nC n_lineLength n_places n_lengths n_kinds k_kept) (k_kept (48 + i).toNat % 8192)) s.toNat + n_lengths ((wk (nC n_lineLength n_places n_lengths n_kinds k_kept) (k_kept (48 + i).toNat % 8192)) s.toNat / 16).toNat + (if n_kinds ((wk (nC n_lineLength n_places n_lengths n_kinds k_kept) (k_kept (48 + i).toNat % 8192)) s.toNat / 16).toNat = 3 then 1 else 0) + 1 := rfl
          rw [← h8.2.2.1] at hos
          refine B.iload (pc := 23) dX5_write_23 rfl ?_
          refine B.if_le (pc := 25) (tgt := 34) dX5_write_25 (by decide) (fun c25 => ?_) (fun c25 => ?_)
          · try (
              obtain ⟨b1, b2, b3⟩ := hk31
              obtain ⟨b4, b5⟩ := b3 (by split at hos <;> omega)
              subst b5
              have hbar := SW1.bar i9 (by omega) (by omega) hgs1.2.1)
            have hw0 : s = 0 → w_count = 0 := fun q => i9.1 (by omega)
            have ho0 : oW n_lengths n_kinds (wk (nC n_lineLength n_places n_lengths n_kinds k_kept) (k_kept (48 + i).toNat % 8192)) 0 = 0 := rfl
            refine B.aload_n (pc := 34) (i := 0) dX5_write_34 rfl rfl ?_
            refine B.aload_n (pc := 35) (i := 2) dX5_write_35 rfl rfl ?_
            refine B.getfield (pc := 36) 2 rfl rfl inX4z 3 (by decide) fl_X5_29 rfl dX5_write_36 ?_
            refine B.iload (pc := 39) dX5_write_39 rfl ?_
            refine B.iaload (pc := 41) 6 rfl (by omega) (by omega) dX5_write_41 (fun r41 => ?_)
            obtain ⟨lr41, ur41⟩ := r41
            refine B.aload_n (pc := 42) (i := 3) dX5_write_42 rfl rfl ?_
            refine B.aload (pc := 43) dX5_write_43 rfl ?_
            refine B.callVv (pc := 45) 3 (mX5_writePiece hE _ _ _ _ _ _ _ _ _ _ _ _ _ _ _ _ _ _ _ _ _ _ _ _ _ _ _ _ _ _ _ _ _ _ _ _ _ _ _ _ _ _ _ _) 0 rfl rfl ml_X5_32 im_X5_writePiece se_X5_writePiece it_X5 co_X5_writePiece (by decide +kernel) rfl rfl rfl ⟨by decide, by decide⟩ ⟨by decide, by decide⟩ [0, 1, 7, 8, 9, 10, 11, 12, 13, 14, 15, 16, 17, 18, 19, 20, 21, 22, 23, 24, 25] rfl rfl rfl (Nat.le_of_ble_eq_true rfl) dX5_write_45 (fun _ => ⟨by omega, by omega, hPB, by omega, by omega, by
              first
                | omega
                | (have es : s = 0 := by omega
                   subst es
                   have ew := hw0 rfl
                   have ho1 : oW n_lengths n_kinds (wk (nC n_lineLength n_places n_lengths n_kinds k_kept) (k_kept (48 + i).toNat % 8192)) (0 : Int).toNat = 0 := rfl
                   omega)⟩) (fun uk45 ruk45 rak45 hqk45 => ?_)
            obtain ⟨w_signs_k45, w_count_k45, rfl, hk45⟩ := hqk45
            simp only [zput, List.set_cons_zero, List.set_cons_succ, List.append_nil, Nat.add_zero]
            refine B.iinc (pc := 48) dX5_write_48 (by decide) rfl ⟨by omega, by omega⟩ ?_
            simp only [List.set_cons_zero, List.set_cons_succ]
            refine B.goto (pc := 51) (tgt := 16) dX5_write_51 (by decide) ?_
            refine (ih _ ?_) _ _ ⟨_, _, _, _, _, rfl, rfl, rfl, ?_⟩
            · omega
            · obtain ⟨o1, o2, o3, o4, o5⟩ := hk45
              refine ⟨by omega, by omega, i3, o1, o2, i6, i7, i8, ?_⟩
              rw [show (s + 1).toNat = s.toNat + 1 by omega]
              rw [show k_followed s.toNat = wk (nC n_lineLength n_places n_lengths n_kinds k_kept) (k_kept (48 + i).toNat % 8192) s.toNat / 16 by omega] at o3 o5
              first
                | exact SW1.piece (fun q hq => hbar q (by omega)) (by omega) o3 o4 o5
                | (have es : s = 0 := by omega
                   subst es
                   exact SW1.piece (fun q hq => by have := i9.1 rfl; omega) (i9.1 rfl) o3 o4 o5)
          · have h9 := i9.2.1 (by omega)
            have h8b := i8 (s.toNat - 1) (by omega)
            have hgs1 := hG.2.1 ((wk (nC n_lineLength n_places n_lengths n_kinds k_kept) (k_kept (48 + i).toNat % 8192)) (s.toNat - 1) / 16).toNat (by omega)
            refine B.aload_n (pc := 28) (i := 0) dX5_write_28 rfl rfl ?_
            refine B.bipush (pc := 29) dX5_write_29 ⟨by decide, by decide⟩ ?_
            refine B.callVv (pc := 31) 1 (mX5_add hE _ _ _ _ _) 0 rfl rfl ml_X5_25 im_X5_add se_X5_add it_X5 co_X5_add (by decide +kernel) rfl rfl rfl ⟨by decide, by decide⟩ ⟨by decide, by decide⟩ [0, 1] rfl rfl rfl (Nat.le_of_ble_eq_true rfl) dX5_write_31 (fun _ => by omega) (fun uk31 ruk31 rak31 hqk31 => ?_)
            obtain ⟨w_signs_k31, w_count_k31, rfl, hk31⟩ := hqk31
            simp only [zput, List.set_cons_zero, List.set_cons_succ, List.append_nil, Nat.add_zero]
            try (
              obtain ⟨b1, b2, b3⟩ := hk31
              obtain ⟨b4, b5⟩ := b3 (by split at hos <;> omega)
              subst b5
              have hbar := SW1.bar i9 (by omega) (by omega) hgs1.2.1)
            have hw0 : s = 0 → w_count = 0 := fun q => i9.1 (by omega)
            have ho0 : oW n_lengths n_kinds (wk (nC n_lineLength n_places n_lengths n_kinds k_kept) (k_kept (48 + i).toNat % 8192)) 0 = 0 := rfl
            refine B.aload_n (pc := 34) (i := 0) dX5_write_34 rfl rfl ?_
            refine B.aload_n (pc := 35) (i := 2) dX5_write_35 rfl rfl ?_
            refine B.getfield (pc := 36) 2 rfl rfl inX4z 3 (by decide) fl_X5_29 rfl dX5_write_36 ?_
            refine B.iload (pc := 39) dX5_write_39 rfl ?_
            refine B.iaload (pc := 41) 6 rfl (by omega) (by omega) dX5_write_41 (fun r41 => ?_)
            obtain ⟨lr41, ur41⟩ := r41
            refine B.aload_n (pc := 42) (i := 3) dX5_write_42 rfl rfl ?_
            refine B.aload (pc := 43) dX5_write_43 rfl ?_
            refine B.callVv (pc := 45) 3 (mX5_writePiece hE _ _ _ _ _ _ _ _ _ _ _ _ _ _ _ _ _ _ _ _ _ _ _ _ _ _ _ _ _ _ _ _ _ _ _ _ _ _ _ _ _ _ _ _) 0 rfl rfl ml_X5_32 im_X5_writePiece se_X5_writePiece it_X5 co_X5_writePiece (by decide +kernel) rfl rfl rfl ⟨by decide, by decide⟩ ⟨by decide, by decide⟩ [0, 1, 7, 8, 9, 10, 11, 12, 13, 14, 15, 16, 17, 18, 19, 20, 21, 22, 23, 24, 25] rfl rfl rfl (Nat.le_of_ble_eq_true rfl) dX5_write_45 (fun _ => ⟨by omega, by omega, hPB, by omega, by omega, by
              first
                | omega
                | (have es : s = 0 := by omega
                   subst es
                   have ew := hw0 rfl
                   have ho1 : oW n_lengths n_kinds (wk (nC n_lineLength n_places n_lengths n_kinds k_kept) (k_kept (48 + i).toNat % 8192)) (0 : Int).toNat = 0 := rfl
                   omega)⟩) (fun uk45 ruk45 rak45 hqk45 => ?_)
            obtain ⟨w_signs_k45, w_count_k45, rfl, hk45⟩ := hqk45
            simp only [zput, List.set_cons_zero, List.set_cons_succ, List.append_nil, Nat.add_zero]
            refine B.iinc (pc := 48) dX5_write_48 (by decide) rfl ⟨by omega, by omega⟩ ?_
            simp only [List.set_cons_zero, List.set_cons_succ]
            refine B.goto (pc := 51) (tgt := 16) dX5_write_51 (by decide) ?_
            refine (ih _ ?_) _ _ ⟨_, _, _, _, _, rfl, rfl, rfl, ?_⟩
            · omega
            · obtain ⟨o1, o2, o3, o4, o5⟩ := hk45
              refine ⟨by omega, by omega, i3, o1, o2, i6, i7, i8, ?_⟩
              rw [show (s + 1).toNat = s.toNat + 1 by omega]
              rw [show k_followed s.toNat = wk (nC n_lineLength n_places n_lengths n_kinds k_kept) (k_kept (48 + i).toNat % 8192) s.toNat / 16 by omega] at o3 o5
              first
                | exact SW1.piece (fun q hq => hbar q (by omega)) (by omega) o3 o4 o5
                | (have es : s = 0 := by omega
                   subst es
                   exact SW1.piece (fun q hq => by have := i9.1 rfl; omega) (i9.1 rfl) o3 o4 o5)
  show Z 0 0 0 [some (.inr (some w_a)), some (.inl i), some (.inr (some k_a)), some (.inr (some n_a)), some (.inr (some b_a)), none, none] [] _
  refine B.aload_n (pc := 0) (i := 0) dX5_write_0 rfl rfl ?_
  refine B.iconst (pc := 1) dX5_write_1 ⟨by decide, by decide⟩ ?_
  refine B.putfield (pc := 2) 0 rfl rfl inX5z tyX5 tyX5_ok nmX5 1 (by decide) fl_X5_15 rfl rfl rfl (Nat.le_of_ble_eq_true rfl) dX5_write_2 ?_
  simp only [List.set_cons_zero, List.set_cons_succ]
  refine B.aload_n (pc := 5) (i := 2) dX5_write_5 rfl rfl ?_
  refine B.aload_n (pc := 6) (i := 3) dX5_write_6 rfl rfl ?_
  refine B.iload_n (pc := 7) (i := 1) dX5_write_7 rfl rfl ?_
  refine B.callVi (pc := 8) 2 (mX4_follow hE _ _ _ _ _ _ _ _ _ _ _ _ _ _ _ _ _ _ _ _ _ _ _ _ _ _ _ _ _ _ _) 2 rfl rfl ml_X5_19 im_X4_follow se_X4_follow it_X4 co_X4_follow (by decide +kernel) rfl rfl rfl ⟨by decide, by decide⟩ ⟨by decide, by decide⟩ [2, 3, 4, 5, 6, 7, 8, 9, 10, 11, 12, 13, 14, 15, 16] rfl rfl rfl (Nat.le_of_ble_eq_true rfl) dX5_write_8 (fun _ => hP) (fun zk8 uk8 rzk8 ruk8 rak8 hqk8 => ?_)
  obtain ⟨lzk8, uzk8⟩ := rzk8
  obtain ⟨k_followed_k8, rfl, hk8⟩ := hqk8
  simp only [zput, List.set_cons_zero, List.set_cons_succ, List.append_nil, Nat.add_zero]
  refine B.istore (pc := 11) (i := 5) dX5_write_11 (by decide) ?_
  simp only [List.set_cons_zero, List.set_cons_succ]
  refine B.iconst (pc := 13) dX5_write_13 ⟨by decide, by decide⟩ ?_
  refine B.istore (pc := 14) (i := 6) dX5_write_14 (by decide) ?_
  simp only [List.set_cons_zero, List.set_cons_succ]
  refine (key _) _ _ ⟨_, _, _, _, _, rfl, rfl, rfl, ?_⟩
  obtain ⟨p1, n, p2, p3, p4, p5⟩ := hk8
  subst p2
  exact ⟨by omega, by omega, by omega, by omega, by omega, p1, p4, fun j hj => p5 j (by omega), fun _ => rfl, fun q => absurd q (by decide), fun q hq => by omega⟩
