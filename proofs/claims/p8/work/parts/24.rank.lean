set_option maxHeartbeats 4000000 in
set_option maxRecDepth 100000 in
theorem mX4_spotBehind {l : Launch} {D : va_G} {k : zK} {E : zE} (hE : zEok E) (n_a n_places_a n_lengths_a n_kinds_a n_costs_a n_words_a n_firsts_a n_joins_a n_slots_a n_routes_a : Nat) (n_lineLength n_count piece : Int) (n_places n_lengths n_kinds n_costs n_words n_firsts n_joins n_slots n_routes : Nat → Int) : zMi l D k E yX4_spotBehind cX4_spotBehind 2 .int { frames := 0, cells := 0, slots := 0, locals := 0 } 0 0 [.inr (some n_a), .inl piece] [(n_a, .inr (.inr (2, [.inl n_lineLength, .inl n_count, .inr (some n_places_a), .inr (some n_lengths_a), .inr (some n_kinds_a), .inr (some n_costs_a), .inr (some n_words_a), .inr (some n_firsts_a), .inr (some n_joins_a), .inr (some n_slots_a), .inr (some n_routes_a)]))), (n_places_a, .inl (false, 480, n_places)), (n_lengths_a, .inl (false, 480, n_lengths)), (n_kinds_a, .inl (false, 480, n_kinds)), (n_costs_a, .inl (false, 480, n_costs)), (n_words_a, .inl (false, 480, n_words)), (n_firsts_a, .inl (false, 25, n_firsts)), (n_joins_a, .inl (false, 25, n_joins)), (n_slots_a, .inl (false, 28, n_slots)), (n_routes_a, .inl (false, 25, n_routes))] (PB n_places n_lengths n_kinds n_costs ∧ 0 ≤ piece ∧ piece < 480) (fun z u => u = [(n_a, .inr (.inr (2, [.inl n_lineLength, .inl n_count, .inr (some n_places_a), .inr (some n_lengths_a), .inr (some n_kinds_a), .inr (some n_costs_a), .inr (some n_words_a), .inr (some n_firsts_a), .inr (some n_joins_a), .inr (some n_slots_a), .inr (some n_routes_a)]))), (n_places_a, .inl (false, 480, n_places)), (n_lengths_a, .inl (false, 480, n_lengths)), (n_kinds_a, .inl (false, 480, n_kinds)), (n_costs_a, .inl (false, 480, n_costs)), (n_words_a, .inl (false, 480, n_words)), (n_firsts_a, .inl (false, 25, n_firsts)), (n_joins_a, .inl (false, 25, n_joins)), (n_slots_a, .inl (false, 28, n_slots)), (n_routes_a, .inl (false, 25, n_routes))] ∧ (z = (n_places piece.toNat + n_lengths piece.toNat) * 5 + n_kinds piece.toNat)) := by
  refine zMi.of RX4 hE (by decide) rfl (by simp) (fun _ _ _ _ => rfl) ?_
  intro Z hP hav hwr B
  obtain ⟨l_piece, u_piece⟩ : zR piece := hav (.inl piece) (by simp)
  obtain ⟨l_n_lineLength, u_n_lineLength⟩ : zR n_lineLength := zWr_at hwr (i := 0) rfl (.inl n_lineLength) (by simp)
  obtain ⟨l_n_count, u_n_count⟩ : zR n_count := zWr_at hwr (i := 0) rfl (.inl n_count) (by simp)
  obtain ⟨hPB, hpc⟩ := hP
  have hp := hPB.at (x := piece) (by omega) (by omega)
  show Z 0 0 0 [some (.inr (some n_a)), some (.inl piece)] [] _
  refine B.aload_n (pc := 0) (i := 0) dX4_spotBehind_0 rfl rfl ?_
  refine B.getfield (pc := 1) 0 rfl rfl inX2z 2 (by decide) fl_X4_68 rfl dX4_spotBehind_1 ?_
  refine B.iload_n (pc := 4) (i := 1) dX4_spotBehind_4 rfl rfl ?_
  refine B.iaload (pc := 5) 1 rfl (by omega) (by omega) dX4_spotBehind_5 (fun r5 => ?_)
  obtain ⟨lr5, ur5⟩ := r5
  refine B.aload_n (pc := 6) (i := 0) dX4_spotBehind_6 rfl rfl ?_
  refine B.getfield (pc := 7) 0 rfl rfl inX2z 3 (by decide) fl_X4_71 rfl dX4_spotBehind_7 ?_
  refine B.iload_n (pc := 10) (i := 1) dX4_spotBehind_10 rfl rfl ?_
  refine B.iaload (pc := 11) 2 rfl (by omega) (by omega) dX4_spotBehind_11 (fun r11 => ?_)
  obtain ⟨lr11, ur11⟩ := r11
  refine B.iadd (pc := 12) dX4_spotBehind_12 ⟨by omega, by omega⟩ ?_
  refine B.iconst (pc := 13) dX4_spotBehind_13 ⟨by decide, by decide⟩ ?_
  refine B.imul (pc := 14) dX4_spotBehind_14 ⟨by omega, by omega⟩ ?_
  refine B.aload_n (pc := 15) (i := 0) dX4_spotBehind_15 rfl rfl ?_
  refine B.getfield (pc := 16) 0 rfl rfl inX2z 4 (by decide) fl_X4_74 rfl dX4_spotBehind_16 ?_
  refine B.iload_n (pc := 19) (i := 1) dX4_spotBehind_19 rfl rfl ?_
  refine B.iaload (pc := 20) 3 rfl (by omega) (by omega) dX4_spotBehind_20 (fun r20 => ?_)
  obtain ⟨lr20, ur20⟩ := r20
  refine B.iadd (pc := 21) dX4_spotBehind_21 ⟨by omega, by omega⟩ ?_
  refine B.ireturn (pc := 22) (by simp) dX4_spotBehind_22 (Nat.le_refl _) (Nat.le_refl _) (fun rz rw => ⟨rfl, ?_⟩)
  rfl
set_option maxHeartbeats 4000000 in
set_option maxRecDepth 100000 in
theorem mX4_offer {l : Launch} {D : va_G} {k : zK} {E : zE} (hE : zEok E) (k_a k_before_a k_counts_a k_kept_a k_followed_a : Nat) (spot way : Int) (k_before k_counts k_kept k_followed : Nat → Int) : zMi l D k E yX4_offer cX4_offer 5 .boolean { frames := 0, cells := 0, slots := 0, locals := 0 } 0 0 [.inr (some k_a), .inl spot, .inl way] [(k_a, .inr (.inr (4, [.inr (some k_before_a), .inr (some k_counts_a), .inr (some k_kept_a), .inr (some k_followed_a)]))), (k_before_a, .inl (false, 125, k_before)), (k_counts_a, .inl (false, 125, k_counts)), (k_kept_a, .inl (false, 1500, k_kept)), (k_followed_a, .inl (false, 24, k_followed))] (CB k_counts ∧ KB k_kept ∧ 0 ≤ spot ∧ spot < 125 ∧ 0 ≤ way ∧ way / 16 % 512 < 480 ∧ way / 8192 ≤ (24 - spot / 5) * 792 + 99) (fun z u => ∃ (k_counts' : Nat → Int) (k_kept' : Nat → Int), u = [(k_a, .inr (.inr (4, [.inr (some k_before_a), .inr (some k_counts_a), .inr (some k_kept_a), .inr (some k_followed_a)]))), (k_before_a, .inl (false, 125, k_before)), (k_counts_a, .inl (false, 125, k_counts')), (k_kept_a, .inl (false, 1500, k_kept')), (k_followed_a, .inl (false, 24, k_followed))] ∧ ((z = 0 ∨ z = 1) ∧ CB k_counts' ∧ KB k_kept')) := by
  refine zMi.of RX4 hE (by decide) rfl (by simp) (fun z u hp hq => ?_) ?_
  · have hz : z = 0 ∨ z = 1 := by obtain ⟨_, _, _, hq⟩ := hq; first | exact hq | exact hq.1 | exact Or.inr hq
    rcases hz with rfl | rfl <;> decide
  intro Z hP hav hwr B
  obtain ⟨l_spot, u_spot⟩ : zR spot := hav (.inl spot) (by simp)
  obtain ⟨l_way, u_way⟩ : zR way := hav (.inl way) (by simp)
  obtain ⟨hC, hK, hw⟩ := hP
  have hc := hC.at (x := spot) (by omega) (by omega)
  have key : ∀ mu_ : Nat, (∀ (lv : List (Option zV)) (ws : zW), (∃ (fi : Int) (t : Int) (k_counts : Nat → Int) (k_kept : Nat → Int), lv = [some (.inr (some k_a)), some (.inl spot), some (.inl way), some (.inl fi), some (.inl t)] ∧ ws = [(k_a, .inr (.inr (4, [.inr (some k_before_a), .inr (some k_counts_a), .inr (some k_kept_a), .inr (some k_followed_a)]))), (k_before_a, .inl (false, 125, k_before)), (k_counts_a, .inl (false, 125, k_counts)), (k_kept_a, .inl (false, 1500, k_kept)), (k_followed_a, .inl (false, 24, k_followed))] ∧ mu_ = (t - fi).toNat ∧ (fi = spot * 12 ∧ fi ≤ t ∧ t ≤ fi + 11 ∧ CB k_counts ∧ KB k_kept)) → Z 0 0 55 lv [] ws) := by
    intro mu_
    induction mu_ using Nat.strongRecOn with
    | _ mu_ ih =>
      · intro lv ws hJ
        obtain ⟨fi, t, k_counts, k_kept, rfl, rfl, rfl, hi⟩ := hJ
        obtain ⟨i1, i2, i3, i4, i5⟩ := hi
        refine B.iload (pc := 55) dX4_offer_55 rfl ?_
        refine B.iload_n (pc := 57) (i := 3) dX4_offer_57 rfl rfl ?_
        refine B.icmp_le (pc := 58) (tgt := 96) dX4_offer_58 (by decide) (fun c58 => ?_) (fun c58 => ?_)
        · refine B.aload_n (pc := 96) (i := 0) dX4_offer_96 rfl rfl ?_
          refine B.getfield (pc := 97) 0 rfl rfl inX4z 2 (by decide) fl_X4_18 rfl dX4_offer_97 ?_
          refine B.iload (pc := 100) dX4_offer_100 rfl ?_
          refine B.iload_n (pc := 102) (i := 2) dX4_offer_102 rfl rfl ?_
          refine B.iastore (pc := 103) 3 rfl (by omega) (by omega) dX4_offer_103 ?_
          simp only [List.set_cons_zero, List.set_cons_succ]
          refine B.iconst (pc := 104) dX4_offer_104 ⟨by decide, by decide⟩ ?_
          refine B.ireturn (pc := 105) (by simp) dX4_offer_105 (Nat.le_refl _) (Nat.le_refl _) (fun rz rw => ⟨_, _, rfl, ?_⟩)
          exact ⟨by omega, i4, i5.put (by omega) (by omega) (by omega) (by omega)⟩
        · refine B.aload_n (pc := 61) (i := 0) dX4_offer_61 rfl rfl ?_
          refine B.getfield (pc := 62) 0 rfl rfl inX4z 2 (by decide) fl_X4_18 rfl dX4_offer_62 ?_
          refine B.iload (pc := 65) dX4_offer_65 rfl ?_
          refine B.iconst (pc := 67) dX4_offer_67 ⟨by decide, by decide⟩ ?_
          refine B.isub (pc := 68) dX4_offer_68 ⟨by omega, by omega⟩ ?_
          refine B.iaload (pc := 69) 3 rfl (by omega) (by omega) dX4_offer_69 (fun r69 => ?_)
          obtain ⟨lr69, ur69⟩ := r69
          refine B.iload_n (pc := 70) (i := 2) dX4_offer_70 rfl rfl ?_
          refine B.icmp_le (pc := 71) (tgt := 96) dX4_offer_71 (by decide) (fun c71 => ?_) (fun c71 => ?_)
          · refine B.aload_n (pc := 96) (i := 0) dX4_offer_96 rfl rfl ?_
            refine B.getfield (pc := 97) 0 rfl rfl inX4z 2 (by decide) fl_X4_18 rfl dX4_offer_97 ?_
            refine B.iload (pc := 100) dX4_offer_100 rfl ?_
            refine B.iload_n (pc := 102) (i := 2) dX4_offer_102 rfl rfl ?_
            refine B.iastore (pc := 103) 3 rfl (by omega) (by omega) dX4_offer_103 ?_
            simp only [List.set_cons_zero, List.set_cons_succ]
            refine B.iconst (pc := 104) dX4_offer_104 ⟨by decide, by decide⟩ ?_
            refine B.ireturn (pc := 105) (by simp) dX4_offer_105 (Nat.le_refl _) (Nat.le_refl _) (fun rz rw => ⟨_, _, rfl, ?_⟩)
            exact ⟨by omega, i4, i5.put (by omega) (by omega) (by omega) (by omega)⟩
          · refine B.aload_n (pc := 74) (i := 0) dX4_offer_74 rfl rfl ?_
            refine B.getfield (pc := 75) 0 rfl rfl inX4z 2 (by decide) fl_X4_18 rfl dX4_offer_75 ?_
            refine B.iload (pc := 78) dX4_offer_78 rfl ?_
            refine B.aload_n (pc := 80) (i := 0) dX4_offer_80 rfl rfl ?_
            refine B.getfield (pc := 81) 0 rfl rfl inX4z 2 (by decide) fl_X4_18 rfl dX4_offer_81 ?_
            refine B.iload (pc := 84) dX4_offer_84 rfl ?_
            refine B.iconst (pc := 86) dX4_offer_86 ⟨by decide, by decide⟩ ?_
            refine B.isub (pc := 87) dX4_offer_87 ⟨by omega, by omega⟩ ?_
            refine B.iaload (pc := 88) 3 rfl (by omega) (by omega) dX4_offer_88 (fun r88 => ?_)
            obtain ⟨lr88, ur88⟩ := r88
            refine B.iastore (pc := 89) 3 rfl (by omega) (by omega) dX4_offer_89 ?_
            simp only [List.set_cons_zero, List.set_cons_succ]
            refine B.iinc (pc := 90) dX4_offer_90 (by decide) rfl ⟨by omega, by omega⟩ ?_
            simp only [List.set_cons_zero, List.set_cons_succ]
            refine B.goto (pc := 93) (tgt := 55) dX4_offer_93 (by decide) ?_
            refine (ih _ ?_) _ _ ⟨_, _, _, _, rfl, rfl, rfl, ?_⟩
            · omega
            · have hq := i5.at (x := t - 1) (by omega) (by omega)
              exact ⟨i1, by omega, by omega, i4, i5.put (by omega) (by omega) (by omega) (by omega)⟩
  show Z 0 0 0 [some (.inr (some k_a)), some (.inl spot), some (.inl way), none, none] [] _
  refine B.iload_n (pc := 0) (i := 1) dX4_offer_0 rfl rfl ?_
  refine B.bipush (pc := 1) dX4_offer_1 ⟨by decide, by decide⟩ ?_
  refine B.imul (pc := 3) dX4_offer_3 ⟨by omega, by omega⟩ ?_
  refine B.istore_n (pc := 4) (i := 3) dX4_offer_4 rfl (by decide) ?_
  simp only [List.set_cons_zero, List.set_cons_succ]
  refine B.iload_n (pc := 5) (i := 3) dX4_offer_5 rfl rfl ?_
  refine B.aload_n (pc := 6) (i := 0) dX4_offer_6 rfl rfl ?_
  refine B.getfield (pc := 7) 0 rfl rfl inX4z 1 (by decide) fl_X4_15 rfl dX4_offer_7 ?_
  refine B.iload_n (pc := 10) (i := 1) dX4_offer_10 rfl rfl ?_
  refine B.iaload (pc := 11) 2 rfl (by omega) (by omega) dX4_offer_11 (fun r11 => ?_)
  obtain ⟨lr11, ur11⟩ := r11
  refine B.iadd (pc := 12) dX4_offer_12 ⟨by omega, by omega⟩ ?_
  refine B.istore (pc := 13) (i := 4) dX4_offer_13 (by decide) ?_
  simp only [List.set_cons_zero, List.set_cons_succ]
  refine B.aload_n (pc := 15) (i := 0) dX4_offer_15 rfl rfl ?_
  refine B.getfield (pc := 16) 0 rfl rfl inX4z 1 (by decide) fl_X4_15 rfl dX4_offer_16 ?_
  refine B.iload_n (pc := 19) (i := 1) dX4_offer_19 rfl rfl ?_
  refine B.iaload (pc := 20) 2 rfl (by omega) (by omega) dX4_offer_20 (fun r20 => ?_)
  obtain ⟨lr20, ur20⟩ := r20
  refine B.bipush (pc := 21) dX4_offer_21 ⟨by decide, by decide⟩ ?_
  refine B.icmp_ge (pc := 23) (tgt := 39) dX4_offer_23 (by decide) (fun c23 => ?_) (fun c23 => ?_)
  · refine B.iinc (pc := 39) dX4_offer_39 (by decide) rfl ⟨by omega, by omega⟩ ?_
    simp only [List.set_cons_zero, List.set_cons_succ]
    refine B.aload_n (pc := 42) (i := 0) dX4_offer_42 rfl rfl ?_
    refine B.getfield (pc := 43) 0 rfl rfl inX4z 2 (by decide) fl_X4_18 rfl dX4_offer_43 ?_
    refine B.iload (pc := 46) dX4_offer_46 rfl ?_
    refine B.iaload (pc := 48) 3 rfl (by omega) (by omega) dX4_offer_48 (fun r48 => ?_)
    obtain ⟨lr48, ur48⟩ := r48
    refine B.iload_n (pc := 49) (i := 2) dX4_offer_49 rfl rfl ?_
    refine B.icmp_ge (pc := 50) (tgt := 55) dX4_offer_50 (by decide) (fun c50 => ?_) (fun c50 => ?_)
    · refine (key _) _ _ ⟨_, _, _, _, rfl, rfl, rfl, ?_⟩
      first | exact ⟨rfl, by omega, by omega, hC.put _ (by omega), hK⟩ | exact ⟨rfl, by omega, by omega, hC, hK⟩
    · refine B.iconst (pc := 53) dX4_offer_53 ⟨by decide, by decide⟩ ?_
      refine B.ireturn (pc := 54) (by simp) dX4_offer_54 (Nat.le_refl _) (Nat.le_refl _) (fun rz rw => ⟨_, _, rfl, ?_⟩)
      exact ⟨by omega, hC, hK⟩
  · refine B.aload_n (pc := 26) (i := 0) dX4_offer_26 rfl rfl ?_
    refine B.getfield (pc := 27) 0 rfl rfl inX4z 1 (by decide) fl_X4_15 rfl dX4_offer_27 ?_
    refine B.iload_n (pc := 30) (i := 1) dX4_offer_30 rfl rfl ?_
    refine B.dup2 (pc := 31) dX4_offer_31 ?_
    refine B.iaload (pc := 32) 2 rfl (by omega) (by omega) dX4_offer_32 (fun r32 => ?_)
    obtain ⟨lr32, ur32⟩ := r32
    refine B.iconst (pc := 33) dX4_offer_33 ⟨by decide, by decide⟩ ?_
    refine B.iadd (pc := 34) dX4_offer_34 ⟨by omega, by omega⟩ ?_
    refine B.iastore (pc := 35) 2 rfl (by omega) (by omega) dX4_offer_35 ?_
    simp only [List.set_cons_zero, List.set_cons_succ]
    refine B.goto (pc := 36) (tgt := 55) dX4_offer_36 (by decide) ?_
    refine (key _) _ _ ⟨_, _, _, _, rfl, rfl, rfl, ?_⟩
    first | exact ⟨rfl, by omega, by omega, hC.put _ (by omega), hK⟩ | exact ⟨rfl, by omega, by omega, hC, hK⟩
set_option maxHeartbeats 4000000 in
set_option maxRecDepth 100000 in
theorem mX4_offerWays {l : Launch} {D : va_G} {k : zK} {E : zE} (hE : zEok E) (k_a k_before_a k_counts_a k_kept_a k_followed_a n_a n_places_a n_lengths_a n_kinds_a n_costs_a n_words_a n_firsts_a n_joins_a n_slots_a n_routes_a : Nat) (n_lineLength n_count spot piece cost : Int) (k_before k_counts k_kept k_followed n_places n_lengths n_kinds n_costs n_words n_firsts n_joins n_slots n_routes : Nat → Int) : zMv l D k E yX4_offerWays cX4_offerWays 10 { frames := 1, cells := 0, slots := 0, locals := 24 } 0 0 [.inr (some k_a), .inr (some n_a), .inl spot, .inl piece, .inl cost] [(k_a, .inr (.inr (4, [.inr (some k_before_a), .inr (some k_counts_a), .inr (some k_kept_a), .inr (some k_followed_a)]))), (k_before_a, .inl (false, 125, k_before)), (k_counts_a, .inl (false, 125, k_counts)), (k_kept_a, .inl (false, 1500, k_kept)), (k_followed_a, .inl (false, 24, k_followed)), (n_a, .inr (.inr (2, [.inl n_lineLength, .inl n_count, .inr (some n_places_a), .inr (some n_lengths_a), .inr (some n_kinds_a), .inr (some n_costs_a), .inr (some n_words_a), .inr (some n_firsts_a), .inr (some n_joins_a), .inr (some n_slots_a), .inr (some n_routes_a)]))), (n_places_a, .inl (false, 480, n_places)), (n_lengths_a, .inl (false, 480, n_lengths)), (n_kinds_a, .inl (false, 480, n_kinds)), (n_costs_a, .inl (false, 480, n_costs)), (n_words_a, .inl (false, 480, n_words)), (n_firsts_a, .inl (false, 25, n_firsts)), (n_joins_a, .inl (false, 25, n_joins)), (n_slots_a, .inl (false, 28, n_slots)), (n_routes_a, .inl (false, 25, n_routes))] (PB n_places n_lengths n_kinds n_costs ∧ CB k_counts ∧ KB k_kept ∧ 0 ≤ spot ∧ spot < 125 ∧ 0 ≤ piece ∧ piece < 480 ∧ 0 ≤ cost ∧ cost ≤ 792 ∧ n_places piece.toNat = spot / 5 ∧ 1 ≤ n_lengths piece.toNat) (fun z u => ∃ (k_counts' : Nat → Int) (k_kept' : Nat → Int), u = [(k_a, .inr (.inr (4, [.inr (some k_before_a), .inr (some k_counts_a), .inr (some k_kept_a), .inr (some k_followed_a)]))), (k_before_a, .inl (false, 125, k_before)), (k_counts_a, .inl (false, 125, k_counts')), (k_kept_a, .inl (false, 1500, k_kept')), (k_followed_a, .inl (false, 24, k_followed)), (n_a, .inr (.inr (2, [.inl n_lineLength, .inl n_count, .inr (some n_places_a), .inr (some n_lengths_a), .inr (some n_kinds_a), .inr (some n_costs_a), .inr (some n_words_a), .inr (some n_firsts_a), .inr (some n_joins_a), .inr (some n_slots_a), .inr (some n_routes_a)]))), (n_places_a, .inl (false, 480, n_places)), (n_lengths_a, .inl (false, 480, n_lengths)), (n_kinds_a, .inl (false, 480, n_kinds)), (n_costs_a, .inl (false, 480, n_costs)), (n_words_a, .inl (false, 480, n_words)), (n_firsts_a, .inl (false, 25, n_firsts)), (n_joins_a, .inl (false, 25, n_joins)), (n_slots_a, .inl (false, 28, n_slots)), (n_routes_a, .inl (false, 25, n_routes))] ∧ (CB k_counts' ∧ KB k_kept')) := by
  refine zMv.of RX4 hE (by decide) rfl (by simp) ?_
  intro Z hP hav hwr B
  obtain ⟨l_spot, u_spot⟩ : zR spot := hav (.inl spot) (by simp)
  obtain ⟨l_piece, u_piece⟩ : zR piece := hav (.inl piece) (by simp)
  obtain ⟨l_cost, u_cost⟩ : zR cost := hav (.inl cost) (by simp)
  obtain ⟨l_n_lineLength, u_n_lineLength⟩ : zR n_lineLength := zWr_at hwr (i := 5) rfl (.inl n_lineLength) (by simp)
  obtain ⟨l_n_count, u_n_count⟩ : zR n_count := zWr_at hwr (i := 5) rfl (.inl n_count) (by simp)
  obtain ⟨hPB, hC, hK, hw⟩ := hP
  have hp := hPB.at (x := piece) (by omega) (by omega)
  have key : ∀ mu_ : Nat, (∀ (lv : List (Option zV)) (ws : zW), (∃ (d9 : Option zV) (beh : Int) (ways : Int) (tk : Int) (rank : Int) (k_counts : Nat → Int) (k_kept : Nat → Int), lv = [some (.inr (some k_a)), some (.inr (some n_a)), some (.inl spot), some (.inl piece), some (.inl cost), some (.inl beh), some (.inl ways), some (.inl tk), some (.inl rank), d9] ∧ ws = [(k_a, .inr (.inr (4, [.inr (some k_before_a), .inr (some k_counts_a), .inr (some k_kept_a), .inr (some k_followed_a)]))), (k_before_a, .inl (false, 125, k_before)), (k_counts_a, .inl (false, 125, k_counts)), (k_kept_a, .inl (false, 1500, k_kept)), (k_followed_a, .inl (false, 24, k_followed)), (n_a, .inr (.inr (2, [.inl n_lineLength, .inl n_count, .inr (some n_places_a), .inr (some n_lengths_a), .inr (some n_kinds_a), .inr (some n_costs_a), .inr (some n_words_a), .inr (some n_firsts_a), .inr (some n_joins_a), .inr (some n_slots_a), .inr (some n_routes_a)]))), (n_places_a, .inl (false, 480, n_places)), (n_lengths_a, .inl (false, 480, n_lengths)), (n_kinds_a, .inl (false, 480, n_kinds)), (n_costs_a, .inl (false, 480, n_costs)), (n_words_a, .inl (false, 480, n_words)), (n_firsts_a, .inl (false, 25, n_firsts)), (n_joins_a, .inl (false, 25, n_joins)), (n_slots_a, .inl (false, 28, n_slots)), (n_routes_a, .inl (false, 25, n_routes))] ∧ mu_ = (ways - rank).toNat ∧ (beh = (n_places piece.toNat + n_lengths piece.toNat) * 5 + n_kinds piece.toNat ∧ ways ≤ 12 ∧ (tk = 0 ∨ tk = 1) ∧ 0 ≤ rank ∧ rank ≤ ways ∧ CB k_counts ∧ KB k_kept)) → Z 0 0 22 lv [] ws) := by
    intro mu_
    induction mu_ using Nat.strongRecOn with
    | _ mu_ ih =>
      · intro lv ws hJ
        obtain ⟨d9, beh, ways, tk, rank, k_counts, k_kept, rfl, rfl, rfl, hi⟩ := hJ
        obtain ⟨i1, i2, i3, i4, i5, i6, i7⟩ := hi
        refine B.iload (pc := 22) dX4_offerWays_22 rfl ?_
        refine B.iload (pc := 24) dX4_offerWays_24 rfl ?_
        refine B.icmp_ge (pc := 26) (tgt := 83) dX4_offerWays_26 (by decide) (fun c26 => ?_) (fun c26 => ?_)
        · refine B.vreturn (pc := 83) rfl dX4_offerWays_83 (Nat.le_refl _) (Nat.le_refl _) (fun rw => ⟨_, _, rfl, ?_⟩)
          exact ⟨i6, i7⟩
        · refine B.iload (pc := 29) dX4_offerWays_29 rfl ?_
          refine B.if_eq (pc := 31) (tgt := 83) dX4_offerWays_31 (by decide) (fun c31 => ?_) (fun c31 => ?_)
          · refine B.vreturn (pc := 83) rfl dX4_offerWays_83 (Nat.le_refl _) (Nat.le_refl _) (fun rw => ⟨_, _, rfl, ?_⟩)
            exact ⟨i6, i7⟩
          · have hq := i7.at (x := beh * 12 + rank) (by omega) (by omega)
            have hq60 : (beh * 12 + rank) / 60 = n_places piece.toNat + n_lengths piece.toNat := by omega
            rw [hq60] at hq
            have hwh : cost + k_kept (beh * 12 + rank).toNat / 8192 ≤ (24 - spot / 5) * 792 + 99 := by omega
            refine B.iload (pc := 34) dX4_offerWays_34 rfl ?_
            refine B.aload_n (pc := 36) (i := 0) dX4_offerWays_36 rfl rfl ?_
            refine B.getfield (pc := 37) 0 rfl rfl inX4z 2 (by decide) fl_X4_18 rfl dX4_offerWays_37 ?_
            refine B.iload (pc := 40) dX4_offerWays_40 rfl ?_
            refine B.bipush (pc := 42) dX4_offerWays_42 ⟨by decide, by decide⟩ ?_
            refine B.imul (pc := 44) dX4_offerWays_44 ⟨by omega, by omega⟩ ?_
            refine B.iload (pc := 45) dX4_offerWays_45 rfl ?_
            refine B.iadd (pc := 47) dX4_offerWays_47 ⟨by omega, by omega⟩ ?_
            refine B.iaload (pc := 48) 3 rfl (by omega) (by omega) dX4_offerWays_48 (fun r48 => ?_)
            obtain ⟨lr48, ur48⟩ := r48
            refine B.sipush (pc := 49) dX4_offerWays_49 ⟨by decide, by decide⟩ ?_
            refine B.idiv (pc := 52) dX4_offerWays_52 (by omega) (by decide) ?_
            refine B.iadd (pc := 53) dX4_offerWays_53 ⟨by omega, by omega⟩ ?_
            refine B.istore (pc := 54) (i := 9) dX4_offerWays_54 (by decide) ?_
            simp only [List.set_cons_zero, List.set_cons_succ]
            refine B.aload_n (pc := 56) (i := 0) dX4_offerWays_56 rfl rfl ?_
            refine B.iload_n (pc := 57) (i := 2) dX4_offerWays_57 rfl rfl ?_
            refine B.iload (pc := 58) dX4_offerWays_58 rfl ?_
            refine B.sipush (pc := 60) dX4_offerWays_60 ⟨by decide, by decide⟩ ?_
            refine B.imul (pc := 63) dX4_offerWays_63 ⟨by omega, by omega⟩ ?_
            refine B.iload_n (pc := 64) (i := 3) dX4_offerWays_64 rfl rfl ?_
            refine B.bipush (pc := 65) dX4_offerWays_65 ⟨by decide, by decide⟩ ?_
            refine B.imul (pc := 67) dX4_offerWays_67 ⟨by omega, by omega⟩ ?_
            refine B.iadd (pc := 68) dX4_offerWays_68 ⟨by omega, by omega⟩ ?_
            refine B.iload (pc := 69) dX4_offerWays_69 rfl ?_
            refine B.iadd (pc := 71) dX4_offerWays_71 ⟨by omega, by omega⟩ ?_
            refine B.callVi (pc := 72) 2 (mX4_offer hE _ _ _ _ _ _ _ _ _ _ _) 0 rfl rfl ml_X4_64 im_X4_offer se_X4_offer it_X4 co_X4_offer (by decide +kernel) rfl rfl rfl ⟨by decide, by decide⟩ ⟨by decide, by decide⟩ [0, 1, 2, 3, 4] rfl rfl rfl (Nat.le_of_ble_eq_true rfl) dX4_offerWays_72 (fun _ => ⟨i6, i7, by omega, by omega, by omega, by omega, by omega⟩) (fun zk72 uk72 rzk72 ruk72 rak72 hqk72 => ?_)
            obtain ⟨lzk72, uzk72⟩ := rzk72
            obtain ⟨k_counts_k72, k_kept_k72, rfl, hk72⟩ := hqk72
            simp only [zput, List.set_cons_zero, List.set_cons_succ, List.append_nil, Nat.add_zero]
            refine B.istore (pc := 75) (i := 7) dX4_offerWays_75 (by decide) ?_
            simp only [List.set_cons_zero, List.set_cons_succ]
            refine B.iinc (pc := 77) dX4_offerWays_77 (by decide) rfl ⟨by omega, by omega⟩ ?_
            simp only [List.set_cons_zero, List.set_cons_succ]
            refine B.goto (pc := 80) (tgt := 22) dX4_offerWays_80 (by decide) ?_
            refine (ih _ ?_) _ _ ⟨_, _, _, _, _, _, _, rfl, rfl, rfl, ?_⟩
            · omega
            · exact ⟨i1, i2, hk72.1, by omega, by omega, hk72.2.1, hk72.2.2⟩
  show Z 0 0 0 [some (.inr (some k_a)), some (.inr (some n_a)), some (.inl spot), some (.inl piece), some (.inl cost), none, none, none, none, none] [] _
  refine B.aload_n (pc := 0) (i := 1) dX4_offerWays_0 rfl rfl ?_
  refine B.iload_n (pc := 1) (i := 3) dX4_offerWays_1 rfl rfl ?_
  refine B.callSi (pc := 2) 2 (mX4_spotBehind hE _ _ _ _ _ _ _ _ _ _ _ _ _ _ _ _ _ _ _ _ _ _) ml_X4_60 sm_X4_spotBehind it_X4 co_X4_spotBehind (by decide +kernel) rfl rfl rfl ⟨by decide, by decide⟩ ⟨by decide, by decide⟩ [5, 6, 7, 8, 9, 10, 11, 12, 13, 14] rfl rfl rfl (Nat.le_of_ble_eq_true rfl) dX4_offerWays_2 (fun _ => ⟨hPB, by omega, by omega⟩) (fun zk2 uk2 rzk2 ruk2 rak2 hqk2 => ?_)
  obtain ⟨lzk2, uzk2⟩ := rzk2
  obtain ⟨rfl, hk2⟩ := hqk2
  simp only [zput, List.set_cons_zero, List.set_cons_succ, List.append_nil, Nat.add_zero]
  subst hk2
  refine B.istore (pc := 5) (i := 5) dX4_offerWays_5 (by decide) ?_
  simp only [List.set_cons_zero, List.set_cons_succ]
  refine B.aload_n (pc := 7) (i := 0) dX4_offerWays_7 rfl rfl ?_
  refine B.getfield (pc := 8) 0 rfl rfl inX4z 1 (by decide) fl_X4_15 rfl dX4_offerWays_8 ?_
  refine B.iload (pc := 11) dX4_offerWays_11 rfl ?_
  refine B.iaload (pc := 13) 2 rfl (by omega) (by omega) dX4_offerWays_13 (fun r13 => ?_)
  obtain ⟨lr13, ur13⟩ := r13
  refine B.istore (pc := 14) (i := 6) dX4_offerWays_14 (by decide) ?_
  simp only [List.set_cons_zero, List.set_cons_succ]
  refine B.iconst (pc := 16) dX4_offerWays_16 ⟨by decide, by decide⟩ ?_
  refine B.istore (pc := 17) (i := 7) dX4_offerWays_17 (by decide) ?_
  simp only [List.set_cons_zero, List.set_cons_succ]
  refine B.iconst (pc := 19) dX4_offerWays_19 ⟨by decide, by decide⟩ ?_
  refine B.istore (pc := 20) (i := 8) dX4_offerWays_20 (by decide) ?_
  simp only [List.set_cons_zero, List.set_cons_succ]
  refine (key _) _ _ ⟨_, _, _, _, _, _, _, rfl, rfl, rfl, ?_⟩
  have hb := hC.at (x := (n_places piece.toNat + n_lengths piece.toNat) * 5 + n_kinds piece.toNat) (by omega) (by omega)
  exact ⟨rfl, hb.2, by omega, by omega, hb.1, hC, hK⟩
set_option maxHeartbeats 4000000 in
set_option maxRecDepth 100000 in
theorem mX4_rankSpot {l : Launch} {D : va_G} {k : zK} {E : zE} (hE : zEok E) (k_a k_before_a k_counts_a k_kept_a k_followed_a n_a n_places_a n_lengths_a n_kinds_a n_costs_a n_words_a n_firsts_a n_joins_a n_slots_a n_routes_a : Nat) (n_lineLength n_count place kind : Int) (k_before k_counts k_kept k_followed n_places n_lengths n_kinds n_costs n_words n_firsts n_joins n_slots n_routes : Nat → Int) : zMv l D k E yX4_rankSpot cX4_rankSpot 6 { frames := 2, cells := 0, slots := 0, locals := 53 } 0 0 [.inr (some k_a), .inr (some n_a), .inl place, .inl kind] [(k_a, .inr (.inr (4, [.inr (some k_before_a), .inr (some k_counts_a), .inr (some k_kept_a), .inr (some k_followed_a)]))), (k_before_a, .inl (false, 125, k_before)), (k_counts_a, .inl (false, 125, k_counts)), (k_kept_a, .inl (false, 1500, k_kept)), (k_followed_a, .inl (false, 24, k_followed)), (n_a, .inr (.inr (2, [.inl n_lineLength, .inl n_count, .inr (some n_places_a), .inr (some n_lengths_a), .inr (some n_kinds_a), .inr (some n_costs_a), .inr (some n_words_a), .inr (some n_firsts_a), .inr (some n_joins_a), .inr (some n_slots_a), .inr (some n_routes_a)]))), (n_places_a, .inl (false, 480, n_places)), (n_lengths_a, .inl (false, 480, n_lengths)), (n_kinds_a, .inl (false, 480, n_kinds)), (n_costs_a, .inl (false, 480, n_costs)), (n_words_a, .inl (false, 480, n_words)), (n_firsts_a, .inl (false, 25, n_firsts)), (n_joins_a, .inl (false, 25, n_joins)), (n_slots_a, .inl (false, 28, n_slots)), (n_routes_a, .inl (false, 25, n_routes))] (PB n_places n_lengths n_kinds n_costs ∧ FB n_firsts ∧ JB n_joins ∧ NF n_places n_lengths n_firsts n_lineLength ∧ CB k_counts ∧ KB k_kept ∧ 0 ≤ place ∧ place < n_lineLength ∧ n_lineLength ≤ 24 ∧ 0 ≤ kind ∧ kind ≤ 4) (fun z u => ∃ (k_counts' : Nat → Int) (k_kept' : Nat → Int), u = [(k_a, .inr (.inr (4, [.inr (some k_before_a), .inr (some k_counts_a), .inr (some k_kept_a), .inr (some k_followed_a)]))), (k_before_a, .inl (false, 125, k_before)), (k_counts_a, .inl (false, 125, k_counts')), (k_kept_a, .inl (false, 1500, k_kept')), (k_followed_a, .inl (false, 24, k_followed)), (n_a, .inr (.inr (2, [.inl n_lineLength, .inl n_count, .inr (some n_places_a), .inr (some n_lengths_a), .inr (some n_kinds_a), .inr (some n_costs_a), .inr (some n_words_a), .inr (some n_firsts_a), .inr (some n_joins_a), .inr (some n_slots_a), .inr (some n_routes_a)]))), (n_places_a, .inl (false, 480, n_places)), (n_lengths_a, .inl (false, 480, n_lengths)), (n_kinds_a, .inl (false, 480, n_kinds)), (n_costs_a, .inl (false, 480, n_costs)), (n_words_a, .inl (false, 480, n_words)), (n_firsts_a, .inl (false, 25, n_firsts)), (n_joins_a, .inl (false, 25, n_joins)), (n_slots_a, .inl (false, 28, n_slots)), (n_routes_a, .inl (false, 25, n_routes))] ∧ (CB k_counts' ∧ KB k_kept')) := by
  refine zMv.of RX4 hE (by decide) rfl (by simp) ?_
  intro Z hP hav hwr B
  obtain ⟨l_place, u_place⟩ : zR place := hav (.inl place) (by simp)
  obtain ⟨l_kind, u_kind⟩ : zR kind := hav (.inl kind) (by simp)
  obtain ⟨l_n_lineLength, u_n_lineLength⟩ : zR n_lineLength := zWr_at hwr (i := 5) rfl (.inl n_lineLength) (by simp)
  obtain ⟨l_n_count, u_n_count⟩ : zR n_count := zWr_at hwr (i := 5) rfl (.inl n_count) (by simp)
  obtain ⟨hPB, hF, hJ, hNF, hC, hK, hw⟩ := hP
  have hf1 := hF.at (x := place) (by omega) (by omega)
  have hf2 := hF.at (x := place + 1) (by omega) (by omega)
  have key : ∀ mu_ : Nat, (∀ (lv : List (Option zV)) (ws : zW), (∃ (sp : Int) (pi : Int) (k_counts : Nat → Int) (k_kept : Nat → Int), lv = [some (.inr (some k_a)), some (.inr (some n_a)), some (.inl place), some (.inl kind), some (.inl sp), some (.inl pi)] ∧ ws = [(k_a, .inr (.inr (4, [.inr (some k_before_a), .inr (some k_counts_a), .inr (some k_kept_a), .inr (some k_followed_a)]))), (k_before_a, .inl (false, 125, k_before)), (k_counts_a, .inl (false, 125, k_counts)), (k_kept_a, .inl (false, 1500, k_kept)), (k_followed_a, .inl (false, 24, k_followed)), (n_a, .inr (.inr (2, [.inl n_lineLength, .inl n_count, .inr (some n_places_a), .inr (some n_lengths_a), .inr (some n_kinds_a), .inr (some n_costs_a), .inr (some n_words_a), .inr (some n_firsts_a), .inr (some n_joins_a), .inr (some n_slots_a), .inr (some n_routes_a)]))), (n_places_a, .inl (false, 480, n_places)), (n_lengths_a, .inl (false, 480, n_lengths)), (n_kinds_a, .inl (false, 480, n_kinds)), (n_costs_a, .inl (false, 480, n_costs)), (n_words_a, .inl (false, 480, n_words)), (n_firsts_a, .inl (false, 25, n_firsts)), (n_joins_a, .inl (false, 25, n_joins)), (n_slots_a, .inl (false, 28, n_slots)), (n_routes_a, .inl (false, 25, n_routes))] ∧ mu_ = (n_firsts (place + 1).toNat - pi).toNat ∧ (sp = place * 5 + kind ∧ n_firsts place.toNat ≤ pi ∧ 0 ≤ pi ∧ pi ≤ 480 ∧ CB k_counts ∧ KB k_kept)) → Z 0 0 36 lv [] ws) := by
    intro mu_
    induction mu_ using Nat.strongRecOn with
    | _ mu_ ih =>
      · intro lv ws hJ
        obtain ⟨sp, pi, k_counts, k_kept, rfl, rfl, rfl, hi⟩ := hJ
        obtain ⟨i1, i2, i3, i4, i5, i6⟩ := hi
        refine B.iload (pc := 36) dX4_rankSpot_36 rfl ?_
        refine B.aload_n (pc := 38) (i := 1) dX4_rankSpot_38 rfl rfl ?_
        refine B.getfield (pc := 39) 5 rfl rfl inX2z 7 (by decide) fl_X4_46 rfl dX4_rankSpot_39 ?_
        refine B.iload_n (pc := 42) (i := 2) dX4_rankSpot_42 rfl rfl ?_
        refine B.iconst (pc := 43) dX4_rankSpot_43 ⟨by decide, by decide⟩ ?_
        refine B.iadd (pc := 44) dX4_rankSpot_44 ⟨by omega, by omega⟩ ?_
        refine B.iaload (pc := 45) 11 rfl (by omega) (by omega) dX4_rankSpot_45 (fun r45 => ?_)
        obtain ⟨lr45, ur45⟩ := r45
        refine B.icmp_ge (pc := 46) (tgt := 79) dX4_rankSpot_46 (by decide) (fun c46 => ?_) (fun c46 => ?_)
        · refine B.vreturn (pc := 79) rfl dX4_rankSpot_79 (Nat.le_refl _) (Nat.le_refl _) (fun rw => ⟨_, _, rfl, ?_⟩)
          exact ⟨i5, i6⟩
        · have hn := hNF.at (x := pi) (p := place) (by omega) (by omega) (by omega) i2 (by omega)
          have hp := hPB.at (x := pi) (by omega) (by omega)
          refine B.aload_n (pc := 49) (i := 0) dX4_rankSpot_49 rfl rfl ?_
          refine B.aload_n (pc := 50) (i := 1) dX4_rankSpot_50 rfl rfl ?_
          refine B.iload (pc := 51) dX4_rankSpot_51 rfl ?_
          refine B.iload (pc := 53) dX4_rankSpot_53 rfl ?_
          refine B.aload_n (pc := 55) (i := 1) dX4_rankSpot_55 rfl rfl ?_
          refine B.iload_n (pc := 56) (i := 3) dX4_rankSpot_56 rfl rfl ?_
          refine B.iload (pc := 57) dX4_rankSpot_57 rfl ?_
          refine B.callVi (pc := 59) 2 (mX2_joinBefore hE _ _ _ _ _ _ _ _ _ _ _ _ _ _ _ _ _ _ _ _ _ _ _) 5 rfl rfl ml_X4_49 im_X2_joinBefore se_X2_joinBefore it_X2 co_X2_joinBefore (by decide +kernel) rfl rfl rfl ⟨by decide, by decide⟩ ⟨by decide, by decide⟩ [5, 6, 7, 8, 9, 10, 11, 12, 13, 14] rfl rfl rfl (Nat.le_of_ble_eq_true rfl) dX4_rankSpot_59 (fun _ => ⟨hPB, hJ, by omega, by omega, by omega, by omega⟩) (fun zk59 uk59 rzk59 ruk59 rak59 hqk59 => ?_)
          obtain ⟨lzk59, uzk59⟩ := rzk59
          obtain ⟨rfl, hk59⟩ := hqk59
          simp only [zput, List.set_cons_zero, List.set_cons_succ, List.append_nil, Nat.add_zero]
          refine B.aload_n (pc := 62) (i := 1) dX4_rankSpot_62 rfl rfl ?_
          refine B.getfield (pc := 63) 5 rfl rfl inX2z 5 (by decide) fl_X4_53 rfl dX4_rankSpot_63 ?_
          refine B.iload (pc := 66) dX4_rankSpot_66 rfl ?_
          refine B.iaload (pc := 68) 9 rfl (by omega) (by omega) dX4_rankSpot_68 (fun r68 => ?_)
          obtain ⟨lr68, ur68⟩ := r68
          refine B.iadd (pc := 69) dX4_rankSpot_69 ⟨by omega, by omega⟩ ?_
          refine B.callVv (pc := 70) 4 (mX4_offerWays hE _ _ _ _ _ _ _ _ _ _ _ _ _ _ _ _ _ _ _ _ _ _ _ _ _ _ _ _ _ _ _ _ _) 0 rfl rfl ml_X4_56 im_X4_offerWays se_X4_offerWays it_X4 co_X4_offerWays (by decide +kernel) rfl rfl rfl ⟨by decide, by decide⟩ ⟨by decide, by decide⟩ [0, 1, 2, 3, 4, 5, 6, 7, 8, 9, 10, 11, 12, 13, 14] rfl rfl rfl (Nat.le_of_ble_eq_true rfl) dX4_rankSpot_70 (fun _ => ⟨hPB, i5, i6, by omega, by omega, by omega, by omega, by omega, by omega, by omega, hn.2⟩) (fun uk70 ruk70 rak70 hqk70 => ?_)
          obtain ⟨k_counts_k70, k_kept_k70, rfl, hk70⟩ := hqk70
          simp only [zput, List.set_cons_zero, List.set_cons_succ, List.append_nil, Nat.add_zero]
          refine B.iinc (pc := 73) dX4_rankSpot_73 (by decide) rfl ⟨by omega, by omega⟩ ?_
          simp only [List.set_cons_zero, List.set_cons_succ]
          refine B.goto (pc := 76) (tgt := 36) dX4_rankSpot_76 (by decide) ?_
          refine (ih _ ?_) _ _ ⟨_, _, _, _, rfl, rfl, rfl, ?_⟩
          · omega
          · exact ⟨i1, by omega, by omega, by omega, hk70.1, hk70.2⟩
  show Z 0 0 0 [some (.inr (some k_a)), some (.inr (some n_a)), some (.inl place), some (.inl kind), none, none] [] _
  refine B.iload_n (pc := 0) (i := 2) dX4_rankSpot_0 rfl rfl ?_
  refine B.iconst (pc := 1) dX4_rankSpot_1 ⟨by decide, by decide⟩ ?_
  refine B.imul (pc := 2) dX4_rankSpot_2 ⟨by omega, by omega⟩ ?_
  refine B.iload_n (pc := 3) (i := 3) dX4_rankSpot_3 rfl rfl ?_
  refine B.iadd (pc := 4) dX4_rankSpot_4 ⟨by omega, by omega⟩ ?_
  refine B.istore (pc := 5) (i := 4) dX4_rankSpot_5 (by decide) ?_
  simp only [List.set_cons_zero, List.set_cons_succ]
  refine B.aload_n (pc := 7) (i := 0) dX4_rankSpot_7 rfl rfl ?_
  refine B.getfield (pc := 8) 0 rfl rfl inX4z 1 (by decide) fl_X4_15 rfl dX4_rankSpot_8 ?_
  refine B.iload (pc := 11) dX4_rankSpot_11 rfl ?_
  refine B.iconst (pc := 13) dX4_rankSpot_13 ⟨by decide, by decide⟩ ?_
  refine B.iastore (pc := 14) 2 rfl (by omega) (by omega) dX4_rankSpot_14 ?_
  simp only [List.set_cons_zero, List.set_cons_succ]
  refine B.aload_n (pc := 15) (i := 0) dX4_rankSpot_15 rfl rfl ?_
  refine B.getfield (pc := 16) 0 rfl rfl inX4z 0 (by decide) fl_X4_11 rfl dX4_rankSpot_16 ?_
  refine B.iload (pc := 19) dX4_rankSpot_19 rfl ?_
  refine B.iaload (pc := 21) 1 rfl (by omega) (by omega) dX4_rankSpot_21 (fun r21 => ?_)
  obtain ⟨lr21, ur21⟩ := r21
  refine B.ldc (pc := 22) (n := 1000000) dX4_rankSpot_22 cn_X4_45 ⟨by decide, by decide⟩ ?_
  refine B.icmp_lt (pc := 24) (tgt := 28) dX4_rankSpot_24 (by decide) (fun c24 => ?_) (fun c24 => ?_)
  · refine B.aload_n (pc := 28) (i := 1) dX4_rankSpot_28 rfl rfl ?_
    refine B.getfield (pc := 29) 5 rfl rfl inX2z 7 (by decide) fl_X4_46 rfl dX4_rankSpot_29 ?_
    refine B.iload_n (pc := 32) (i := 2) dX4_rankSpot_32 rfl rfl ?_
    refine B.iaload (pc := 33) 11 rfl (by omega) (by omega) dX4_rankSpot_33 (fun r33 => ?_)
    obtain ⟨lr33, ur33⟩ := r33
    refine B.istore (pc := 34) (i := 5) dX4_rankSpot_34 (by decide) ?_
    simp only [List.set_cons_zero, List.set_cons_succ]
    refine (key _) _ _ ⟨_, _, _, _, rfl, rfl, rfl, ?_⟩
    exact ⟨rfl, by omega, by omega, by omega, hC.put _ (by omega), hK⟩
  · refine B.vreturn (pc := 27) rfl dX4_rankSpot_27 (Nat.le_refl _) (Nat.le_refl _) (fun rw => ⟨_, _, rfl, ?_⟩)
    exact ⟨hC.put _ (by omega), hK⟩
set_option maxHeartbeats 4000000 in
set_option maxRecDepth 100000 in
theorem mX4_rankEnds {l : Launch} {D : va_G} {k : zK} {E : zE} (hE : zEok E) (k_a k_before_a k_counts_a k_kept_a k_followed_a n_a n_places_a n_lengths_a n_kinds_a n_costs_a n_words_a n_firsts_a n_joins_a n_slots_a n_routes_a : Nat) (n_lineLength n_count : Int) (k_before k_counts k_kept k_followed n_places n_lengths n_kinds n_costs n_words n_firsts n_joins n_slots n_routes : Nat → Int) : zMv l D k E yX4_rankEnds cX4_rankEnds 4 { frames := 1, cells := 0, slots := 0, locals := 21 } 0 0 [.inr (some k_a), .inr (some n_a)] [(k_a, .inr (.inr (4, [.inr (some k_before_a), .inr (some k_counts_a), .inr (some k_kept_a), .inr (some k_followed_a)]))), (k_before_a, .inl (false, 125, k_before)), (k_counts_a, .inl (false, 125, k_counts)), (k_kept_a, .inl (false, 1500, k_kept)), (k_followed_a, .inl (false, 24, k_followed)), (n_a, .inr (.inr (2, [.inl n_lineLength, .inl n_count, .inr (some n_places_a), .inr (some n_lengths_a), .inr (some n_kinds_a), .inr (some n_costs_a), .inr (some n_words_a), .inr (some n_firsts_a), .inr (some n_joins_a), .inr (some n_slots_a), .inr (some n_routes_a)]))), (n_places_a, .inl (false, 480, n_places)), (n_lengths_a, .inl (false, 480, n_lengths)), (n_kinds_a, .inl (false, 480, n_kinds)), (n_costs_a, .inl (false, 480, n_costs)), (n_words_a, .inl (false, 480, n_words)), (n_firsts_a, .inl (false, 25, n_firsts)), (n_joins_a, .inl (false, 25, n_joins)), (n_slots_a, .inl (false, 28, n_slots)), (n_routes_a, .inl (false, 25, n_routes))] (JB n_joins ∧ 0 ≤ n_lineLength ∧ n_lineLength ≤ 24 ∧ CB k_counts ∧ KB k_kept) (fun z u => ∃ (k_counts' : Nat → Int) (k_kept' : Nat → Int), u = [(k_a, .inr (.inr (4, [.inr (some k_before_a), .inr (some k_counts_a), .inr (some k_kept_a), .inr (some k_followed_a)]))), (k_before_a, .inl (false, 125, k_before)), (k_counts_a, .inl (false, 125, k_counts')), (k_kept_a, .inl (false, 1500, k_kept')), (k_followed_a, .inl (false, 24, k_followed)), (n_a, .inr (.inr (2, [.inl n_lineLength, .inl n_count, .inr (some n_places_a), .inr (some n_lengths_a), .inr (some n_kinds_a), .inr (some n_costs_a), .inr (some n_words_a), .inr (some n_firsts_a), .inr (some n_joins_a), .inr (some n_slots_a), .inr (some n_routes_a)]))), (n_places_a, .inl (false, 480, n_places)), (n_lengths_a, .inl (false, 480, n_lengths)), (n_kinds_a, .inl (false, 480, n_kinds)), (n_costs_a, .inl (false, 480, n_costs)), (n_words_a, .inl (false, 480, n_words)), (n_firsts_a, .inl (false, 25, n_firsts)), (n_joins_a, .inl (false, 25, n_joins)), (n_slots_a, .inl (false, 28, n_slots)), (n_routes_a, .inl (false, 25, n_routes))] ∧ (CB k_counts' ∧ KB k_kept')) := by
  refine zMv.of RX4 hE (by decide) rfl (by simp) ?_
  intro Z hP hav hwr B
  obtain ⟨l_n_lineLength, u_n_lineLength⟩ : zR n_lineLength := zWr_at hwr (i := 5) rfl (.inl n_lineLength) (by simp)
  obtain ⟨l_n_count, u_n_count⟩ : zR n_count := zWr_at hwr (i := 5) rfl (.inl n_count) (by simp)
  obtain ⟨hJ, hl1, hl2, hC, hK⟩ := hP
  have key : ∀ mu_ : Nat, (∀ (lv : List (Option zV)) (ws : zW), (∃ (d3 : Option zV) (kd : Int) (k_counts : Nat → Int) (k_kept : Nat → Int), lv = [some (.inr (some k_a)), some (.inr (some n_a)), some (.inl kd), d3] ∧ ws = [(k_a, .inr (.inr (4, [.inr (some k_before_a), .inr (some k_counts_a), .inr (some k_kept_a), .inr (some k_followed_a)]))), (k_before_a, .inl (false, 125, k_before)), (k_counts_a, .inl (false, 125, k_counts)), (k_kept_a, .inl (false, 1500, k_kept)), (k_followed_a, .inl (false, 24, k_followed)), (n_a, .inr (.inr (2, [.inl n_lineLength, .inl n_count, .inr (some n_places_a), .inr (some n_lengths_a), .inr (some n_kinds_a), .inr (some n_costs_a), .inr (some n_words_a), .inr (some n_firsts_a), .inr (some n_joins_a), .inr (some n_slots_a), .inr (some n_routes_a)]))), (n_places_a, .inl (false, 480, n_places)), (n_lengths_a, .inl (false, 480, n_lengths)), (n_kinds_a, .inl (false, 480, n_kinds)), (n_costs_a, .inl (false, 480, n_costs)), (n_words_a, .inl (false, 480, n_words)), (n_firsts_a, .inl (false, 25, n_firsts)), (n_joins_a, .inl (false, 25, n_joins)), (n_slots_a, .inl (false, 28, n_slots)), (n_routes_a, .inl (false, 25, n_routes))] ∧ mu_ = (4 - kd).toNat ∧ (0 ≤ kd ∧ kd ≤ 4 ∧ CB k_counts ∧ KB k_kept)) → Z 0 0 2 lv [] ws) := by
    intro mu_
    induction mu_ using Nat.strongRecOn with
    | _ mu_ ih =>
      · intro lv ws hJ
        obtain ⟨d3, kd, k_counts, k_kept, rfl, rfl, rfl, hi⟩ := hJ
        obtain ⟨i1, i2, i3, i4⟩ := hi
        refine B.iload_n (pc := 2) (i := 2) dX4_rankEnds_2 rfl rfl ?_
        refine B.iconst (pc := 3) dX4_rankEnds_3 ⟨by decide, by decide⟩ ?_
        refine B.icmp_ge (pc := 4) (tgt := 47) dX4_rankEnds_4 (by decide) (fun c4 => ?_) (fun c4 => ?_)
        · refine B.vreturn (pc := 47) rfl dX4_rankEnds_47 (Nat.le_refl _) (Nat.le_refl _) (fun rw => ⟨_, _, rfl, ?_⟩)
          exact ⟨i3, i4⟩
        · refine B.aload_n (pc := 7) (i := 1) dX4_rankEnds_7 rfl rfl ?_
          refine B.getfield (pc := 8) 5 rfl rfl inX2z 0 (by decide) fl_X4_31 rfl dX4_rankEnds_8 ?_
          refine B.iconst (pc := 11) dX4_rankEnds_11 ⟨by decide, by decide⟩ ?_
          refine B.imul (pc := 12) dX4_rankEnds_12 ⟨by omega, by omega⟩ ?_
          refine B.iload_n (pc := 13) (i := 2) dX4_rankEnds_13 rfl rfl ?_
          refine B.iadd (pc := 14) dX4_rankEnds_14 ⟨by omega, by omega⟩ ?_
          refine B.istore_n (pc := 15) (i := 3) dX4_rankEnds_15 rfl (by decide) ?_
          simp only [List.set_cons_zero, List.set_cons_succ]
          refine B.aload_n (pc := 16) (i := 0) dX4_rankEnds_16 rfl rfl ?_
          refine B.getfield (pc := 17) 0 rfl rfl inX4z 1 (by decide) fl_X4_15 rfl dX4_rankEnds_17 ?_
          refine B.iload_n (pc := 20) (i := 3) dX4_rankEnds_20 rfl rfl ?_
          refine B.iconst (pc := 21) dX4_rankEnds_21 ⟨by decide, by decide⟩ ?_
          refine B.iastore (pc := 22) 2 rfl (by omega) (by omega) dX4_rankEnds_22 ?_
          simp only [List.set_cons_zero, List.set_cons_succ]
          refine B.aload_n (pc := 23) (i := 0) dX4_rankEnds_23 rfl rfl ?_
          refine B.getfield (pc := 24) 0 rfl rfl inX4z 2 (by decide) fl_X4_18 rfl dX4_rankEnds_24 ?_
          refine B.iload_n (pc := 27) (i := 3) dX4_rankEnds_27 rfl rfl ?_
          refine B.bipush (pc := 28) dX4_rankEnds_28 ⟨by decide, by decide⟩ ?_
          refine B.imul (pc := 30) dX4_rankEnds_30 ⟨by omega, by omega⟩ ?_
          refine B.aload_n (pc := 31) (i := 1) dX4_rankEnds_31 rfl rfl ?_
          refine B.iload_n (pc := 32) (i := 2) dX4_rankEnds_32 rfl rfl ?_
          refine B.callVi (pc := 33) 1 (mX2_joinAtEnd hE _ _ _ _ _ _ _ _ _ _ _ _ _ _ _ _ _ _ _ _ _ _) 5 rfl rfl ml_X4_41 im_X2_joinAtEnd se_X2_joinAtEnd it_X2 co_X2_joinAtEnd (by decide +kernel) rfl rfl rfl ⟨by decide, by decide⟩ ⟨by decide, by decide⟩ [5, 6, 7, 8, 9, 10, 11, 12, 13, 14] rfl rfl rfl (Nat.le_of_ble_eq_true rfl) dX4_rankEnds_33 (fun _ => ⟨hJ, by omega, by omega⟩) (fun zk33 uk33 rzk33 ruk33 rak33 hqk33 => ?_)
          obtain ⟨lzk33, uzk33⟩ := rzk33
          obtain ⟨rfl, hk33⟩ := hqk33
          simp only [zput, List.set_cons_zero, List.set_cons_succ, List.append_nil, Nat.add_zero]
          refine B.sipush (pc := 36) dX4_rankEnds_36 ⟨by decide, by decide⟩ ?_
          refine B.imul (pc := 39) dX4_rankEnds_39 ⟨by omega, by omega⟩ ?_
          refine B.iastore (pc := 40) 3 rfl (by omega) (by omega) dX4_rankEnds_40 ?_
          simp only [List.set_cons_zero, List.set_cons_succ]
          refine B.iinc (pc := 41) dX4_rankEnds_41 (by decide) rfl ⟨by omega, by omega⟩ ?_
          simp only [List.set_cons_zero, List.set_cons_succ]
          refine B.goto (pc := 44) (tgt := 2) dX4_rankEnds_44 (by decide) ?_
          refine (ih _ ?_) _ _ ⟨_, _, _, _, rfl, rfl, rfl, ?_⟩
          · omega
          · exact ⟨by omega, by omega, i3.put _ (by omega), i4.put (by omega) (by omega) (by omega) (by omega)⟩
  show Z 0 0 0 [some (.inr (some k_a)), some (.inr (some n_a)), none, none] [] _
  refine B.iconst (pc := 0) dX4_rankEnds_0 ⟨by decide, by decide⟩ ?_
  refine B.istore_n (pc := 1) (i := 2) dX4_rankEnds_1 rfl (by decide) ?_
  simp only [List.set_cons_zero, List.set_cons_succ]
  refine (key _) _ _ ⟨_, _, _, _, rfl, rfl, rfl, ?_⟩
  exact ⟨by omega, by omega, hC, hK⟩
set_option maxHeartbeats 4000000 in
set_option maxRecDepth 100000 in
theorem mX4_leastUpTo {l : Launch} {D : va_G} {k : zK} {E : zE} (hE : zEok E) (k_a k_before_a k_counts_a k_kept_a k_followed_a n_a n_places_a n_lengths_a n_kinds_a n_costs_a n_words_a n_firsts_a n_joins_a n_slots_a n_routes_a : Nat) (n_lineLength n_count piece : Int) (k_before k_counts k_kept k_followed n_places n_lengths n_kinds n_costs n_words n_firsts n_joins n_slots n_routes : Nat → Int) : zMi l D k E yX4_leastUpTo cX4_leastUpTo 6 .int { frames := 1, cells := 0, slots := 0, locals := 22 } 0 0 [.inr (some k_a), .inr (some n_a), .inl piece] [(k_a, .inr (.inr (4, [.inr (some k_before_a), .inr (some k_counts_a), .inr (some k_kept_a), .inr (some k_followed_a)]))), (k_before_a, .inl (false, 125, k_before)), (k_counts_a, .inl (false, 125, k_counts)), (k_kept_a, .inl (false, 1500, k_kept)), (k_followed_a, .inl (false, 24, k_followed)), (n_a, .inr (.inr (2, [.inl n_lineLength, .inl n_count, .inr (some n_places_a), .inr (some n_lengths_a), .inr (some n_kinds_a), .inr (some n_costs_a), .inr (some n_words_a), .inr (some n_firsts_a), .inr (some n_joins_a), .inr (some n_slots_a), .inr (some n_routes_a)]))), (n_places_a, .inl (false, 480, n_places)), (n_lengths_a, .inl (false, 480, n_lengths)), (n_kinds_a, .inl (false, 480, n_kinds)), (n_costs_a, .inl (false, 480, n_costs)), (n_words_a, .inl (false, 480, n_words)), (n_firsts_a, .inl (false, 25, n_firsts)), (n_joins_a, .inl (false, 25, n_joins)), (n_slots_a, .inl (false, 28, n_slots)), (n_routes_a, .inl (false, 25, n_routes))] (PB n_places n_lengths n_kinds n_costs ∧ JB n_joins ∧ 0 ≤ piece ∧ piece < 480) (fun z u => u = [(k_a, .inr (.inr (4, [.inr (some k_before_a), .inr (some k_counts_a), .inr (some k_kept_a), .inr (some k_followed_a)]))), (k_before_a, .inl (false, 125, k_before)), (k_counts_a, .inl (false, 125, k_counts)), (k_kept_a, .inl (false, 1500, k_kept)), (k_followed_a, .inl (false, 24, k_followed)), (n_a, .inr (.inr (2, [.inl n_lineLength, .inl n_count, .inr (some n_places_a), .inr (some n_lengths_a), .inr (some n_kinds_a), .inr (some n_costs_a), .inr (some n_words_a), .inr (some n_firsts_a), .inr (some n_joins_a), .inr (some n_slots_a), .inr (some n_routes_a)]))), (n_places_a, .inl (false, 480, n_places)), (n_lengths_a, .inl (false, 480, n_lengths)), (n_kinds_a, .inl (false, 480, n_kinds)), (n_costs_a, .inl (false, 480, n_costs)), (n_words_a, .inl (false, 480, n_words)), (n_firsts_a, .inl (false, 25, n_firsts)), (n_joins_a, .inl (false, 25, n_joins)), (n_slots_a, .inl (false, 28, n_slots)), (n_routes_a, .inl (false, 25, n_routes))] ∧ (True)) := by
  refine zMi.of RX4 hE (by decide) rfl (by simp) (fun _ _ _ _ => rfl) ?_
  intro Z hP hav hwr B
  obtain ⟨l_piece, u_piece⟩ : zR piece := hav (.inl piece) (by simp)
  obtain ⟨l_n_lineLength, u_n_lineLength⟩ : zR n_lineLength := zWr_at hwr (i := 5) rfl (.inl n_lineLength) (by simp)
  obtain ⟨l_n_count, u_n_count⟩ : zR n_count := zWr_at hwr (i := 5) rfl (.inl n_count) (by simp)
  obtain ⟨hPB, hJ, hpc⟩ := hP
  have hp := hPB.at (x := piece) (by omega) (by omega)
  have key : ∀ mu_ : Nat, (∀ (lv : List (Option zV)) (ws : zW), (∃ (d5 : Option zV) (lt : Int) (kd : Int), lv = [some (.inr (some k_a)), some (.inr (some n_a)), some (.inl piece), some (.inl lt), some (.inl kd), d5] ∧ ws = [(k_a, .inr (.inr (4, [.inr (some k_before_a), .inr (some k_counts_a), .inr (some k_kept_a), .inr (some k_followed_a)]))), (k_before_a, .inl (false, 125, k_before)), (k_counts_a, .inl (false, 125, k_counts)), (k_kept_a, .inl (false, 1500, k_kept)), (k_followed_a, .inl (false, 24, k_followed)), (n_a, .inr (.inr (2, [.inl n_lineLength, .inl n_count, .inr (some n_places_a), .inr (some n_lengths_a), .inr (some n_kinds_a), .inr (some n_costs_a), .inr (some n_words_a), .inr (some n_firsts_a), .inr (some n_joins_a), .inr (some n_slots_a), .inr (some n_routes_a)]))), (n_places_a, .inl (false, 480, n_places)), (n_lengths_a, .inl (false, 480, n_lengths)), (n_kinds_a, .inl (false, 480, n_kinds)), (n_costs_a, .inl (false, 480, n_costs)), (n_words_a, .inl (false, 480, n_words)), (n_firsts_a, .inl (false, 25, n_firsts)), (n_joins_a, .inl (false, 25, n_joins)), (n_slots_a, .inl (false, 28, n_slots)), (n_routes_a, .inl (false, 25, n_routes))] ∧ mu_ = (5 - kd).toNat ∧ (0 ≤ kd ∧ kd ≤ 5)) → Z 0 0 6 lv [] ws) := by
    intro mu_
    induction mu_ using Nat.strongRecOn with
    | _ mu_ ih =>
      · intro lv ws hJ
        obtain ⟨d5, lt, kd, rfl, rfl, rfl, hi⟩ := hJ
        refine B.iload (pc := 6) dX4_leastUpTo_6 rfl ?_
        refine B.iconst (pc := 8) dX4_leastUpTo_8 ⟨by decide, by decide⟩ ?_
        refine B.icmp_ge (pc := 9) (tgt := 51) dX4_leastUpTo_9 (by decide) (fun c9 => ?_) (fun c9 => ?_)
        · refine B.iload_n (pc := 51) (i := 3) dX4_leastUpTo_51 rfl rfl ?_
          refine B.aload_n (pc := 52) (i := 1) dX4_leastUpTo_52 rfl rfl ?_
          refine B.getfield (pc := 53) 5 rfl rfl inX2z 5 (by decide) fl_X4_53 rfl dX4_leastUpTo_53 ?_
          refine B.iload_n (pc := 56) (i := 2) dX4_leastUpTo_56 rfl rfl ?_
          refine B.iaload (pc := 57) 9 rfl (by omega) (by omega) dX4_leastUpTo_57 (fun r57 => ?_)
          obtain ⟨lr57, ur57⟩ := r57
          refine B.iaddw (pc := 58) dX4_leastUpTo_58 (fun w58 rw58 ew58 => ?_)
          obtain ⟨lw58, uw58⟩ := rw58
          refine B.ireturn (pc := 59) (by simp) dX4_leastUpTo_59 (Nat.le_refl _) (Nat.le_refl _) (fun rz rw => ⟨rfl, ?_⟩)
          first | trivial | omega
        · refine B.aload_n (pc := 12) (i := 1) dX4_leastUpTo_12 rfl rfl ?_
          refine B.getfield (pc := 13) 5 rfl rfl inX2z 2 (by decide) fl_X4_68 rfl dX4_leastUpTo_13 ?_
          refine B.iload_n (pc := 16) (i := 2) dX4_leastUpTo_16 rfl rfl ?_
          refine B.iaload (pc := 17) 6 rfl (by omega) (by omega) dX4_leastUpTo_17 (fun r17 => ?_)
          obtain ⟨lr17, ur17⟩ := r17
          refine B.iconst (pc := 18) dX4_leastUpTo_18 ⟨by decide, by decide⟩ ?_
          refine B.imul (pc := 19) dX4_leastUpTo_19 ⟨by omega, by omega⟩ ?_
          refine B.iload (pc := 20) dX4_leastUpTo_20 rfl ?_
          refine B.iadd (pc := 22) dX4_leastUpTo_22 ⟨by omega, by omega⟩ ?_
          refine B.istore (pc := 23) (i := 5) dX4_leastUpTo_23 (by decide) ?_
          simp only [List.set_cons_zero, List.set_cons_succ]
          refine B.iload_n (pc := 25) (i := 3) dX4_leastUpTo_25 rfl rfl ?_
          refine B.aload_n (pc := 26) (i := 0) dX4_leastUpTo_26 rfl rfl ?_
          refine B.getfield (pc := 27) 0 rfl rfl inX4z 0 (by decide) fl_X4_11 rfl dX4_leastUpTo_27 ?_
          refine B.iload (pc := 30) dX4_leastUpTo_30 rfl ?_
          refine B.iaload (pc := 32) 1 rfl (by omega) (by omega) dX4_leastUpTo_32 (fun r32 => ?_)
          obtain ⟨lr32, ur32⟩ := r32
          refine B.aload_n (pc := 33) (i := 1) dX4_leastUpTo_33 rfl rfl ?_
          refine B.iload (pc := 34) dX4_leastUpTo_34 rfl ?_
          refine B.iload_n (pc := 36) (i := 2) dX4_leastUpTo_36 rfl rfl ?_
          refine B.callVi (pc := 37) 2 (mX2_joinBefore hE _ _ _ _ _ _ _ _ _ _ _ _ _ _ _ _ _ _ _ _ _ _ _) 5 rfl rfl ml_X4_49 im_X2_joinBefore se_X2_joinBefore it_X2 co_X2_joinBefore (by decide +kernel) rfl rfl rfl ⟨by decide, by decide⟩ ⟨by decide, by decide⟩ [5, 6, 7, 8, 9, 10, 11, 12, 13, 14] rfl rfl rfl (Nat.le_of_ble_eq_true rfl) dX4_leastUpTo_37 (fun _ => ⟨hPB, hJ, by omega, by omega, by omega, by omega⟩) (fun zk37 uk37 rzk37 ruk37 rak37 hqk37 => ?_)
          obtain ⟨lzk37, uzk37⟩ := rzk37
          obtain ⟨rfl, hk37⟩ := hqk37
          simp only [zput, List.set_cons_zero, List.set_cons_succ, List.append_nil, Nat.add_zero]
          refine B.iaddw (pc := 40) dX4_leastUpTo_40 (fun w40 rw40 ew40 => ?_)
          obtain ⟨lw40, uw40⟩ := rw40
          refine B.mmin (pc := 41) ml_X4_83 sm_J9_min_7cf53 it_J9 co_J9_min_7cf53 (by decide) (Nat.le_of_ble_eq_true rfl) (by decide) (by decide) dX4_leastUpTo_41 (fun w41 rw41 aw41 bw41 ow41 => ?_)
          obtain ⟨lw41, uw41⟩ := rw41
          refine B.istore_n (pc := 44) (i := 3) dX4_leastUpTo_44 rfl (by decide) ?_
          simp only [List.set_cons_zero, List.set_cons_succ]
          refine B.iinc (pc := 45) dX4_leastUpTo_45 (by decide) rfl ⟨by omega, by omega⟩ ?_
          simp only [List.set_cons_zero, List.set_cons_succ]
          refine B.goto (pc := 48) (tgt := 6) dX4_leastUpTo_48 (by decide) ?_
          refine (ih _ ?_) _ _ ⟨_, _, _, rfl, rfl, rfl, ?_⟩
          · omega
          · omega
  show Z 0 0 0 [some (.inr (some k_a)), some (.inr (some n_a)), some (.inl piece), none, none, none] [] _
  refine B.ldc (pc := 0) (n := 1000000) dX4_leastUpTo_0 cn_X4_45 ⟨by decide, by decide⟩ ?_
  refine B.istore_n (pc := 2) (i := 3) dX4_leastUpTo_2 rfl (by decide) ?_
  simp only [List.set_cons_zero, List.set_cons_succ]
  refine B.iconst (pc := 3) dX4_leastUpTo_3 ⟨by decide, by decide⟩ ?_
  refine B.istore (pc := 4) (i := 4) dX4_leastUpTo_4 (by decide) ?_
  simp only [List.set_cons_zero, List.set_cons_succ]
  refine (key _) _ _ ⟨_, _, _, rfl, rfl, rfl, ?_⟩
  omega
set_option maxHeartbeats 4000000 in
set_option maxRecDepth 100000 in
theorem mX4_reachSpots {l : Launch} {D : va_G} {k : zK} {E : zE} (hE : zEok E) (k_a k_before_a k_counts_a k_kept_a k_followed_a n_a n_places_a n_lengths_a n_kinds_a n_costs_a n_words_a n_firsts_a n_joins_a n_slots_a n_routes_a : Nat) (n_lineLength n_count : Int) (k_before k_counts k_kept k_followed n_places n_lengths n_kinds n_costs n_words n_firsts n_joins n_slots n_routes : Nat → Int) : zMv l D k E yX4_reachSpots cX4_reachSpots 4 { frames := 2, cells := 0, slots := 0, locals := 47 } 0 0 [.inr (some k_a), .inr (some n_a)] [(k_a, .inr (.inr (4, [.inr (some k_before_a), .inr (some k_counts_a), .inr (some k_kept_a), .inr (some k_followed_a)]))), (k_before_a, .inl (false, 125, k_before)), (k_counts_a, .inl (false, 125, k_counts)), (k_kept_a, .inl (false, 1500, k_kept)), (k_followed_a, .inl (false, 24, k_followed)), (n_a, .inr (.inr (2, [.inl n_lineLength, .inl n_count, .inr (some n_places_a), .inr (some n_lengths_a), .inr (some n_kinds_a), .inr (some n_costs_a), .inr (some n_words_a), .inr (some n_firsts_a), .inr (some n_joins_a), .inr (some n_slots_a), .inr (some n_routes_a)]))), (n_places_a, .inl (false, 480, n_places)), (n_lengths_a, .inl (false, 480, n_lengths)), (n_kinds_a, .inl (false, 480, n_kinds)), (n_costs_a, .inl (false, 480, n_costs)), (n_words_a, .inl (false, 480, n_words)), (n_firsts_a, .inl (false, 25, n_firsts)), (n_joins_a, .inl (false, 25, n_joins)), (n_slots_a, .inl (false, 28, n_slots)), (n_routes_a, .inl (false, 25, n_routes))] (PB n_places n_lengths n_kinds n_costs ∧ JB n_joins ∧ 0 ≤ n_count ∧ n_count ≤ 480) (fun z u => ∃ (k_before' : Nat → Int), u = [(k_a, .inr (.inr (4, [.inr (some k_before_a), .inr (some k_counts_a), .inr (some k_kept_a), .inr (some k_followed_a)]))), (k_before_a, .inl (false, 125, k_before')), (k_counts_a, .inl (false, 125, k_counts)), (k_kept_a, .inl (false, 1500, k_kept)), (k_followed_a, .inl (false, 24, k_followed)), (n_a, .inr (.inr (2, [.inl n_lineLength, .inl n_count, .inr (some n_places_a), .inr (some n_lengths_a), .inr (some n_kinds_a), .inr (some n_costs_a), .inr (some n_words_a), .inr (some n_firsts_a), .inr (some n_joins_a), .inr (some n_slots_a), .inr (some n_routes_a)]))), (n_places_a, .inl (false, 480, n_places)), (n_lengths_a, .inl (false, 480, n_lengths)), (n_kinds_a, .inl (false, 480, n_kinds)), (n_costs_a, .inl (false, 480, n_costs)), (n_words_a, .inl (false, 480, n_words)), (n_firsts_a, .inl (false, 25, n_firsts)), (n_joins_a, .inl (false, 25, n_joins)), (n_slots_a, .inl (false, 28, n_slots)), (n_routes_a, .inl (false, 25, n_routes))] ∧ (True)) := by
  refine zMv.of RX4 hE (by decide) rfl (by simp) ?_
  intro Z hP hav hwr B
  obtain ⟨l_n_lineLength, u_n_lineLength⟩ : zR n_lineLength := zWr_at hwr (i := 5) rfl (.inl n_lineLength) (by simp)
  obtain ⟨l_n_count, u_n_count⟩ : zR n_count := zWr_at hwr (i := 5) rfl (.inl n_count) (by simp)
  obtain ⟨hPB, hJ, hn⟩ := hP
  have key : ∀ mu_ : Nat, (∀ (lv : List (Option zV)) (ws : zW), (∃ (d3 : Option zV) (s : Int) (k_before : Nat → Int), lv = [some (.inr (some k_a)), some (.inr (some n_a)), some (.inl s), d3] ∧ ws = [(k_a, .inr (.inr (4, [.inr (some k_before_a), .inr (some k_counts_a), .inr (some k_kept_a), .inr (some k_followed_a)]))), (k_before_a, .inl (false, 125, k_before)), (k_counts_a, .inl (false, 125, k_counts)), (k_kept_a, .inl (false, 1500, k_kept)), (k_followed_a, .inl (false, 24, k_followed)), (n_a, .inr (.inr (2, [.inl n_lineLength, .inl n_count, .inr (some n_places_a), .inr (some n_lengths_a), .inr (some n_kinds_a), .inr (some n_costs_a), .inr (some n_words_a), .inr (some n_firsts_a), .inr (some n_joins_a), .inr (some n_slots_a), .inr (some n_routes_a)]))), (n_places_a, .inl (false, 480, n_places)), (n_lengths_a, .inl (false, 480, n_lengths)), (n_kinds_a, .inl (false, 480, n_kinds)), (n_costs_a, .inl (false, 480, n_costs)), (n_words_a, .inl (false, 480, n_words)), (n_firsts_a, .inl (false, 25, n_firsts)), (n_joins_a, .inl (false, 25, n_joins)), (n_slots_a, .inl (false, 28, n_slots)), (n_routes_a, .inl (false, 25, n_routes))] ∧ mu_ = (125 - s).toNat + 1000 ∧ (0 ≤ s ∧ s ≤ 125)) → Z 0 0 2 lv [] ws) ∧ (∀ (lv : List (Option zV)) (ws : zW), (∃ (d3 : Option zV) (s : Int) (k_before : Nat → Int), lv = [some (.inr (some k_a)), some (.inr (some n_a)), some (.inl s), d3] ∧ ws = [(k_a, .inr (.inr (4, [.inr (some k_before_a), .inr (some k_counts_a), .inr (some k_kept_a), .inr (some k_followed_a)]))), (k_before_a, .inl (false, 125, k_before)), (k_counts_a, .inl (false, 125, k_counts)), (k_kept_a, .inl (false, 1500, k_kept)), (k_followed_a, .inl (false, 24, k_followed)), (n_a, .inr (.inr (2, [.inl n_lineLength, .inl n_count, .inr (some n_places_a), .inr (some n_lengths_a), .inr (some n_kinds_a), .inr (some n_costs_a), .inr (some n_words_a), .inr (some n_firsts_a), .inr (some n_joins_a), .inr (some n_slots_a), .inr (some n_routes_a)]))), (n_places_a, .inl (false, 480, n_places)), (n_lengths_a, .inl (false, 480, n_lengths)), (n_kinds_a, .inl (false, 480, n_kinds)), (n_costs_a, .inl (false, 480, n_costs)), (n_words_a, .inl (false, 480, n_words)), (n_firsts_a, .inl (false, 25, n_firsts)), (n_joins_a, .inl (false, 25, n_joins)), (n_slots_a, .inl (false, 28, n_slots)), (n_routes_a, .inl (false, 25, n_routes))] ∧ mu_ = (n_count - s).toNat ∧ (0 ≤ s ∧ s ≤ n_count)) → Z 0 0 31 lv [] ws) := by
    intro mu_
    induction mu_ using Nat.strongRecOn with
    | _ mu_ ih =>
      refine ⟨?_, ?_⟩
      · intro lv ws hJ
        obtain ⟨d3, s, k_before, rfl, rfl, rfl, hi⟩ := hJ
        refine B.iload_n (pc := 2) (i := 2) dX4_reachSpots_2 rfl rfl ?_
        refine B.bipush (pc := 3) dX4_reachSpots_3 ⟨by decide, by decide⟩ ?_
        refine B.icmp_ge (pc := 5) (tgt := 22) dX4_reachSpots_5 (by decide) (fun c5 => ?_) (fun c5 => ?_)
        · refine B.aload_n (pc := 22) (i := 0) dX4_reachSpots_22 rfl rfl ?_
          refine B.getfield (pc := 23) 0 rfl rfl inX4z 0 (by decide) fl_X4_11 rfl dX4_reachSpots_23 ?_
          refine B.iconst (pc := 26) dX4_reachSpots_26 ⟨by decide, by decide⟩ ?_
          refine B.iconst (pc := 27) dX4_reachSpots_27 ⟨by decide, by decide⟩ ?_
          refine B.iastore (pc := 28) 1 rfl (by omega) (by omega) dX4_reachSpots_28 ?_
          simp only [List.set_cons_zero, List.set_cons_succ]
          refine B.iconst (pc := 29) dX4_reachSpots_29 ⟨by decide, by decide⟩ ?_
          refine B.istore_n (pc := 30) (i := 2) dX4_reachSpots_30 rfl (by decide) ?_
          simp only [List.set_cons_zero, List.set_cons_succ]
          refine (ih _ ?_).2 _ _ ⟨_, _, _, rfl, rfl, rfl, ?_⟩
          · omega
          · omega
        · refine B.aload_n (pc := 8) (i := 0) dX4_reachSpots_8 rfl rfl ?_
          refine B.getfield (pc := 9) 0 rfl rfl inX4z 0 (by decide) fl_X4_11 rfl dX4_reachSpots_9 ?_
          refine B.iload_n (pc := 12) (i := 2) dX4_reachSpots_12 rfl rfl ?_
          refine B.ldc (pc := 13) (n := 1000000) dX4_reachSpots_13 cn_X4_45 ⟨by decide, by decide⟩ ?_
          refine B.iastore (pc := 15) 1 rfl (by omega) (by omega) dX4_reachSpots_15 ?_
          simp only [List.set_cons_zero, List.set_cons_succ]
          refine B.iinc (pc := 16) dX4_reachSpots_16 (by decide) rfl ⟨by omega, by omega⟩ ?_
          simp only [List.set_cons_zero, List.set_cons_succ]
          refine B.goto (pc := 19) (tgt := 2) dX4_reachSpots_19 (by decide) ?_
          refine (ih _ ?_).1 _ _ ⟨_, _, _, rfl, rfl, rfl, ?_⟩
          · omega
          · omega
      · intro lv ws hJ
        obtain ⟨d3, s, k_before, rfl, rfl, rfl, hi⟩ := hJ
        refine B.iload_n (pc := 31) (i := 2) dX4_reachSpots_31 rfl rfl ?_
        refine B.aload_n (pc := 32) (i := 1) dX4_reachSpots_32 rfl rfl ?_
        refine B.getfield (pc := 33) 5 rfl rfl inX2z 1 (by decide) fl_X4_77 rfl dX4_reachSpots_33 ?_
        refine B.icmp_ge (pc := 36) (tgt := 72) dX4_reachSpots_36 (by decide) (fun c36 => ?_) (fun c36 => ?_)
        · refine B.vreturn (pc := 72) rfl dX4_reachSpots_72 (Nat.le_refl _) (Nat.le_refl _) (fun rw => ⟨_, rfl, ?_⟩)
          first | trivial | omega
        · have hp := hPB.at (x := s) (by omega) (by omega)
          refine B.aload_n (pc := 39) (i := 1) dX4_reachSpots_39 rfl rfl ?_
          refine B.iload_n (pc := 40) (i := 2) dX4_reachSpots_40 rfl rfl ?_
          refine B.callSi (pc := 41) 2 (mX4_spotBehind hE _ _ _ _ _ _ _ _ _ _ _ _ _ _ _ _ _ _ _ _ _ _) ml_X4_60 sm_X4_spotBehind it_X4 co_X4_spotBehind (by decide +kernel) rfl rfl rfl ⟨by decide, by decide⟩ ⟨by decide, by decide⟩ [5, 6, 7, 8, 9, 10, 11, 12, 13, 14] rfl rfl rfl (Nat.le_of_ble_eq_true rfl) dX4_reachSpots_41 (fun _ => ⟨hPB, by omega, by omega⟩) (fun zk41 uk41 rzk41 ruk41 rak41 hqk41 => ?_)
          obtain ⟨lzk41, uzk41⟩ := rzk41
          obtain ⟨rfl, hk41⟩ := hqk41
          simp only [zput, List.set_cons_zero, List.set_cons_succ, List.append_nil, Nat.add_zero]
          refine B.istore_n (pc := 44) (i := 3) dX4_reachSpots_44 rfl (by decide) ?_
          simp only [List.set_cons_zero, List.set_cons_succ]
          refine B.aload_n (pc := 45) (i := 0) dX4_reachSpots_45 rfl rfl ?_
          refine B.getfield (pc := 46) 0 rfl rfl inX4z 0 (by decide) fl_X4_11 rfl dX4_reachSpots_46 ?_
          refine B.iload_n (pc := 49) (i := 3) dX4_reachSpots_49 rfl rfl ?_
          refine B.aload_n (pc := 50) (i := 0) dX4_reachSpots_50 rfl rfl ?_
          refine B.getfield (pc := 51) 0 rfl rfl inX4z 0 (by decide) fl_X4_11 rfl dX4_reachSpots_51 ?_
          refine B.iload_n (pc := 54) (i := 3) dX4_reachSpots_54 rfl rfl ?_
          refine B.iaload (pc := 55) 1 rfl (by omega) (by omega) dX4_reachSpots_55 (fun r55 => ?_)
          obtain ⟨lr55, ur55⟩ := r55
          refine B.aload_n (pc := 56) (i := 0) dX4_reachSpots_56 rfl rfl ?_
          refine B.aload_n (pc := 57) (i := 1) dX4_reachSpots_57 rfl rfl ?_
          refine B.iload_n (pc := 58) (i := 2) dX4_reachSpots_58 rfl rfl ?_
          refine B.callVi (pc := 59) 2 (mX4_leastUpTo hE _ _ _ _ _ _ _ _ _ _ _ _ _ _ _ _ _ _ _ _ _ _ _ _ _ _ _ _ _ _ _) 0 rfl rfl ml_X4_80 im_X4_leastUpTo se_X4_leastUpTo it_X4 co_X4_leastUpTo (by decide +kernel) rfl rfl rfl ⟨by decide, by decide⟩ ⟨by decide, by decide⟩ [0, 1, 2, 3, 4, 5, 6, 7, 8, 9, 10, 11, 12, 13, 14] rfl rfl rfl (Nat.le_of_ble_eq_true rfl) dX4_reachSpots_59 (fun _ => ⟨hPB, hJ, by omega, by omega⟩) (fun zk59 uk59 rzk59 ruk59 rak59 hqk59 => ?_)
          obtain ⟨lzk59, uzk59⟩ := rzk59
          obtain ⟨rfl, hk59⟩ := hqk59
          simp only [zput, List.set_cons_zero, List.set_cons_succ, List.append_nil, Nat.add_zero]
          refine B.mmin (pc := 62) ml_X4_83 sm_J9_min_7cf53 it_J9 co_J9_min_7cf53 (by decide) (Nat.le_of_ble_eq_true rfl) (by decide) (by decide) dX4_reachSpots_62 (fun w62 rw62 aw62 bw62 ow62 => ?_)
          obtain ⟨lw62, uw62⟩ := rw62
          refine B.iastore (pc := 65) 1 rfl (by omega) (by omega) dX4_reachSpots_65 ?_
          simp only [List.set_cons_zero, List.set_cons_succ]
          refine B.iinc (pc := 66) dX4_reachSpots_66 (by decide) rfl ⟨by omega, by omega⟩ ?_
          simp only [List.set_cons_zero, List.set_cons_succ]
          refine B.goto (pc := 69) (tgt := 31) dX4_reachSpots_69 (by decide) ?_
          refine (ih _ ?_).2 _ _ ⟨_, _, _, rfl, rfl, rfl, ?_⟩
          · omega
          · omega
  show Z 0 0 0 [some (.inr (some k_a)), some (.inr (some n_a)), none, none] [] _
  refine B.iconst (pc := 0) dX4_reachSpots_0 ⟨by decide, by decide⟩ ?_
  refine B.istore_n (pc := 1) (i := 2) dX4_reachSpots_1 rfl (by decide) ?_
  simp only [List.set_cons_zero, List.set_cons_succ]
  refine (key _).1 _ _ ⟨_, _, _, rfl, rfl, rfl, ?_⟩
  omega
set_option maxHeartbeats 4000000 in
set_option maxRecDepth 100000 in
theorem mX4_make {l : Launch} {D : va_G} {k : zK} {E : zE} (hE : zEok E) (k_a k_before_a k_counts_a k_kept_a k_followed_a n_a n_places_a n_lengths_a n_kinds_a n_costs_a n_words_a n_firsts_a n_joins_a n_slots_a n_routes_a : Nat) (n_lineLength n_count : Int) (k_before k_counts k_kept k_followed n_places n_lengths n_kinds n_costs n_words n_firsts n_joins n_slots n_routes : Nat → Int) : zMv l D k E yX4_make cX4_make 4 { frames := 3, cells := 0, slots := 0, locals := 78 } 0 0 [.inr (some k_a), .inr (some n_a)] [(k_a, .inr (.inr (4, [.inr (some k_before_a), .inr (some k_counts_a), .inr (some k_kept_a), .inr (some k_followed_a)]))), (k_before_a, .inl (false, 125, k_before)), (k_counts_a, .inl (false, 125, k_counts)), (k_kept_a, .inl (false, 1500, k_kept)), (k_followed_a, .inl (false, 24, k_followed)), (n_a, .inr (.inr (2, [.inl n_lineLength, .inl n_count, .inr (some n_places_a), .inr (some n_lengths_a), .inr (some n_kinds_a), .inr (some n_costs_a), .inr (some n_words_a), .inr (some n_firsts_a), .inr (some n_joins_a), .inr (some n_slots_a), .inr (some n_routes_a)]))), (n_places_a, .inl (false, 480, n_places)), (n_lengths_a, .inl (false, 480, n_lengths)), (n_kinds_a, .inl (false, 480, n_kinds)), (n_costs_a, .inl (false, 480, n_costs)), (n_words_a, .inl (false, 480, n_words)), (n_firsts_a, .inl (false, 25, n_firsts)), (n_joins_a, .inl (false, 25, n_joins)), (n_slots_a, .inl (false, 28, n_slots)), (n_routes_a, .inl (false, 25, n_routes))] (PB n_places n_lengths n_kinds n_costs ∧ FB n_firsts ∧ JB n_joins ∧ NF n_places n_lengths n_firsts n_lineLength ∧ 0 ≤ n_count ∧ n_count ≤ 480 ∧ 1 ≤ n_lineLength ∧ n_lineLength ≤ 24 ∧ CB k_counts ∧ KB k_kept) (fun z u => ∃ (k_before' : Nat → Int) (k_counts' : Nat → Int) (k_kept' : Nat → Int), u = [(k_a, .inr (.inr (4, [.inr (some k_before_a), .inr (some k_counts_a), .inr (some k_kept_a), .inr (some k_followed_a)]))), (k_before_a, .inl (false, 125, k_before')), (k_counts_a, .inl (false, 125, k_counts')), (k_kept_a, .inl (false, 1500, k_kept')), (k_followed_a, .inl (false, 24, k_followed)), (n_a, .inr (.inr (2, [.inl n_lineLength, .inl n_count, .inr (some n_places_a), .inr (some n_lengths_a), .inr (some n_kinds_a), .inr (some n_costs_a), .inr (some n_words_a), .inr (some n_firsts_a), .inr (some n_joins_a), .inr (some n_slots_a), .inr (some n_routes_a)]))), (n_places_a, .inl (false, 480, n_places)), (n_lengths_a, .inl (false, 480, n_lengths)), (n_kinds_a, .inl (false, 480, n_kinds)), (n_costs_a, .inl (false, 480, n_costs)), (n_words_a, .inl (false, 480, n_words)), (n_firsts_a, .inl (false, 25, n_firsts)), (n_joins_a, .inl (false, 25, n_joins)), (n_slots_a, .inl (false, 28, n_slots)), (n_routes_a, .inl (false, 25, n_routes))] ∧ (CB k_counts' ∧ KB k_kept')) := by
  refine zMv.of RX4 hE (by decide) rfl (by simp) ?_
  intro Z hP hav hwr B
  obtain ⟨l_n_lineLength, u_n_lineLength⟩ : zR n_lineLength := zWr_at hwr (i := 5) rfl (.inl n_lineLength) (by simp)
  obtain ⟨l_n_count, u_n_count⟩ : zR n_count := zWr_at hwr (i := 5) rfl (.inl n_count) (by simp)
  obtain ⟨hPB, hF, hJ, hNF, hc1, hc2, hl1, hl2, hC, hK⟩ := hP
  have key : ∀ mu_ : Nat, (∀ (lv : List (Option zV)) (ws : zW), (∃ (d3 : Option zV) (pl : Int) (k_before : Nat → Int) (k_counts : Nat → Int) (k_kept : Nat → Int), lv = [some (.inr (some k_a)), some (.inr (some n_a)), some (.inl pl), d3] ∧ ws = [(k_a, .inr (.inr (4, [.inr (some k_before_a), .inr (some k_counts_a), .inr (some k_kept_a), .inr (some k_followed_a)]))), (k_before_a, .inl (false, 125, k_before)), (k_counts_a, .inl (false, 125, k_counts)), (k_kept_a, .inl (false, 1500, k_kept)), (k_followed_a, .inl (false, 24, k_followed)), (n_a, .inr (.inr (2, [.inl n_lineLength, .inl n_count, .inr (some n_places_a), .inr (some n_lengths_a), .inr (some n_kinds_a), .inr (some n_costs_a), .inr (some n_words_a), .inr (some n_firsts_a), .inr (some n_joins_a), .inr (some n_slots_a), .inr (some n_routes_a)]))), (n_places_a, .inl (false, 480, n_places)), (n_lengths_a, .inl (false, 480, n_lengths)), (n_kinds_a, .inl (false, 480, n_kinds)), (n_costs_a, .inl (false, 480, n_costs)), (n_words_a, .inl (false, 480, n_words)), (n_firsts_a, .inl (false, 25, n_firsts)), (n_joins_a, .inl (false, 25, n_joins)), (n_slots_a, .inl (false, 28, n_slots)), (n_routes_a, .inl (false, 25, n_routes))] ∧ mu_ = (pl + 1).toNat * 10 + 9 ∧ (0 ≤ pl ∧ pl < n_lineLength ∧ CB k_counts ∧ KB k_kept)) → Z 0 0 17 lv [] ws) ∧ (∀ (lv : List (Option zV)) (ws : zW), (∃ (pl : Int) (kd : Int) (k_before : Nat → Int) (k_counts : Nat → Int) (k_kept : Nat → Int), lv = [some (.inr (some k_a)), some (.inr (some n_a)), some (.inl pl), some (.inl kd)] ∧ ws = [(k_a, .inr (.inr (4, [.inr (some k_before_a), .inr (some k_counts_a), .inr (some k_kept_a), .inr (some k_followed_a)]))), (k_before_a, .inl (false, 125, k_before)), (k_counts_a, .inl (false, 125, k_counts)), (k_kept_a, .inl (false, 1500, k_kept)), (k_followed_a, .inl (false, 24, k_followed)), (n_a, .inr (.inr (2, [.inl n_lineLength, .inl n_count, .inr (some n_places_a), .inr (some n_lengths_a), .inr (some n_kinds_a), .inr (some n_costs_a), .inr (some n_words_a), .inr (some n_firsts_a), .inr (some n_joins_a), .inr (some n_slots_a), .inr (some n_routes_a)]))), (n_places_a, .inl (false, 480, n_places)), (n_lengths_a, .inl (false, 480, n_lengths)), (n_kinds_a, .inl (false, 480, n_kinds)), (n_costs_a, .inl (false, 480, n_costs)), (n_words_a, .inl (false, 480, n_words)), (n_firsts_a, .inl (false, 25, n_firsts)), (n_joins_a, .inl (false, 25, n_joins)), (n_slots_a, .inl (false, 28, n_slots)), (n_routes_a, .inl (false, 25, n_routes))] ∧ mu_ = (pl + 1).toNat * 10 + (4 - kd).toNat ∧ (1 ≤ pl ∧ pl < n_lineLength ∧ 0 ≤ kd ∧ kd ≤ 4 ∧ CB k_counts ∧ KB k_kept)) → Z 0 0 23 lv [] ws) := by
    intro mu_
    induction mu_ using Nat.strongRecOn with
    | _ mu_ ih =>
      refine ⟨?_, ?_⟩
      · intro lv ws hJ
        obtain ⟨d3, pl, k_before, k_counts, k_kept, rfl, rfl, rfl, hi⟩ := hJ
        obtain ⟨i1, i2, i3, i4⟩ := hi
        refine B.iload_n (pc := 17) (i := 2) dX4_make_17 rfl rfl ?_
        refine B.if_le (pc := 18) (tgt := 47) dX4_make_18 (by decide) (fun c18 => ?_) (fun c18 => ?_)
        · refine B.aload_n (pc := 47) (i := 0) dX4_make_47 rfl rfl ?_
          refine B.aload_n (pc := 48) (i := 1) dX4_make_48 rfl rfl ?_
          refine B.iconst (pc := 49) dX4_make_49 ⟨by decide, by decide⟩ ?_
          refine B.iconst (pc := 50) dX4_make_50 ⟨by decide, by decide⟩ ?_
          refine B.callVv (pc := 51) 3 (mX4_rankSpot hE _ _ _ _ _ _ _ _ _ _ _ _ _ _ _ _ _ _ _ _ _ _ _ _ _ _ _ _ _ _ _ _) 0 rfl rfl ml_X4_37 im_X4_rankSpot se_X4_rankSpot it_X4 co_X4_rankSpot (by decide +kernel) rfl rfl rfl ⟨by decide, by decide⟩ ⟨by decide, by decide⟩ [0, 1, 2, 3, 4, 5, 6, 7, 8, 9, 10, 11, 12, 13, 14] rfl rfl rfl (Nat.le_of_ble_eq_true rfl) dX4_make_51 (fun _ => ⟨hPB, hF, hJ, hNF, i3, i4, by omega, by omega, hl2, by omega, by omega⟩) (fun uk51 ruk51 rak51 hqk51 => ?_)
          obtain ⟨k_counts_k51, k_kept_k51, rfl, hk51⟩ := hqk51
          simp only [zput, List.set_cons_zero, List.set_cons_succ, List.append_nil, Nat.add_zero]
          refine B.vreturn (pc := 54) rfl dX4_make_54 (Nat.le_refl _) (Nat.le_refl _) (fun rw => ⟨_, _, _, rfl, ?_⟩)
          exact hk51
        · refine B.iconst (pc := 21) dX4_make_21 ⟨by decide, by decide⟩ ?_
          refine B.istore_n (pc := 22) (i := 3) dX4_make_22 rfl (by decide) ?_
          simp only [List.set_cons_zero, List.set_cons_succ]
          refine (ih _ ?_).2 _ _ ⟨_, _, _, _, _, rfl, rfl, rfl, ?_⟩
          · omega
          · first | exact ⟨by omega, by omega, by omega, by omega, hk32.1, hk32.2⟩ | exact ⟨by omega, by omega, by omega, by omega, i3, i4⟩
      · intro lv ws hJ
        obtain ⟨pl, kd, k_before, k_counts, k_kept, rfl, rfl, rfl, hi⟩ := hJ
        obtain ⟨i1, i2, i3, i3b, i4, i5⟩ := hi
        refine B.iload_n (pc := 23) (i := 3) dX4_make_23 rfl rfl ?_
        refine B.iconst (pc := 24) dX4_make_24 ⟨by decide, by decide⟩ ?_
        refine B.icmp_ge (pc := 25) (tgt := 41) dX4_make_25 (by decide) (fun c25 => ?_) (fun c25 => ?_)
        · refine B.iinc (pc := 41) dX4_make_41 (by decide) rfl ⟨by omega, by omega⟩ ?_
          simp only [List.set_cons_zero, List.set_cons_succ]
          refine B.goto (pc := 44) (tgt := 17) dX4_make_44 (by decide) ?_
          refine (ih _ ?_).1 _ _ ⟨_, _, _, _, _, rfl, rfl, rfl, ?_⟩
          · omega
          · exact ⟨by omega, by omega, i4, i5⟩
        · refine B.aload_n (pc := 28) (i := 0) dX4_make_28 rfl rfl ?_
          refine B.aload_n (pc := 29) (i := 1) dX4_make_29 rfl rfl ?_
          refine B.iload_n (pc := 30) (i := 2) dX4_make_30 rfl rfl ?_
          refine B.iload_n (pc := 31) (i := 3) dX4_make_31 rfl rfl ?_
          refine B.callVv (pc := 32) 3 (mX4_rankSpot hE _ _ _ _ _ _ _ _ _ _ _ _ _ _ _ _ _ _ _ _ _ _ _ _ _ _ _ _ _ _ _ _) 0 rfl rfl ml_X4_37 im_X4_rankSpot se_X4_rankSpot it_X4 co_X4_rankSpot (by decide +kernel) rfl rfl rfl ⟨by decide, by decide⟩ ⟨by decide, by decide⟩ [0, 1, 2, 3, 4, 5, 6, 7, 8, 9, 10, 11, 12, 13, 14] rfl rfl rfl (Nat.le_of_ble_eq_true rfl) dX4_make_32 (fun _ => ⟨hPB, hF, hJ, hNF, i4, i5, by omega, by omega, hl2, by omega, by omega⟩) (fun uk32 ruk32 rak32 hqk32 => ?_)
          obtain ⟨k_counts_k32, k_kept_k32, rfl, hk32⟩ := hqk32
          simp only [zput, List.set_cons_zero, List.set_cons_succ, List.append_nil, Nat.add_zero]
          refine B.iinc (pc := 35) dX4_make_35 (by decide) rfl ⟨by omega, by omega⟩ ?_
          simp only [List.set_cons_zero, List.set_cons_succ]
          refine B.goto (pc := 38) (tgt := 23) dX4_make_38 (by decide) ?_
          refine (ih _ ?_).2 _ _ ⟨_, _, _, _, _, rfl, rfl, rfl, ?_⟩
          · omega
          · first | exact ⟨by omega, by omega, by omega, by omega, hk32.1, hk32.2⟩ | exact ⟨by omega, by omega, by omega, by omega, i3, i4⟩
  show Z 0 0 0 [some (.inr (some k_a)), some (.inr (some n_a)), none, none] [] _
  refine B.aload_n (pc := 0) (i := 0) dX4_make_0 rfl rfl ?_
  refine B.aload_n (pc := 1) (i := 1) dX4_make_1 rfl rfl ?_
  refine B.callVv (pc := 2) 1 (mX4_reachSpots hE _ _ _ _ _ _ _ _ _ _ _ _ _ _ _ _ _ _ _ _ _ _ _ _ _ _ _ _ _ _) 0 rfl rfl ml_X4_24 im_X4_reachSpots se_X4_reachSpots it_X4 co_X4_reachSpots (by decide +kernel) rfl rfl rfl ⟨by decide, by decide⟩ ⟨by decide, by decide⟩ [0, 1, 2, 3, 4, 5, 6, 7, 8, 9, 10, 11, 12, 13, 14] rfl rfl rfl (Nat.le_of_ble_eq_true rfl) dX4_make_2 (fun _ => ⟨hPB, hJ, hc1, hc2⟩) (fun uk2 ruk2 rak2 hqk2 => ?_)
  obtain ⟨k_before_k2, rfl, hk2⟩ := hqk2
  simp only [zput, List.set_cons_zero, List.set_cons_succ, List.append_nil, Nat.add_zero]
  refine B.aload_n (pc := 5) (i := 0) dX4_make_5 rfl rfl ?_
  refine B.aload_n (pc := 6) (i := 1) dX4_make_6 rfl rfl ?_
  refine B.callVv (pc := 7) 1 (mX4_rankEnds hE _ _ _ _ _ _ _ _ _ _ _ _ _ _ _ _ _ _ _ _ _ _ _ _ _ _ _ _ _ _) 0 rfl rfl ml_X4_28 im_X4_rankEnds se_X4_rankEnds it_X4 co_X4_rankEnds (by decide +kernel) rfl rfl rfl ⟨by decide, by decide⟩ ⟨by decide, by decide⟩ [0, 1, 2, 3, 4, 5, 6, 7, 8, 9, 10, 11, 12, 13, 14] rfl rfl rfl (Nat.le_of_ble_eq_true rfl) dX4_make_7 (fun _ => ⟨hJ, by omega, hl2, hC, hK⟩) (fun uk7 ruk7 rak7 hqk7 => ?_)
  obtain ⟨k_counts_k7, k_kept_k7, rfl, hk7⟩ := hqk7
  simp only [zput, List.set_cons_zero, List.set_cons_succ, List.append_nil, Nat.add_zero]
  refine B.aload_n (pc := 10) (i := 1) dX4_make_10 rfl rfl ?_
  refine B.getfield (pc := 11) 5 rfl rfl inX2z 0 (by decide) fl_X4_31 rfl dX4_make_11 ?_
  refine B.iconst (pc := 14) dX4_make_14 ⟨by decide, by decide⟩ ?_
  refine B.isub (pc := 15) dX4_make_15 ⟨by omega, by omega⟩ ?_
  refine B.istore_n (pc := 16) (i := 2) dX4_make_16 rfl (by decide) ?_
  simp only [List.set_cons_zero, List.set_cons_succ]
  refine (key _).1 _ _ ⟨_, _, _, _, _, rfl, rfl, rfl, ?_⟩
  exact ⟨by omega, by omega, hk7.1, hk7.2⟩
set_option maxHeartbeats 4000000 in
set_option maxRecDepth 100000 in
theorem mX4_leastWith {l : Launch} {D : va_G} {k : zK} {E : zE} (hE : zEok E) (k_a k_before_a k_counts_a k_kept_a k_followed_a n_a n_places_a n_lengths_a n_kinds_a n_costs_a n_words_a n_firsts_a n_joins_a n_slots_a n_routes_a : Nat) (n_lineLength n_count piece : Int) (k_before k_counts k_kept k_followed n_places n_lengths n_kinds n_costs n_words n_firsts n_joins n_slots n_routes : Nat → Int) : zMi l D k E yX4_leastWith cX4_leastWith 5 .int { frames := 2, cells := 0, slots := 0, locals := 47 } 0 0 [.inr (some k_a), .inr (some n_a), .inl piece] [(k_a, .inr (.inr (4, [.inr (some k_before_a), .inr (some k_counts_a), .inr (some k_kept_a), .inr (some k_followed_a)]))), (k_before_a, .inl (false, 125, k_before)), (k_counts_a, .inl (false, 125, k_counts)), (k_kept_a, .inl (false, 1500, k_kept)), (k_followed_a, .inl (false, 24, k_followed)), (n_a, .inr (.inr (2, [.inl n_lineLength, .inl n_count, .inr (some n_places_a), .inr (some n_lengths_a), .inr (some n_kinds_a), .inr (some n_costs_a), .inr (some n_words_a), .inr (some n_firsts_a), .inr (some n_joins_a), .inr (some n_slots_a), .inr (some n_routes_a)]))), (n_places_a, .inl (false, 480, n_places)), (n_lengths_a, .inl (false, 480, n_lengths)), (n_kinds_a, .inl (false, 480, n_kinds)), (n_costs_a, .inl (false, 480, n_costs)), (n_words_a, .inl (false, 480, n_words)), (n_firsts_a, .inl (false, 25, n_firsts)), (n_joins_a, .inl (false, 25, n_joins)), (n_slots_a, .inl (false, 28, n_slots)), (n_routes_a, .inl (false, 25, n_routes))] (PB n_places n_lengths n_kinds n_costs ∧ JB n_joins ∧ CB k_counts ∧ KB k_kept ∧ 0 ≤ piece ∧ piece < 480) (fun z u => u = [(k_a, .inr (.inr (4, [.inr (some k_before_a), .inr (some k_counts_a), .inr (some k_kept_a), .inr (some k_followed_a)]))), (k_before_a, .inl (false, 125, k_before)), (k_counts_a, .inl (false, 125, k_counts)), (k_kept_a, .inl (false, 1500, k_kept)), (k_followed_a, .inl (false, 24, k_followed)), (n_a, .inr (.inr (2, [.inl n_lineLength, .inl n_count, .inr (some n_places_a), .inr (some n_lengths_a), .inr (some n_kinds_a), .inr (some n_costs_a), .inr (some n_words_a), .inr (some n_firsts_a), .inr (some n_joins_a), .inr (some n_slots_a), .inr (some n_routes_a)]))), (n_places_a, .inl (false, 480, n_places)), (n_lengths_a, .inl (false, 480, n_lengths)), (n_kinds_a, .inl (false, 480, n_kinds)), (n_costs_a, .inl (false, 480, n_costs)), (n_words_a, .inl (false, 480, n_words)), (n_firsts_a, .inl (false, 25, n_firsts)), (n_joins_a, .inl (false, 25, n_joins)), (n_slots_a, .inl (false, 28, n_slots)), (n_routes_a, .inl (false, 25, n_routes))] ∧ (True)) := by
  refine zMi.of RX4 hE (by decide) rfl (by simp) (fun _ _ _ _ => rfl) ?_
  intro Z hP hav hwr B
  obtain ⟨l_piece, u_piece⟩ : zR piece := hav (.inl piece) (by simp)
  obtain ⟨l_n_lineLength, u_n_lineLength⟩ : zR n_lineLength := zWr_at hwr (i := 5) rfl (.inl n_lineLength) (by simp)
  obtain ⟨l_n_count, u_n_count⟩ : zR n_count := zWr_at hwr (i := 5) rfl (.inl n_count) (by simp)
  obtain ⟨hPB, hJ, hC, hK, hpc⟩ := hP
  have hp := hPB.at (x := piece) (by omega) (by omega)
  show Z 0 0 0 [some (.inr (some k_a)), some (.inr (some n_a)), some (.inl piece), none, none] [] _
  refine B.aload_n (pc := 0) (i := 0) dX4_leastWith_0 rfl rfl ?_
  refine B.aload_n (pc := 1) (i := 1) dX4_leastWith_1 rfl rfl ?_
  refine B.iload_n (pc := 2) (i := 2) dX4_leastWith_2 rfl rfl ?_
  refine B.callVi (pc := 3) 2 (mX4_leastUpTo hE _ _ _ _ _ _ _ _ _ _ _ _ _ _ _ _ _ _ _ _ _ _ _ _ _ _ _ _ _ _ _) 0 rfl rfl ml_X4_80 im_X4_leastUpTo se_X4_leastUpTo it_X4 co_X4_leastUpTo (by decide +kernel) rfl rfl rfl ⟨by decide, by decide⟩ ⟨by decide, by decide⟩ [0, 1, 2, 3, 4, 5, 6, 7, 8, 9, 10, 11, 12, 13, 14] rfl rfl rfl (Nat.le_of_ble_eq_true rfl) dX4_leastWith_3 (fun _ => ⟨hPB, hJ, by omega, by omega⟩) (fun zk3 uk3 rzk3 ruk3 rak3 hqk3 => ?_)
  obtain ⟨lzk3, uzk3⟩ := rzk3
  obtain ⟨rfl, hk3⟩ := hqk3
  simp only [zput, List.set_cons_zero, List.set_cons_succ, List.append_nil, Nat.add_zero]
  refine B.istore_n (pc := 6) (i := 3) dX4_leastWith_6 rfl (by decide) ?_
  simp only [List.set_cons_zero, List.set_cons_succ]
  refine B.aload_n (pc := 7) (i := 1) dX4_leastWith_7 rfl rfl ?_
  refine B.iload_n (pc := 8) (i := 2) dX4_leastWith_8 rfl rfl ?_
  refine B.callSi (pc := 9) 2 (mX4_spotBehind hE _ _ _ _ _ _ _ _ _ _ _ _ _ _ _ _ _ _ _ _ _ _) ml_X4_60 sm_X4_spotBehind it_X4 co_X4_spotBehind (by decide +kernel) rfl rfl rfl ⟨by decide, by decide⟩ ⟨by decide, by decide⟩ [5, 6, 7, 8, 9, 10, 11, 12, 13, 14] rfl rfl rfl (Nat.le_of_ble_eq_true rfl) dX4_leastWith_9 (fun _ => ⟨hPB, by omega, by omega⟩) (fun zk9 uk9 rzk9 ruk9 rak9 hqk9 => ?_)
  obtain ⟨lzk9, uzk9⟩ := rzk9
  obtain ⟨rfl, hk9⟩ := hqk9
  simp only [zput, List.set_cons_zero, List.set_cons_succ, List.append_nil, Nat.add_zero]
  refine B.istore (pc := 12) (i := 4) dX4_leastWith_12 (by decide) ?_
  simp only [List.set_cons_zero, List.set_cons_succ]
  refine B.iload_n (pc := 14) (i := 3) dX4_leastWith_14 rfl rfl ?_
  refine B.ldc (pc := 15) (n := 1000000) dX4_leastWith_15 cn_X4_45 ⟨by decide, by decide⟩ ?_
  refine B.icmp_ge (pc := 17) (tgt := 30) dX4_leastWith_17 (by decide) (fun c17 => ?_) (fun c17 => ?_)
  · refine B.bipush (pc := 30) dX4_leastWith_30 ⟨by decide, by decide⟩ ?_
    refine B.ireturn (pc := 32) (by simp) dX4_leastWith_32 (Nat.le_refl _) (Nat.le_refl _) (fun rz rw => ⟨rfl, ?_⟩)
    first | trivial | omega
  · refine B.aload_n (pc := 20) (i := 0) dX4_leastWith_20 rfl rfl ?_
    refine B.getfield (pc := 21) 0 rfl rfl inX4z 1 (by decide) fl_X4_15 rfl dX4_leastWith_21 ?_
    refine B.iload (pc := 24) dX4_leastWith_24 rfl ?_
    refine B.iaload (pc := 26) 2 rfl (by omega) (by omega) dX4_leastWith_26 (fun r26 => ?_)
    obtain ⟨lr26, ur26⟩ := r26
    refine B.if_ne (pc := 27) (tgt := 33) dX4_leastWith_27 (by decide) (fun c27 => ?_) (fun c27 => ?_)
    · have hq := hK.at (x := zk9 * 12) (by omega) (by omega)
      refine B.iload_n (pc := 33) (i := 3) dX4_leastWith_33 rfl rfl ?_
      refine B.aload_n (pc := 34) (i := 0) dX4_leastWith_34 rfl rfl ?_
      refine B.getfield (pc := 35) 0 rfl rfl inX4z 2 (by decide) fl_X4_18 rfl dX4_leastWith_35 ?_
      refine B.iload (pc := 38) dX4_leastWith_38 rfl ?_
      refine B.bipush (pc := 40) dX4_leastWith_40 ⟨by decide, by decide⟩ ?_
      refine B.imul (pc := 42) dX4_leastWith_42 ⟨by omega, by omega⟩ ?_
      refine B.iaload (pc := 43) 3 rfl (by omega) (by omega) dX4_leastWith_43 (fun r43 => ?_)
      obtain ⟨lr43, ur43⟩ := r43
      refine B.sipush (pc := 44) dX4_leastWith_44 ⟨by decide, by decide⟩ ?_
      refine B.idiv (pc := 47) dX4_leastWith_47 (by omega) (by decide) ?_
      refine B.iaddw (pc := 48) dX4_leastWith_48 (fun w48 rw48 ew48 => ?_)
      obtain ⟨lw48, uw48⟩ := rw48
      refine B.ireturn (pc := 49) (by simp) dX4_leastWith_49 (Nat.le_refl _) (Nat.le_refl _) (fun rz rw => ⟨rfl, ?_⟩)
      first | trivial | omega
    · refine B.bipush (pc := 30) dX4_leastWith_30 ⟨by decide, by decide⟩ ?_
      refine B.ireturn (pc := 32) (by simp) dX4_leastWith_32 (Nat.le_refl _) (Nat.le_refl _) (fun rz rw => ⟨rfl, ?_⟩)
      first | trivial | omega
set_option maxHeartbeats 4000000 in
set_option maxRecDepth 100000 in
theorem mX4_cuttings {l : Launch} {D : va_G} {k : zK} {E : zE} (hE : zEok E) (k_a k_before_a k_counts_a k_kept_a k_followed_a : Nat) (k_before k_counts k_kept k_followed : Nat → Int) : zMi l D k E yX4_cuttings cX4_cuttings 1 .int { frames := 0, cells := 0, slots := 0, locals := 0 } 0 0 [.inr (some k_a)] [(k_a, .inr (.inr (4, [.inr (some k_before_a), .inr (some k_counts_a), .inr (some k_kept_a), .inr (some k_followed_a)]))), (k_before_a, .inl (false, 125, k_before)), (k_counts_a, .inl (false, 125, k_counts)), (k_kept_a, .inl (false, 1500, k_kept)), (k_followed_a, .inl (false, 24, k_followed))] (CB k_counts) (fun z u => u = [(k_a, .inr (.inr (4, [.inr (some k_before_a), .inr (some k_counts_a), .inr (some k_kept_a), .inr (some k_followed_a)]))), (k_before_a, .inl (false, 125, k_before)), (k_counts_a, .inl (false, 125, k_counts)), (k_kept_a, .inl (false, 1500, k_kept)), (k_followed_a, .inl (false, 24, k_followed))] ∧ (0 ≤ z ∧ z ≤ 12)) := by
  refine zMi.of RX4 hE (by decide) rfl (by simp) (fun _ _ _ _ => rfl) ?_
  intro Z hP hav hwr B
  have hc := hP.at (x := 4) (by omega) (by omega)
  show Z 0 0 0 [some (.inr (some k_a))] [] _
  refine B.aload_n (pc := 0) (i := 0) dX4_cuttings_0 rfl rfl ?_
  refine B.getfield (pc := 1) 0 rfl rfl inX4z 1 (by decide) fl_X4_15 rfl dX4_cuttings_1 ?_
  refine B.iconst (pc := 4) dX4_cuttings_4 ⟨by decide, by decide⟩ ?_
  refine B.iaload (pc := 5) 2 rfl (by omega) (by omega) dX4_cuttings_5 (fun r5 => ?_)
  obtain ⟨lr5, ur5⟩ := r5
  refine B.ireturn (pc := 6) (by simp) dX4_cuttings_6 (Nat.le_refl _) (Nat.le_refl _) (fun rz rw => ⟨rfl, ?_⟩)
  exact hc
set_option maxHeartbeats 4000000 in
set_option maxRecDepth 100000 in
theorem mX4_costOf {l : Launch} {D : va_G} {k : zK} {E : zE} (hE : zEok E) (k_a k_before_a k_counts_a k_kept_a k_followed_a : Nat) (i : Int) (k_before k_counts k_kept k_followed : Nat → Int) : zMi l D k E yX4_costOf cX4_costOf 2 .int { frames := 0, cells := 0, slots := 0, locals := 0 } 0 0 [.inr (some k_a), .inl i] [(k_a, .inr (.inr (4, [.inr (some k_before_a), .inr (some k_counts_a), .inr (some k_kept_a), .inr (some k_followed_a)]))), (k_before_a, .inl (false, 125, k_before)), (k_counts_a, .inl (false, 125, k_counts)), (k_kept_a, .inl (false, 1500, k_kept)), (k_followed_a, .inl (false, 24, k_followed))] (KB k_kept ∧ 0 ≤ i ∧ i < 12) (fun z u => u = [(k_a, .inr (.inr (4, [.inr (some k_before_a), .inr (some k_counts_a), .inr (some k_kept_a), .inr (some k_followed_a)]))), (k_before_a, .inl (false, 125, k_before)), (k_counts_a, .inl (false, 125, k_counts)), (k_kept_a, .inl (false, 1500, k_kept)), (k_followed_a, .inl (false, 24, k_followed))] ∧ (True)) := by
  refine zMi.of RX4 hE (by decide) rfl (by simp) (fun _ _ _ _ => rfl) ?_
  intro Z hP hav hwr B
  obtain ⟨l_i, u_i⟩ : zR i := hav (.inl i) (by simp)
  obtain ⟨hK, hi⟩ := hP
  have hq := hK.at (x := 48 + i) (by omega) (by omega)
  show Z 0 0 0 [some (.inr (some k_a)), some (.inl i)] [] _
  refine B.aload_n (pc := 0) (i := 0) dX4_costOf_0 rfl rfl ?_
  refine B.getfield (pc := 1) 0 rfl rfl inX4z 2 (by decide) fl_X4_18 rfl dX4_costOf_1 ?_
  refine B.bipush (pc := 4) dX4_costOf_4 ⟨by decide, by decide⟩ ?_
  refine B.iload_n (pc := 6) (i := 1) dX4_costOf_6 rfl rfl ?_
  refine B.iadd (pc := 7) dX4_costOf_7 ⟨by omega, by omega⟩ ?_
  refine B.iaload (pc := 8) 3 rfl (by omega) (by omega) dX4_costOf_8 (fun r8 => ?_)
  obtain ⟨lr8, ur8⟩ := r8
  refine B.sipush (pc := 9) dX4_costOf_9 ⟨by decide, by decide⟩ ?_
  refine B.idiv (pc := 12) dX4_costOf_12 (by omega) (by decide) ?_
  refine B.ireturn (pc := 13) (by simp) dX4_costOf_13 (Nat.le_refl _) (Nat.le_refl _) (fun rz rw => ⟨rfl, ?_⟩)
  first | trivial | omega
set_option maxHeartbeats 4000000 in
set_option maxRecDepth 100000 in
theorem mX4_follow {l : Launch} {D : va_G} {k : zK} {E : zE} (hE : zEok E) (k_a k_before_a k_counts_a k_kept_a k_followed_a n_a n_places_a n_lengths_a n_kinds_a n_costs_a n_words_a n_firsts_a n_joins_a n_slots_a n_routes_a : Nat) (n_lineLength n_count i : Int) (k_before k_counts k_kept k_followed n_places n_lengths n_kinds n_costs n_words n_firsts n_joins n_slots n_routes : Nat → Int) : zMi l D k E yX4_follow cX4_follow 9 .int { frames := 1, cells := 0, slots := 0, locals := 21 } 0 0 [.inr (some k_a), .inr (some n_a), .inl i] [(k_a, .inr (.inr (4, [.inr (some k_before_a), .inr (some k_counts_a), .inr (some k_kept_a), .inr (some k_followed_a)]))), (k_before_a, .inl (false, 125, k_before)), (k_counts_a, .inl (false, 125, k_counts)), (k_kept_a, .inl (false, 1500, k_kept)), (k_followed_a, .inl (false, 24, k_followed)), (n_a, .inr (.inr (2, [.inl n_lineLength, .inl n_count, .inr (some n_places_a), .inr (some n_lengths_a), .inr (some n_kinds_a), .inr (some n_costs_a), .inr (some n_words_a), .inr (some n_firsts_a), .inr (some n_joins_a), .inr (some n_slots_a), .inr (some n_routes_a)]))), (n_places_a, .inl (false, 480, n_places)), (n_lengths_a, .inl (false, 480, n_lengths)), (n_kinds_a, .inl (false, 480, n_kinds)), (n_costs_a, .inl (false, 480, n_costs)), (n_words_a, .inl (false, 480, n_words)), (n_firsts_a, .inl (false, 25, n_firsts)), (n_joins_a, .inl (false, 25, n_joins)), (n_slots_a, .inl (false, 28, n_slots)), (n_routes_a, .inl (false, 25, n_routes))] (PB n_places n_lengths n_kinds n_costs ∧ KB k_kept ∧ FO k_followed ∧ 0 ≤ n_lineLength ∧ n_lineLength ≤ 24 ∧ 0 ≤ i ∧ i < 12) (fun z u => ∃ (k_followed' : Nat → Int), u = [(k_a, .inr (.inr (4, [.inr (some k_before_a), .inr (some k_counts_a), .inr (some k_kept_a), .inr (some k_followed_a)]))), (k_before_a, .inl (false, 125, k_before)), (k_counts_a, .inl (false, 125, k_counts)), (k_kept_a, .inl (false, 1500, k_kept)), (k_followed_a, .inl (false, 24, k_followed')), (n_a, .inr (.inr (2, [.inl n_lineLength, .inl n_count, .inr (some n_places_a), .inr (some n_lengths_a), .inr (some n_kinds_a), .inr (some n_costs_a), .inr (some n_words_a), .inr (some n_firsts_a), .inr (some n_joins_a), .inr (some n_slots_a), .inr (some n_routes_a)]))), (n_places_a, .inl (false, 480, n_places)), (n_lengths_a, .inl (false, 480, n_lengths)), (n_kinds_a, .inl (false, 480, n_kinds)), (n_costs_a, .inl (false, 480, n_costs)), (n_words_a, .inl (false, 480, n_words)), (n_firsts_a, .inl (false, 25, n_firsts)), (n_joins_a, .inl (false, 25, n_joins)), (n_slots_a, .inl (false, 28, n_slots)), (n_routes_a, .inl (false, 25, n_routes))] ∧ (0 ≤ z ∧ z ≤ 24 ∧ FO k_followed')) := by
  refine zMi.of RX4 hE (by decide) rfl (by simp) (fun _ _ _ _ => rfl) ?_
  intro Z hP hav hwr B
  obtain ⟨l_i, u_i⟩ : zR i := hav (.inl i) (by simp)
  obtain ⟨l_n_lineLength, u_n_lineLength⟩ : zR n_lineLength := zWr_at hwr (i := 5) rfl (.inl n_lineLength) (by simp)
  obtain ⟨l_n_count, u_n_count⟩ : zR n_count := zWr_at hwr (i := 5) rfl (.inl n_count) (by simp)
  obtain ⟨hPB, hK, hFo, hl⟩ := hP
  have key : ∀ mu_ : Nat, (∀ (lv : List (Option zV)) (ws : zW), (∃ (d7 : Option zV) (d8 : Option zV) (en : Int) (cn : Int) (sp : Int) (ra : Int) (k_followed : Nat → Int), lv = [some (.inr (some k_a)), some (.inr (some n_a)), some (.inl i), some (.inl en), some (.inl cn), some (.inl sp), some (.inl ra), d7, d8] ∧ ws = [(k_a, .inr (.inr (4, [.inr (some k_before_a), .inr (some k_counts_a), .inr (some k_kept_a), .inr (some k_followed_a)]))), (k_before_a, .inl (false, 125, k_before)), (k_counts_a, .inl (false, 125, k_counts)), (k_kept_a, .inl (false, 1500, k_kept)), (k_followed_a, .inl (false, 24, k_followed)), (n_a, .inr (.inr (2, [.inl n_lineLength, .inl n_count, .inr (some n_places_a), .inr (some n_lengths_a), .inr (some n_kinds_a), .inr (some n_costs_a), .inr (some n_words_a), .inr (some n_firsts_a), .inr (some n_joins_a), .inr (some n_slots_a), .inr (some n_routes_a)]))), (n_places_a, .inl (false, 480, n_places)), (n_lengths_a, .inl (false, 480, n_lengths)), (n_kinds_a, .inl (false, 480, n_kinds)), (n_costs_a, .inl (false, 480, n_costs)), (n_words_a, .inl (false, 480, n_words)), (n_firsts_a, .inl (false, 25, n_firsts)), (n_joins_a, .inl (false, 25, n_joins)), (n_slots_a, .inl (false, 28, n_slots)), (n_routes_a, .inl (false, 25, n_routes))] ∧ mu_ = (24 - cn).toNat ∧ (en = n_lineLength * 5 ∧ 0 ≤ cn ∧ cn ≤ 24 ∧ 0 ≤ sp ∧ sp ≤ 123 ∧ 0 ≤ ra ∧ ra < 16 ∧ FO k_followed)) → Z 0 0 16 lv [] ws) := by
    intro mu_
    induction mu_ using Nat.strongRecOn with
    | _ mu_ ih =>
      · intro lv ws hJ
        obtain ⟨d7, d8, en, cn, sp, ra, k_followed, rfl, rfl, rfl, hi⟩ := hJ
        obtain ⟨i1, i2, i3, i4, i5, i6, i7, i8⟩ := hi
        refine B.iload (pc := 16) dX4_follow_16 rfl ?_
        refine B.bipush (pc := 18) dX4_follow_18 ⟨by decide, by decide⟩ ?_
        refine B.icmp_ge (pc := 20) (tgt := 85) dX4_follow_20 (by decide) (fun c20 => ?_) (fun c20 => ?_)
        · refine B.iload (pc := 85) dX4_follow_85 rfl ?_
          refine B.ireturn (pc := 87) (by simp) dX4_follow_87 (Nat.le_refl _) (Nat.le_refl _) (fun rz rw => ⟨_, rfl, ?_⟩)
          exact ⟨i2, i3, i8⟩
        · refine B.iload (pc := 23) dX4_follow_23 rfl ?_
          refine B.iload_n (pc := 25) (i := 3) dX4_follow_25 rfl rfl ?_
          refine B.icmp_ge (pc := 26) (tgt := 85) dX4_follow_26 (by decide) (fun c26 => ?_) (fun c26 => ?_)
          · refine B.iload (pc := 85) dX4_follow_85 rfl ?_
            refine B.ireturn (pc := 87) (by simp) dX4_follow_87 (Nat.le_refl _) (Nat.le_refl _) (fun rz rw => ⟨_, rfl, ?_⟩)
            exact ⟨i2, i3, i8⟩
          · have hq := hK.at (x := sp * 12 + ra) (by omega) (by omega)
            have hp := hPB.at (x := k_kept (sp * 12 + ra).toNat / 16 % 512) (by omega) (by omega)
            refine B.aload_n (pc := 29) (i := 0) dX4_follow_29 rfl rfl ?_
            refine B.getfield (pc := 30) 0 rfl rfl inX4z 2 (by decide) fl_X4_18 rfl dX4_follow_30 ?_
            refine B.iload (pc := 33) dX4_follow_33 rfl ?_
            refine B.bipush (pc := 35) dX4_follow_35 ⟨by decide, by decide⟩ ?_
            refine B.imul (pc := 37) dX4_follow_37 ⟨by omega, by omega⟩ ?_
            refine B.iload (pc := 38) dX4_follow_38 rfl ?_
            refine B.iadd (pc := 40) dX4_follow_40 ⟨by omega, by omega⟩ ?_
            refine B.iaload (pc := 41) 3 rfl (by omega) (by omega) dX4_follow_41 (fun r41 => ?_)
            obtain ⟨lr41, ur41⟩ := r41
            refine B.istore (pc := 42) (i := 7) dX4_follow_42 (by decide) ?_
            simp only [List.set_cons_zero, List.set_cons_succ]
            refine B.iload (pc := 44) dX4_follow_44 rfl ?_
            refine B.bipush (pc := 46) dX4_follow_46 ⟨by decide, by decide⟩ ?_
            refine B.idiv (pc := 48) dX4_follow_48 (by omega) (by decide) ?_
            refine B.sipush (pc := 49) dX4_follow_49 ⟨by decide, by decide⟩ ?_
            refine B.irem (pc := 52) dX4_follow_52 (by omega) (by decide) ?_
            refine B.istore (pc := 53) (i := 8) dX4_follow_53 (by decide) ?_
            simp only [List.set_cons_zero, List.set_cons_succ]
            refine B.aload_n (pc := 55) (i := 0) dX4_follow_55 rfl rfl ?_
            refine B.getfield (pc := 56) 0 rfl rfl inX4z 3 (by decide) fl_X4_21 rfl dX4_follow_56 ?_
            refine B.iload (pc := 59) dX4_follow_59 rfl ?_
            refine B.iload (pc := 61) dX4_follow_61 rfl ?_
            refine B.iastore (pc := 63) 4 rfl (by omega) (by omega) dX4_follow_63 ?_
            simp only [List.set_cons_zero, List.set_cons_succ]
            refine B.iinc (pc := 64) dX4_follow_64 (by decide) rfl ⟨by omega, by omega⟩ ?_
            simp only [List.set_cons_zero, List.set_cons_succ]
            refine B.aload_n (pc := 67) (i := 1) dX4_follow_67 rfl rfl ?_
            refine B.iload (pc := 68) dX4_follow_68 rfl ?_
            refine B.callSi (pc := 70) 2 (mX4_spotBehind hE _ _ _ _ _ _ _ _ _ _ _ _ _ _ _ _ _ _ _ _ _ _) ml_X4_60 sm_X4_spotBehind it_X4 co_X4_spotBehind (by decide +kernel) rfl rfl rfl ⟨by decide, by decide⟩ ⟨by decide, by decide⟩ [5, 6, 7, 8, 9, 10, 11, 12, 13, 14] rfl rfl rfl (Nat.le_of_ble_eq_true rfl) dX4_follow_70 (fun _ => ⟨hPB, by omega, by omega⟩) (fun zk70 uk70 rzk70 ruk70 rak70 hqk70 => ?_)
            obtain ⟨lzk70, uzk70⟩ := rzk70
            obtain ⟨rfl, hk70⟩ := hqk70
            simp only [zput, List.set_cons_zero, List.set_cons_succ, List.append_nil, Nat.add_zero]
            refine B.istore (pc := 73) (i := 5) dX4_follow_73 (by decide) ?_
            simp only [List.set_cons_zero, List.set_cons_succ]
            refine B.iload (pc := 75) dX4_follow_75 rfl ?_
            refine B.bipush (pc := 77) dX4_follow_77 ⟨by decide, by decide⟩ ?_
            refine B.irem (pc := 79) dX4_follow_79 (by omega) (by decide) ?_
            refine B.istore (pc := 80) (i := 6) dX4_follow_80 (by decide) ?_
            simp only [List.set_cons_zero, List.set_cons_succ]
            refine B.goto (pc := 82) (tgt := 16) dX4_follow_82 (by decide) ?_
            refine (ih _ ?_) _ _ ⟨_, _, _, _, _, _, _, rfl, rfl, rfl, ?_⟩
            · omega
            · exact ⟨i1, by omega, by omega, by omega, by omega, by omega, by omega, i8.put _ (by omega)⟩
  show Z 0 0 0 [some (.inr (some k_a)), some (.inr (some n_a)), some (.inl i), none, none, none, none, none, none] [] _
  refine B.aload_n (pc := 0) (i := 1) dX4_follow_0 rfl rfl ?_
  refine B.getfield (pc := 1) 5 rfl rfl inX2z 0 (by decide) fl_X4_31 rfl dX4_follow_1 ?_
  refine B.iconst (pc := 4) dX4_follow_4 ⟨by decide, by decide⟩ ?_
  refine B.imul (pc := 5) dX4_follow_5 ⟨by omega, by omega⟩ ?_
  refine B.istore_n (pc := 6) (i := 3) dX4_follow_6 rfl (by decide) ?_
  simp only [List.set_cons_zero, List.set_cons_succ]
  refine B.iconst (pc := 7) dX4_follow_7 ⟨by decide, by decide⟩ ?_
  refine B.istore (pc := 8) (i := 4) dX4_follow_8 (by decide) ?_
  simp only [List.set_cons_zero, List.set_cons_succ]
  refine B.iconst (pc := 10) dX4_follow_10 ⟨by decide, by decide⟩ ?_
  refine B.istore (pc := 11) (i := 5) dX4_follow_11 (by decide) ?_
  simp only [List.set_cons_zero, List.set_cons_succ]
  refine B.iload_n (pc := 13) (i := 2) dX4_follow_13 rfl rfl ?_
  refine B.istore (pc := 14) (i := 6) dX4_follow_14 (by decide) ?_
  simp only [List.set_cons_zero, List.set_cons_succ]
  refine (key _) _ _ ⟨_, _, _, _, _, _, _, rfl, rfl, rfl, ?_⟩
  exact ⟨rfl, by omega, by omega, by omega, by omega, by omega, by omega, hFo⟩
set_option maxHeartbeats 4000000 in
set_option maxRecDepth 100000 in
theorem mX4_surePlaces {l : Launch} {D : va_G} {k : zK} {E : zE} (hE : zEok E) (k_a k_before_a k_counts_a k_kept_a k_followed_a n_a n_places_a n_lengths_a n_kinds_a n_costs_a n_words_a n_firsts_a n_joins_a n_slots_a n_routes_a : Nat) (n_lineLength n_count above : Int) (k_before k_counts k_kept k_followed n_places n_lengths n_kinds n_costs n_words n_firsts n_joins n_slots n_routes : Nat → Int) : zMi l D k E yX4_surePlaces cX4_surePlaces 10 .int { frames := 3, cells := 0, slots := 0, locals := 71 } 0 0 [.inr (some k_a), .inr (some n_a), .inl above] [(k_a, .inr (.inr (4, [.inr (some k_before_a), .inr (some k_counts_a), .inr (some k_kept_a), .inr (some k_followed_a)]))), (k_before_a, .inl (false, 125, k_before)), (k_counts_a, .inl (false, 125, k_counts)), (k_kept_a, .inl (false, 1500, k_kept)), (k_followed_a, .inl (false, 24, k_followed)), (n_a, .inr (.inr (2, [.inl n_lineLength, .inl n_count, .inr (some n_places_a), .inr (some n_lengths_a), .inr (some n_kinds_a), .inr (some n_costs_a), .inr (some n_words_a), .inr (some n_firsts_a), .inr (some n_joins_a), .inr (some n_slots_a), .inr (some n_routes_a)]))), (n_places_a, .inl (false, 480, n_places)), (n_lengths_a, .inl (false, 480, n_lengths)), (n_kinds_a, .inl (false, 480, n_kinds)), (n_costs_a, .inl (false, 480, n_costs)), (n_words_a, .inl (false, 480, n_words)), (n_firsts_a, .inl (false, 25, n_firsts)), (n_joins_a, .inl (false, 25, n_joins)), (n_slots_a, .inl (false, 28, n_slots)), (n_routes_a, .inl (false, 25, n_routes))] (PB n_places n_lengths n_kinds n_costs ∧ JB n_joins ∧ 0 ≤ n_count ∧ n_count ≤ 480 ∧ CB k_counts ∧ KB k_kept) (fun z u => u = [(k_a, .inr (.inr (4, [.inr (some k_before_a), .inr (some k_counts_a), .inr (some k_kept_a), .inr (some k_followed_a)]))), (k_before_a, .inl (false, 125, k_before)), (k_counts_a, .inl (false, 125, k_counts)), (k_kept_a, .inl (false, 1500, k_kept)), (k_followed_a, .inl (false, 24, k_followed)), (n_a, .inr (.inr (2, [.inl n_lineLength, .inl n_count, .inr (some n_places_a), .inr (some n_lengths_a), .inr (some n_kinds_a), .inr (some n_costs_a), .inr (some n_words_a), .inr (some n_firsts_a), .inr (some n_joins_a), .inr (some n_slots_a), .inr (some n_routes_a)]))), (n_places_a, .inl (false, 480, n_places)), (n_lengths_a, .inl (false, 480, n_lengths)), (n_kinds_a, .inl (false, 480, n_kinds)), (n_costs_a, .inl (false, 480, n_costs)), (n_words_a, .inl (false, 480, n_words)), (n_firsts_a, .inl (false, 25, n_firsts)), (n_joins_a, .inl (false, 25, n_joins)), (n_slots_a, .inl (false, 28, n_slots)), (n_routes_a, .inl (false, 25, n_routes))] ∧ (True)) := by
  refine zMi.of RX4 hE (by decide) rfl (by simp) (fun _ _ _ _ => rfl) ?_
  intro Z hP hav hwr B
  obtain ⟨l_above, u_above⟩ : zR above := hav (.inl above) (by simp)
  obtain ⟨l_n_lineLength, u_n_lineLength⟩ : zR n_lineLength := zWr_at hwr (i := 5) rfl (.inl n_lineLength) (by simp)
  obtain ⟨l_n_count, u_n_count⟩ : zR n_count := zWr_at hwr (i := 5) rfl (.inl n_count) (by simp)
  obtain ⟨hPB, hJ, hc1, hc2, hC, hK⟩ := hP
  have key : ∀ mu_ : Nat, (∀ (lv : List (Option zV)) (ws : zW), (∃ (d6 : Option zV) (d7 : Option zV) (d8 : Option zV) (d9 : Option zV) (mo : Int) (bi : Int) (s : Int), lv = [some (.inr (some k_a)), some (.inr (some n_a)), some (.inl above), some (.inl mo), some (.inl bi), some (.inl s), d6, d7, d8, d9] ∧ ws = [(k_a, .inr (.inr (4, [.inr (some k_before_a), .inr (some k_counts_a), .inr (some k_kept_a), .inr (some k_followed_a)]))), (k_before_a, .inl (false, 125, k_before)), (k_counts_a, .inl (false, 125, k_counts)), (k_kept_a, .inl (false, 1500, k_kept)), (k_followed_a, .inl (false, 24, k_followed)), (n_a, .inr (.inr (2, [.inl n_lineLength, .inl n_count, .inr (some n_places_a), .inr (some n_lengths_a), .inr (some n_kinds_a), .inr (some n_costs_a), .inr (some n_words_a), .inr (some n_firsts_a), .inr (some n_joins_a), .inr (some n_slots_a), .inr (some n_routes_a)]))), (n_places_a, .inl (false, 480, n_places)), (n_lengths_a, .inl (false, 480, n_lengths)), (n_kinds_a, .inl (false, 480, n_kinds)), (n_costs_a, .inl (false, 480, n_costs)), (n_words_a, .inl (false, 480, n_words)), (n_firsts_a, .inl (false, 25, n_firsts)), (n_joins_a, .inl (false, 25, n_joins)), (n_slots_a, .inl (false, 28, n_slots)), (n_routes_a, .inl (false, 25, n_routes))] ∧ mu_ = (n_count - s).toNat ∧ (0 ≤ s ∧ s ≤ n_count)) → Z 0 0 21 lv [] ws) := by
    intro mu_
    induction mu_ using Nat.strongRecOn with
    | _ mu_ ih =>
      · intro lv ws hJ
        obtain ⟨d6, d7, d8, d9, mo, bi, s, rfl, rfl, rfl, hi⟩ := hJ
        refine B.iload (pc := 21) dX4_surePlaces_21 rfl ?_
        refine B.aload_n (pc := 23) (i := 1) dX4_surePlaces_23 rfl rfl ?_
        refine B.getfield (pc := 24) 5 rfl rfl inX2z 1 (by decide) fl_X4_77 rfl dX4_surePlaces_24 ?_
        refine B.icmp_ge (pc := 27) (tgt := 101) dX4_surePlaces_27 (by decide) (fun c27 => ?_) (fun c27 => ?_)
        · refine B.iload (pc := 101) dX4_surePlaces_101 rfl ?_
          refine B.ireturn (pc := 103) (by simp) dX4_surePlaces_103 (Nat.le_refl _) (Nat.le_refl _) (fun rz rw => ⟨rfl, ?_⟩)
          first | trivial | omega
        · have hp := hPB.at (x := s) (by omega) (by omega)
          refine B.aload_n (pc := 30) (i := 0) dX4_surePlaces_30 rfl rfl ?_
          refine B.aload_n (pc := 31) (i := 1) dX4_surePlaces_31 rfl rfl ?_
          refine B.iload (pc := 32) dX4_surePlaces_32 rfl ?_
          refine B.callVi (pc := 34) 2 (mX4_leastWith hE _ _ _ _ _ _ _ _ _ _ _ _ _ _ _ _ _ _ _ _ _ _ _ _ _ _ _ _ _ _ _) 0 rfl rfl ml_X4_91 im_X4_leastWith se_X4_leastWith it_X4 co_X4_leastWith (by decide +kernel) rfl rfl rfl ⟨by decide, by decide⟩ ⟨by decide, by decide⟩ [0, 1, 2, 3, 4, 5, 6, 7, 8, 9, 10, 11, 12, 13, 14] rfl rfl rfl (Nat.le_of_ble_eq_true rfl) dX4_surePlaces_34 (fun _ => ⟨hPB, hJ, hC, hK, by omega, by omega⟩) (fun zk34 uk34 rzk34 ruk34 rak34 hqk34 => ?_)
          obtain ⟨lzk34, uzk34⟩ := rzk34
          obtain ⟨rfl, hk34⟩ := hqk34
          simp only [zput, List.set_cons_zero, List.set_cons_succ, List.append_nil, Nat.add_zero]
          refine B.istore (pc := 37) (i := 6) dX4_surePlaces_37 (by decide) ?_
          simp only [List.set_cons_zero, List.set_cons_succ]
          refine B.iload (pc := 39) dX4_surePlaces_39 rfl ?_
          refine B.bipush (pc := 41) dX4_surePlaces_41 ⟨by decide, by decide⟩ ?_
          refine B.icmp_eq (pc := 43) (tgt := 95) dX4_surePlaces_43 (by decide) (fun c43 => ?_) (fun c43 => ?_)
          · refine B.iinc (pc := 95) dX4_surePlaces_95 (by decide) rfl ⟨by omega, by omega⟩ ?_
            simp only [List.set_cons_zero, List.set_cons_succ]
            refine B.goto (pc := 98) (tgt := 21) dX4_surePlaces_98 (by decide) ?_
            refine (ih _ ?_) _ _ ⟨_, _, _, _, _, _, _, rfl, rfl, rfl, ?_⟩
            · omega
            · omega
          · refine B.iload (pc := 46) dX4_surePlaces_46 rfl ?_
            refine B.iload_n (pc := 48) (i := 3) dX4_surePlaces_48 rfl rfl ?_
            refine B.icmp_gt (pc := 49) (tgt := 95) dX4_surePlaces_49 (by decide) (fun c49 => ?_) (fun c49 => ?_)
            · refine B.iinc (pc := 95) dX4_surePlaces_95 (by decide) rfl ⟨by omega, by omega⟩ ?_
              simp only [List.set_cons_zero, List.set_cons_succ]
              refine B.goto (pc := 98) (tgt := 21) dX4_surePlaces_98 (by decide) ?_
              refine (ih _ ?_) _ _ ⟨_, _, _, _, _, _, _, rfl, rfl, rfl, ?_⟩
              · omega
              · omega
            · refine B.aload_n (pc := 52) (i := 1) dX4_surePlaces_52 rfl rfl ?_
              refine B.getfield (pc := 53) 5 rfl rfl inX2z 2 (by decide) fl_X4_68 rfl dX4_surePlaces_53 ?_
              refine B.iload (pc := 56) dX4_surePlaces_56 rfl ?_
              refine B.iaload (pc := 58) 6 rfl (by omega) (by omega) dX4_surePlaces_58 (fun r58 => ?_)
              obtain ⟨lr58, ur58⟩ := r58
              refine B.istore (pc := 59) (i := 7) dX4_surePlaces_59 (by decide) ?_
              simp only [List.set_cons_zero, List.set_cons_succ]
              refine B.iload (pc := 61) dX4_surePlaces_61 rfl ?_
              refine B.aload_n (pc := 63) (i := 1) dX4_surePlaces_63 rfl rfl ?_
              refine B.getfield (pc := 64) 5 rfl rfl inX2z 3 (by decide) fl_X4_71 rfl dX4_surePlaces_64 ?_
              refine B.iload (pc := 67) dX4_surePlaces_67 rfl ?_
              refine B.iaload (pc := 69) 7 rfl (by omega) (by omega) dX4_surePlaces_69 (fun r69 => ?_)
              obtain ⟨lr69, ur69⟩ := r69
              refine B.iadd (pc := 70) dX4_surePlaces_70 ⟨by omega, by omega⟩ ?_
              refine B.istore (pc := 71) (i := 8) dX4_surePlaces_71 (by decide) ?_
              simp only [List.set_cons_zero, List.set_cons_succ]
              refine B.iconst (pc := 73) dX4_surePlaces_73 ⟨by decide, by decide⟩ ?_
              refine B.iload (pc := 74) dX4_surePlaces_74 rfl ?_
              refine B.ishl (pc := 76) dX4_surePlaces_76 (fun w76 rw76 ew76 => ?_)
              refine B.iconst (pc := 77) dX4_surePlaces_77 ⟨by decide, by decide⟩ ?_
              refine B.iload (pc := 78) dX4_surePlaces_78 rfl ?_
              refine B.iconst (pc := 80) dX4_surePlaces_80 ⟨by decide, by decide⟩ ?_
              refine B.iadd (pc := 81) dX4_surePlaces_81 ⟨by omega, by omega⟩ ?_
              refine B.ishl (pc := 82) dX4_surePlaces_82 (fun w82 rw82 ew82 => ?_)
              refine B.isubw (pc := 83) dX4_surePlaces_83 (fun w83 rw83 ew83 => ?_)
              obtain ⟨lw83, uw83⟩ := rw83
              refine B.istore (pc := 84) (i := 9) dX4_surePlaces_84 (by decide) ?_
              simp only [List.set_cons_zero, List.set_cons_succ]
              refine B.iload (pc := 86) dX4_surePlaces_86 rfl ?_
              refine B.iload (pc := 88) dX4_surePlaces_88 rfl ?_
              refine B.iconst (pc := 90) dX4_surePlaces_90 ⟨by decide, by decide⟩ ?_
              refine B.ixor (pc := 91) dX4_surePlaces_91 (fun w91 rw91 ew91 => ?_)
              refine B.iand (pc := 92) dX4_surePlaces_92 (fun w92 rw92 ew92 => ?_)
              refine B.istore (pc := 93) (i := 4) dX4_surePlaces_93 (by decide) ?_
              simp only [List.set_cons_zero, List.set_cons_succ]
              refine B.iinc (pc := 95) dX4_surePlaces_95 (by decide) rfl ⟨by omega, by omega⟩ ?_
              simp only [List.set_cons_zero, List.set_cons_succ]
              refine B.goto (pc := 98) (tgt := 21) dX4_surePlaces_98 (by decide) ?_
              refine (ih _ ?_) _ _ ⟨_, _, _, _, _, _, _, rfl, rfl, rfl, ?_⟩
              · omega
              · omega
  show Z 0 0 0 [some (.inr (some k_a)), some (.inr (some n_a)), some (.inl above), none, none, none, none, none, none, none] [] _
  refine B.aload_n (pc := 0) (i := 0) dX4_surePlaces_0 rfl rfl ?_
  refine B.iconst (pc := 1) dX4_surePlaces_1 ⟨by decide, by decide⟩ ?_
  refine B.callVi (pc := 2) 1 (mX4_costOf hE _ _ _ _ _ _ _ _ _ _) 0 rfl rfl ml_X4_88 im_X4_costOf se_X4_costOf it_X4 co_X4_costOf (by decide +kernel) rfl rfl rfl ⟨by decide, by decide⟩ ⟨by decide, by decide⟩ [0, 1, 2, 3, 4] rfl rfl rfl (Nat.le_of_ble_eq_true rfl) dX4_surePlaces_2 (fun _ => ⟨hK, by omega, by omega⟩) (fun zk2 uk2 rzk2 ruk2 rak2 hqk2 => ?_)
  obtain ⟨lzk2, uzk2⟩ := rzk2
  obtain ⟨rfl, hk2⟩ := hqk2
  simp only [zput, List.set_cons_zero, List.set_cons_succ, List.append_nil, Nat.add_zero]
  refine B.iload_n (pc := 5) (i := 2) dX4_surePlaces_5 rfl rfl ?_
  refine B.iaddw (pc := 6) dX4_surePlaces_6 (fun w6 rw6 ew6 => ?_)
  obtain ⟨lw6, uw6⟩ := rw6
  refine B.istore_n (pc := 7) (i := 3) dX4_surePlaces_7 rfl (by decide) ?_
  simp only [List.set_cons_zero, List.set_cons_succ]
  refine B.iconst (pc := 8) dX4_surePlaces_8 ⟨by decide, by decide⟩ ?_
  refine B.aload_n (pc := 9) (i := 1) dX4_surePlaces_9 rfl rfl ?_
  refine B.getfield (pc := 10) 5 rfl rfl inX2z 0 (by decide) fl_X4_31 rfl dX4_surePlaces_10 ?_
  refine B.ishl (pc := 13) dX4_surePlaces_13 (fun w13 rw13 ew13 => ?_)
  refine B.iconst (pc := 14) dX4_surePlaces_14 ⟨by decide, by decide⟩ ?_
  refine B.isubw (pc := 15) dX4_surePlaces_15 (fun w15 rw15 ew15 => ?_)
  obtain ⟨lw15, uw15⟩ := rw15
  refine B.istore (pc := 16) (i := 4) dX4_surePlaces_16 (by decide) ?_
  simp only [List.set_cons_zero, List.set_cons_succ]
  refine B.iconst (pc := 18) dX4_surePlaces_18 ⟨by decide, by decide⟩ ?_
  refine B.istore (pc := 19) (i := 5) dX4_surePlaces_19 (by decide) ?_
  simp only [List.set_cons_zero, List.set_cons_succ]
  refine (key _) _ _ ⟨_, _, _, _, _, _, _, rfl, rfl, rfl, ?_⟩
  omega
