set_option maxHeartbeats 4000000 in
set_option maxRecDepth 100000 in
theorem mX3_isLetter {l : Launch} {D : va_G} {k : zK} {E : zE} (hE : zEok E) (sg : Int) : zMi l D k E yX3_isLetter cX3_isLetter 1 .boolean { frames := 0, cells := 0, slots := 0, locals := 0 } 0 0 [.inl sg] [] (True) (fun z u => u = [] ∧ ((z = 0 ∨ z = 1) ∧ (z = 1 ↔ 97 ≤ sg ∧ sg ≤ 104))) := by
  refine zMi.of RX3 hE (by decide) rfl (by simp) (fun z u hp hq => ?_) ?_
  · have hz : z = 0 ∨ z = 1 := by obtain ⟨_, hq⟩ := hq; first | exact hq | exact hq.1 | exact Or.inr hq
    rcases hz with rfl | rfl <;> decide
  intro Z hP hav hwr B
  obtain ⟨l_sg, u_sg⟩ : zR sg := hav (.inl sg) (by simp)
  show Z 0 0 0 [some (.inl sg)] [] _
  refine B.iload_n (pc := 0) (i := 0) dX3_isLetter_0 rfl rfl ?_
  refine B.bipush (pc := 1) dX3_isLetter_1 ⟨by decide, by decide⟩ ?_
  refine B.icmp_lt (pc := 3) (tgt := 16) dX3_isLetter_3 (by decide) (fun c3 => ?_) (fun c3 => ?_)
  · refine B.iconst (pc := 16) dX3_isLetter_16 ⟨by decide, by decide⟩ ?_
    refine B.ireturn (pc := 17) (by simp) dX3_isLetter_17 (Nat.le_refl _) (Nat.le_refl _) (fun rz rw => ⟨rfl, ?_⟩)
    omega
  · refine B.iload_n (pc := 6) (i := 0) dX3_isLetter_6 rfl rfl ?_
    refine B.bipush (pc := 7) dX3_isLetter_7 ⟨by decide, by decide⟩ ?_
    refine B.icmp_gt (pc := 9) (tgt := 16) dX3_isLetter_9 (by decide) (fun c9 => ?_) (fun c9 => ?_)
    · refine B.iconst (pc := 16) dX3_isLetter_16 ⟨by decide, by decide⟩ ?_
      refine B.ireturn (pc := 17) (by simp) dX3_isLetter_17 (Nat.le_refl _) (Nat.le_refl _) (fun rz rw => ⟨rfl, ?_⟩)
      omega
    · refine B.iconst (pc := 12) dX3_isLetter_12 ⟨by decide, by decide⟩ ?_
      refine B.goto (pc := 13) (tgt := 17) dX3_isLetter_13 (by decide) ?_
      refine B.ireturn (pc := 17) (by simp) dX3_isLetter_17 (Nat.le_refl _) (Nat.le_refl _) (fun rz rw => ⟨rfl, ?_⟩)
      omega
set_option maxHeartbeats 4000000 in
set_option maxRecDepth 100000 in
theorem mX3_isFigure {l : Launch} {D : va_G} {k : zK} {E : zE} (hE : zEok E) (sg : Int) : zMi l D k E yX3_isFigure cX3_isFigure 1 .boolean { frames := 0, cells := 0, slots := 0, locals := 0 } 0 0 [.inl sg] [] (True) (fun z u => u = [] ∧ ((z = 0 ∨ z = 1) ∧ (z = 1 ↔ 48 ≤ sg ∧ sg ≤ 57))) := by
  refine zMi.of RX3 hE (by decide) rfl (by simp) (fun z u hp hq => ?_) ?_
  · have hz : z = 0 ∨ z = 1 := by obtain ⟨_, hq⟩ := hq; first | exact hq | exact hq.1 | exact Or.inr hq
    rcases hz with rfl | rfl <;> decide
  intro Z hP hav hwr B
  obtain ⟨l_sg, u_sg⟩ : zR sg := hav (.inl sg) (by simp)
  show Z 0 0 0 [some (.inl sg)] [] _
  refine B.iload_n (pc := 0) (i := 0) dX3_isFigure_0 rfl rfl ?_
  refine B.bipush (pc := 1) dX3_isFigure_1 ⟨by decide, by decide⟩ ?_
  refine B.icmp_lt (pc := 3) (tgt := 16) dX3_isFigure_3 (by decide) (fun c3 => ?_) (fun c3 => ?_)
  · refine B.iconst (pc := 16) dX3_isFigure_16 ⟨by decide, by decide⟩ ?_
    refine B.ireturn (pc := 17) (by simp) dX3_isFigure_17 (Nat.le_refl _) (Nat.le_refl _) (fun rz rw => ⟨rfl, ?_⟩)
    omega
  · refine B.iload_n (pc := 6) (i := 0) dX3_isFigure_6 rfl rfl ?_
    refine B.bipush (pc := 7) dX3_isFigure_7 ⟨by decide, by decide⟩ ?_
    refine B.icmp_gt (pc := 9) (tgt := 16) dX3_isFigure_9 (by decide) (fun c9 => ?_) (fun c9 => ?_)
    · refine B.iconst (pc := 16) dX3_isFigure_16 ⟨by decide, by decide⟩ ?_
      refine B.ireturn (pc := 17) (by simp) dX3_isFigure_17 (Nat.le_refl _) (Nat.le_refl _) (fun rz rw => ⟨rfl, ?_⟩)
      omega
    · refine B.iconst (pc := 12) dX3_isFigure_12 ⟨by decide, by decide⟩ ?_
      refine B.goto (pc := 13) (tgt := 17) dX3_isFigure_13 (by decide) ?_
      refine B.ireturn (pc := 17) (by simp) dX3_isFigure_17 (Nat.le_refl _) (Nat.le_refl _) (fun rz rw => ⟨rfl, ?_⟩)
      omega
set_option maxHeartbeats 4000000 in
set_option maxRecDepth 100000 in
theorem mX3_signAt {l : Launch} {D : va_G} {k : zK} {E : zE} (hE : zEok E) (p_a p_signs_a : Nat) (p_count p_letters p_kind p_cost at_ : Int) (p_signs : Nat → Int) : zMi l D k E yX3_signAt cX3_signAt 2 .int { frames := 0, cells := 0, slots := 0, locals := 0 } 0 0 [.inr (some p_a), .inl at_] [(p_a, .inr (.inr (3, [.inr (some p_signs_a), .inl p_count, .inl p_letters, .inl p_kind, .inl p_cost]))), (p_signs_a, .inl (false, 40, p_signs))] (0 ≤ p_count ∧ p_count ≤ 40) (fun z u => u = [(p_a, .inr (.inr (3, [.inr (some p_signs_a), .inl p_count, .inl p_letters, .inl p_kind, .inl p_cost]))), (p_signs_a, .inl (false, 40, p_signs))] ∧ ((0 ≤ at_ → at_ < p_count → z = p_signs at_.toNat) ∧ (at_ < 0 ∨ p_count ≤ at_ → z = 0) ∧ z = sA p_count p_signs at_)) := by
  refine zMi.of RX3 hE (by decide) rfl (by simp) (fun _ _ _ _ => rfl) ?_
  intro Z hP hav hwr B
  obtain ⟨l_at_, u_at_⟩ : zR at_ := hav (.inl at_) (by simp)
  obtain ⟨l_p_count, u_p_count⟩ : zR p_count := zWr_at hwr (i := 0) rfl (.inl p_count) (by simp)
  obtain ⟨l_p_letters, u_p_letters⟩ : zR p_letters := zWr_at hwr (i := 0) rfl (.inl p_letters) (by simp)
  obtain ⟨l_p_kind, u_p_kind⟩ : zR p_kind := zWr_at hwr (i := 0) rfl (.inl p_kind) (by simp)
  obtain ⟨l_p_cost, u_p_cost⟩ : zR p_cost := zWr_at hwr (i := 0) rfl (.inl p_cost) (by simp)
  show Z 0 0 0 [some (.inr (some p_a)), some (.inl at_)] [] _
  refine B.iload_n (pc := 0) (i := 1) dX3_signAt_0 rfl rfl ?_
  refine B.if_lt (pc := 1) (tgt := 27) dX3_signAt_1 (by decide) (fun c1 => ?_) (fun c1 => ?_)
  · refine B.iconst (pc := 27) dX3_signAt_27 ⟨by decide, by decide⟩ ?_
    refine B.ireturn (pc := 28) (by simp) dX3_signAt_28 (Nat.le_refl _) (Nat.le_refl _) (fun rz rw => ⟨rfl, ?_⟩)
    refine ⟨by omega, by omega, ?_⟩
    first | exact (sA_in (by omega) (by omega)).symm | exact (sA_out (by omega)).symm
  · refine B.iload_n (pc := 4) (i := 1) dX3_signAt_4 rfl rfl ?_
    refine B.aload_n (pc := 5) (i := 0) dX3_signAt_5 rfl rfl ?_
    refine B.getfield (pc := 6) 0 rfl rfl inX3z 1 (by decide) fl_X3_15 rfl dX3_signAt_6 ?_
    refine B.icmp_ge (pc := 9) (tgt := 27) dX3_signAt_9 (by decide) (fun c9 => ?_) (fun c9 => ?_)
    · refine B.iconst (pc := 27) dX3_signAt_27 ⟨by decide, by decide⟩ ?_
      refine B.ireturn (pc := 28) (by simp) dX3_signAt_28 (Nat.le_refl _) (Nat.le_refl _) (fun rz rw => ⟨rfl, ?_⟩)
      refine ⟨by omega, by omega, ?_⟩
      first | exact (sA_in (by omega) (by omega)).symm | exact (sA_out (by omega)).symm
    · refine B.iload_n (pc := 12) (i := 1) dX3_signAt_12 rfl rfl ?_
      refine B.bipush (pc := 13) dX3_signAt_13 ⟨by decide, by decide⟩ ?_
      refine B.icmp_ge (pc := 15) (tgt := 27) dX3_signAt_15 (by decide) (fun c15 => ?_) (fun c15 => ?_)
      · refine B.iconst (pc := 27) dX3_signAt_27 ⟨by decide, by decide⟩ ?_
        refine B.ireturn (pc := 28) (by simp) dX3_signAt_28 (Nat.le_refl _) (Nat.le_refl _) (fun rz rw => ⟨rfl, ?_⟩)
        refine ⟨by omega, by omega, ?_⟩
        first | exact (sA_in (by omega) (by omega)).symm | exact (sA_out (by omega)).symm
      · refine B.aload_n (pc := 18) (i := 0) dX3_signAt_18 rfl rfl ?_
        refine B.getfield (pc := 19) 0 rfl rfl inX3z 0 (by decide) fl_X3_9 rfl dX3_signAt_19 ?_
        refine B.iload_n (pc := 22) (i := 1) dX3_signAt_22 rfl rfl ?_
        refine B.iaload (pc := 23) 1 rfl (by omega) (by omega) dX3_signAt_23 (fun r23 => ?_)
        obtain ⟨lr23, ur23⟩ := r23
        refine B.goto (pc := 24) (tgt := 28) dX3_signAt_24 (by decide) ?_
        refine B.ireturn (pc := 28) (by simp) dX3_signAt_28 (Nat.le_refl _) (Nat.le_refl _) (fun rz rw => ⟨rfl, ?_⟩)
        refine ⟨by omega, by omega, ?_⟩
        first | exact (sA_in (by omega) (by omega)).symm | exact (sA_out (by omega)).symm
set_option maxHeartbeats 4000000 in
set_option maxRecDepth 100000 in
theorem mX3_add {l : Launch} {D : va_G} {k : zK} {E : zE} (hE : zEok E) (p_a p_signs_a : Nat) (p_count p_letters p_kind p_cost sg : Int) (p_signs : Nat → Int) : zMi l D k E yX3_add cX3_add 2 .boolean { frames := 0, cells := 0, slots := 0, locals := 0 } 0 0 [.inr (some p_a), .inl sg] [(p_a, .inr (.inr (3, [.inr (some p_signs_a), .inl p_count, .inl p_letters, .inl p_kind, .inl p_cost]))), (p_signs_a, .inl (false, 40, p_signs))] (0 ≤ p_count ∧ p_count ≤ 40) (fun z u => ∃ (p_count' : Int) (p_signs' : Nat → Int), u = [(p_a, .inr (.inr (3, [.inr (some p_signs_a), .inl p_count', .inl p_letters, .inl p_kind, .inl p_cost]))), (p_signs_a, .inl (false, 40, p_signs'))] ∧ ((z = 0 ∨ z = 1) ∧ (p_count = 40 → z = 0 ∧ p_count' = p_count ∧ p_signs' = p_signs) ∧ (p_count ≠ 40 → z = 1 ∧ p_count' = p_count + 1 ∧ p_signs' = zup p_signs p_count.toNat sg))) := by
  refine zMi.of RX3 hE (by decide) rfl (by simp) (fun z u hp hq => ?_) ?_
  · have hz : z = 0 ∨ z = 1 := by obtain ⟨_, _, _, hq⟩ := hq; first | exact hq | exact hq.1 | exact Or.inr hq
    rcases hz with rfl | rfl <;> decide
  intro Z hP hav hwr B
  obtain ⟨l_sg, u_sg⟩ : zR sg := hav (.inl sg) (by simp)
  obtain ⟨l_p_count, u_p_count⟩ : zR p_count := zWr_at hwr (i := 0) rfl (.inl p_count) (by simp)
  obtain ⟨l_p_letters, u_p_letters⟩ : zR p_letters := zWr_at hwr (i := 0) rfl (.inl p_letters) (by simp)
  obtain ⟨l_p_kind, u_p_kind⟩ : zR p_kind := zWr_at hwr (i := 0) rfl (.inl p_kind) (by simp)
  obtain ⟨l_p_cost, u_p_cost⟩ : zR p_cost := zWr_at hwr (i := 0) rfl (.inl p_cost) (by simp)
  show Z 0 0 0 [some (.inr (some p_a)), some (.inl sg)] [] _
  refine B.aload_n (pc := 0) (i := 0) dX3_add_0 rfl rfl ?_
  refine B.getfield (pc := 1) 0 rfl rfl inX3z 1 (by decide) fl_X3_15 rfl dX3_add_1 ?_
  refine B.bipush (pc := 4) dX3_add_4 ⟨by decide, by decide⟩ ?_
  refine B.icmp_lt (pc := 6) (tgt := 11) dX3_add_6 (by decide) (fun c6 => ?_) (fun c6 => ?_)
  · refine B.aload_n (pc := 11) (i := 0) dX3_add_11 rfl rfl ?_
    refine B.getfield (pc := 12) 0 rfl rfl inX3z 0 (by decide) fl_X3_9 rfl dX3_add_12 ?_
    refine B.aload_n (pc := 15) (i := 0) dX3_add_15 rfl rfl ?_
    refine B.getfield (pc := 16) 0 rfl rfl inX3z 1 (by decide) fl_X3_15 rfl dX3_add_16 ?_
    refine B.iload_n (pc := 19) (i := 1) dX3_add_19 rfl rfl ?_
    refine B.iastore (pc := 20) 1 rfl (by omega) (by omega) dX3_add_20 ?_
    simp only [List.set_cons_zero, List.set_cons_succ]
    refine B.aload_n (pc := 21) (i := 0) dX3_add_21 rfl rfl ?_
    refine B.dup (pc := 22) dX3_add_22 ?_
    refine B.getfield (pc := 23) 0 rfl rfl inX3z 1 (by decide) fl_X3_15 rfl dX3_add_23 ?_
    refine B.iconst (pc := 26) dX3_add_26 ⟨by decide, by decide⟩ ?_
    refine B.iadd (pc := 27) dX3_add_27 ⟨by omega, by omega⟩ ?_
    refine B.putfield (pc := 28) 0 rfl rfl inX3z tyX3 tyX3_ok nmX3 1 (by decide) fl_X3_15 rfl rfl rfl (Nat.le_of_ble_eq_true rfl) dX3_add_28 ?_
    simp only [List.set_cons_zero, List.set_cons_succ]
    refine B.iconst (pc := 31) dX3_add_31 ⟨by decide, by decide⟩ ?_
    refine B.ireturn (pc := 32) (by simp) dX3_add_32 (Nat.le_refl _) (Nat.le_refl _) (fun rz rw => ⟨_, _, rfl, ?_⟩)
    exact ⟨Or.inr rfl, fun q => by omega, fun _ => ⟨rfl, rfl, rfl⟩⟩
  · refine B.iconst (pc := 9) dX3_add_9 ⟨by decide, by decide⟩ ?_
    refine B.ireturn (pc := 10) (by simp) dX3_add_10 (Nat.le_refl _) (Nat.le_refl _) (fun rz rw => ⟨_, _, rfl, ?_⟩)
    exact ⟨Or.inl rfl, fun _ => ⟨rfl, rfl, rfl⟩, fun q => by omega⟩
set_option maxHeartbeats 4000000 in
set_option maxRecDepth 100000 in
theorem mX3_clear {l : Launch} {D : va_G} {k : zK} {E : zE} (hE : zEok E) (p_a p_signs_a : Nat) (p_count p_letters p_kind p_cost : Int) (p_signs : Nat → Int) : zMv l D k E yX3_clear cX3_clear 1 { frames := 0, cells := 0, slots := 0, locals := 0 } 0 0 [.inr (some p_a)] [(p_a, .inr (.inr (3, [.inr (some p_signs_a), .inl p_count, .inl p_letters, .inl p_kind, .inl p_cost]))), (p_signs_a, .inl (false, 40, p_signs))] (True) (fun z u => ∃ (p_count' : Int), u = [(p_a, .inr (.inr (3, [.inr (some p_signs_a), .inl p_count', .inl p_letters, .inl p_kind, .inl p_cost]))), (p_signs_a, .inl (false, 40, p_signs))] ∧ (p_count' = 0)) := by
  refine zMv.of RX3 hE (by decide) rfl (by simp) ?_
  intro Z hP hav hwr B
  obtain ⟨l_p_count, u_p_count⟩ : zR p_count := zWr_at hwr (i := 0) rfl (.inl p_count) (by simp)
  obtain ⟨l_p_letters, u_p_letters⟩ : zR p_letters := zWr_at hwr (i := 0) rfl (.inl p_letters) (by simp)
  obtain ⟨l_p_kind, u_p_kind⟩ : zR p_kind := zWr_at hwr (i := 0) rfl (.inl p_kind) (by simp)
  obtain ⟨l_p_cost, u_p_cost⟩ : zR p_cost := zWr_at hwr (i := 0) rfl (.inl p_cost) (by simp)
  show Z 0 0 0 [some (.inr (some p_a))] [] _
  refine B.aload_n (pc := 0) (i := 0) dX3_clear_0 rfl rfl ?_
  refine B.iconst (pc := 1) dX3_clear_1 ⟨by decide, by decide⟩ ?_
  refine B.putfield (pc := 2) 0 rfl rfl inX3z tyX3 tyX3_ok nmX3 1 (by decide) fl_X3_15 rfl rfl rfl (Nat.le_of_ble_eq_true rfl) dX3_clear_2 ?_
  simp only [List.set_cons_zero, List.set_cons_succ]
  refine B.vreturn (pc := 5) rfl dX3_clear_5 (Nat.le_refl _) (Nat.le_refl _) (fun rw => ⟨_, rfl, ?_⟩)
  first | trivial | omega
set_option maxHeartbeats 4000000 in
set_option maxRecDepth 100000 in
theorem mX3_leadingLetters {l : Launch} {D : va_G} {k : zK} {E : zE} (hE : zEok E) (p_a p_signs_a : Nat) (p_count p_letters p_kind p_cost most : Int) (p_signs : Nat → Int) : zMi l D k E yX3_leadingLetters cX3_leadingLetters 3 .int { frames := 1, cells := 0, slots := 0, locals := 21 } 0 0 [.inr (some p_a), .inl most] [(p_a, .inr (.inr (3, [.inr (some p_signs_a), .inl p_count, .inl p_letters, .inl p_kind, .inl p_cost]))), (p_signs_a, .inl (false, 40, p_signs))] (0 ≤ p_count ∧ p_count ≤ 40 ∧ 0 ≤ most ∧ most ≤ 40) (fun z u => u = [(p_a, .inr (.inr (3, [.inr (some p_signs_a), .inl p_count, .inl p_letters, .inl p_kind, .inl p_cost]))), (p_signs_a, .inl (false, 40, p_signs))] ∧ (LD p_count p_signs most z)) := by
  refine zMi.of RX3 hE (by decide) rfl (by simp) (fun _ _ _ _ => rfl) ?_
  intro Z hP hav hwr B
  obtain ⟨l_most, u_most⟩ : zR most := hav (.inl most) (by simp)
  obtain ⟨l_p_count, u_p_count⟩ : zR p_count := zWr_at hwr (i := 0) rfl (.inl p_count) (by simp)
  obtain ⟨l_p_letters, u_p_letters⟩ : zR p_letters := zWr_at hwr (i := 0) rfl (.inl p_letters) (by simp)
  obtain ⟨l_p_kind, u_p_kind⟩ : zR p_kind := zWr_at hwr (i := 0) rfl (.inl p_kind) (by simp)
  obtain ⟨l_p_cost, u_p_cost⟩ : zR p_cost := zWr_at hwr (i := 0) rfl (.inl p_cost) (by simp)
  have key : ∀ mu_ : Nat, (∀ (lv : List (Option zV)) (ws : zW), (∃ (f : Int), lv = [some (.inr (some p_a)), some (.inl most), some (.inl f)] ∧ ws = [(p_a, .inr (.inr (3, [.inr (some p_signs_a), .inl p_count, .inl p_letters, .inl p_kind, .inl p_cost]))), (p_signs_a, .inl (false, 40, p_signs))] ∧ mu_ = (most - f).toNat ∧ (0 ≤ f ∧ f ≤ most ∧ f ≤ p_count ∧ ∀ j : Nat, (j : Int) < f → lt_ (p_signs j))) → Z 0 0 2 lv [] ws) := by
    intro mu_
    induction mu_ using Nat.strongRecOn with
    | _ mu_ ih =>
      · intro lv ws hJ
        obtain ⟨f, rfl, rfl, rfl, hi⟩ := hJ
        obtain ⟨i1, i2, i3, i4⟩ := hi
        refine B.iload_n (pc := 2) (i := 2) dX3_leadingLetters_2 rfl rfl ?_
        refine B.iload_n (pc := 3) (i := 1) dX3_leadingLetters_3 rfl rfl ?_
        refine B.icmp_ge (pc := 4) (tgt := 24) dX3_leadingLetters_4 (by decide) (fun c4 => ?_) (fun c4 => ?_)
        · refine B.iload_n (pc := 24) (i := 2) dX3_leadingLetters_24 rfl rfl ?_
          refine B.ireturn (pc := 25) (by simp) dX3_leadingLetters_25 (Nat.le_refl _) (Nat.le_refl _) (fun rz rw => ⟨rfl, ?_⟩)
          exact ⟨by omega, by omega, by omega, i4, by unfold lt_; omega⟩
        · refine B.aload_n (pc := 7) (i := 0) dX3_leadingLetters_7 rfl rfl ?_
          refine B.iload_n (pc := 8) (i := 2) dX3_leadingLetters_8 rfl rfl ?_
          refine B.callVi (pc := 9) 1 (mX3_signAt hE _ _ _ _ _ _ _ _) 0 rfl rfl ml_X3_26 im_X3_signAt se_X3_signAt it_X3 co_X3_signAt (by decide +kernel) rfl rfl rfl ⟨by decide, by decide⟩ ⟨by decide, by decide⟩ [0, 1] rfl rfl rfl (Nat.le_of_ble_eq_true rfl) dX3_leadingLetters_9 (fun _ => by omega) (fun zk9 uk9 rzk9 ruk9 rak9 hqk9 => ?_)
          obtain ⟨lzk9, uzk9⟩ := rzk9
          obtain ⟨rfl, hk9⟩ := hqk9
          simp only [zput, List.set_cons_zero, List.set_cons_succ, List.append_nil, Nat.add_zero]
          refine B.callSi (pc := 12) 1 (mX3_isLetter hE _) ml_X3_49 sm_X3_isLetter it_X3 co_X3_isLetter (by decide +kernel) rfl rfl rfl ⟨by decide, by decide⟩ ⟨by decide, by decide⟩ [] rfl rfl rfl (Nat.le_of_ble_eq_true rfl) dX3_leadingLetters_12 (fun _ => trivial) (fun zk12 uk12 rzk12 ruk12 rak12 hqk12 => ?_)
          obtain ⟨lzk12, uzk12⟩ := rzk12
          obtain ⟨rfl, hk12⟩ := hqk12
          simp only [zput, List.append_nil, Nat.add_zero]
          refine B.if_eq (pc := 15) (tgt := 24) dX3_leadingLetters_15 (by decide) (fun c15 => ?_) (fun c15 => ?_)
          · refine B.iload_n (pc := 24) (i := 2) dX3_leadingLetters_24 rfl rfl ?_
            refine B.ireturn (pc := 25) (by simp) dX3_leadingLetters_25 (Nat.le_refl _) (Nat.le_refl _) (fun rz rw => ⟨rfl, ?_⟩)
            exact ⟨by omega, by omega, by omega, i4, by unfold lt_; omega⟩
          · refine B.iinc (pc := 18) dX3_leadingLetters_18 (by decide) rfl ⟨by omega, by omega⟩ ?_
            simp only [List.set_cons_zero, List.set_cons_succ]
            refine B.goto (pc := 21) (tgt := 2) dX3_leadingLetters_21 (by decide) ?_
            refine (ih _ ?_) _ _ ⟨_, rfl, rfl, rfl, ?_⟩
            · omega
            · exact ⟨by omega, by omega, by omega, LD.step i4 i1 (by unfold lt_; omega)⟩
  show Z 0 0 0 [some (.inr (some p_a)), some (.inl most), none] [] _
  refine B.iconst (pc := 0) dX3_leadingLetters_0 ⟨by decide, by decide⟩ ?_
  refine B.istore_n (pc := 1) (i := 2) dX3_leadingLetters_1 rfl (by decide) ?_
  simp only [List.set_cons_zero, List.set_cons_succ]
  refine (key _) _ _ ⟨_, rfl, rfl, rfl, ?_⟩
  exact ⟨by omega, by omega, by omega, fun j hj => by omega⟩
set_option maxHeartbeats 4000000 in
set_option maxRecDepth 100000 in
theorem mX3_readLine {l : Launch} {D : va_G} {k : zK} {E : zE} (hE : zEok E) (p_a p_signs_a : Nat) (p_count p_letters p_kind p_cost : Int) (p_signs : Nat → Int) : zMi l D k E yX3_readLine cX3_readLine 2 .int { frames := 2, cells := 0, slots := 0, locals := 43 } 0 0 [.inr (some p_a)] [(p_a, .inr (.inr (3, [.inr (some p_signs_a), .inl p_count, .inl p_letters, .inl p_kind, .inl p_cost]))), (p_signs_a, .inl (false, 40, p_signs))] (0 ≤ p_count ∧ p_count ≤ 40) (fun z u => u = [(p_a, .inr (.inr (3, [.inr (some p_signs_a), .inl p_count, .inl p_letters, .inl p_kind, .inl p_cost]))), (p_signs_a, .inl (false, 40, p_signs))] ∧ (LF p_count p_signs z)) := by
  refine zMi.of RX3 hE (by decide) rfl (by simp) (fun _ _ _ _ => rfl) ?_
  intro Z hP hav hwr B
  obtain ⟨l_p_count, u_p_count⟩ : zR p_count := zWr_at hwr (i := 0) rfl (.inl p_count) (by simp)
  obtain ⟨l_p_letters, u_p_letters⟩ : zR p_letters := zWr_at hwr (i := 0) rfl (.inl p_letters) (by simp)
  obtain ⟨l_p_kind, u_p_kind⟩ : zR p_kind := zWr_at hwr (i := 0) rfl (.inl p_kind) (by simp)
  obtain ⟨l_p_cost, u_p_cost⟩ : zR p_cost := zWr_at hwr (i := 0) rfl (.inl p_cost) (by simp)
  show Z 0 0 0 [some (.inr (some p_a)), none] [] _
  refine B.aload_n (pc := 0) (i := 0) dX3_readLine_0 rfl rfl ?_
  refine B.bipush (pc := 1) dX3_readLine_1 ⟨by decide, by decide⟩ ?_
  refine B.callVi (pc := 3) 1 (mX3_leadingLetters hE _ _ _ _ _ _ _ _) 0 rfl rfl ml_X3_19 im_X3_leadingLetters se_X3_leadingLetters it_X3 co_X3_leadingLetters (by decide +kernel) rfl rfl rfl ⟨by decide, by decide⟩ ⟨by decide, by decide⟩ [0, 1] rfl rfl rfl (Nat.le_of_ble_eq_true rfl) dX3_readLine_3 (fun _ => by omega) (fun zk3 uk3 rzk3 ruk3 rak3 hqk3 => ?_)
  obtain ⟨lzk3, uzk3⟩ := rzk3
  obtain ⟨rfl, hk3⟩ := hqk3
  simp only [zput, List.set_cons_zero, List.set_cons_succ, List.append_nil, Nat.add_zero]
  refine B.istore_n (pc := 6) (i := 1) dX3_readLine_6 rfl (by decide) ?_
  simp only [List.set_cons_zero, List.set_cons_succ]
  refine B.iload_n (pc := 7) (i := 1) dX3_readLine_7 rfl rfl ?_
  refine B.if_le (pc := 8) (tgt := 24) dX3_readLine_8 (by decide) (fun c8 => ?_) (fun c8 => ?_)
  · refine B.iload_n (pc := 24) (i := 1) dX3_readLine_24 rfl rfl ?_
    refine B.ireturn (pc := 25) (by simp) dX3_readLine_25 (Nat.le_refl _) (Nat.le_refl _) (fun rz rw => ⟨rfl, ?_⟩)
    exact ⟨_, hk3, by omega⟩
  · refine B.iload_n (pc := 11) (i := 1) dX3_readLine_11 rfl rfl ?_
    refine B.aload_n (pc := 12) (i := 0) dX3_readLine_12 rfl rfl ?_
    refine B.getfield (pc := 13) 0 rfl rfl inX3z 1 (by decide) fl_X3_15 rfl dX3_readLine_13 ?_
    refine B.icmp_ne (pc := 16) (tgt := 24) dX3_readLine_16 (by decide) (fun c16 => ?_) (fun c16 => ?_)
    · refine B.iload_n (pc := 24) (i := 1) dX3_readLine_24 rfl rfl ?_
      refine B.ireturn (pc := 25) (by simp) dX3_readLine_25 (Nat.le_refl _) (Nat.le_refl _) (fun rz rw => ⟨rfl, ?_⟩)
      exact ⟨_, hk3, by omega⟩
    · refine B.bipush (pc := 19) dX3_readLine_19 ⟨by decide, by decide⟩ ?_
      refine B.goto (pc := 21) (tgt := 25) dX3_readLine_21 (by decide) ?_
      refine B.ireturn (pc := 25) (by simp) dX3_readLine_25 (Nat.le_refl _) (Nat.le_refl _) (fun rz rw => ⟨rfl, ?_⟩)
      exact ⟨_, hk3, by omega⟩
set_option maxHeartbeats 4000000 in
set_option maxRecDepth 100000 in
theorem mX3_readCost {l : Launch} {D : va_G} {k : zK} {E : zE} (hE : zEok E) (p_a p_signs_a : Nat) (p_count p_letters p_kind p_cost at_ : Int) (p_signs : Nat → Int) : zMi l D k E yX3_readCost cX3_readCost 3 .int { frames := 1, cells := 0, slots := 0, locals := 21 } 0 0 [.inr (some p_a), .inl at_] [(p_a, .inr (.inr (3, [.inr (some p_signs_a), .inl p_count, .inl p_letters, .inl p_kind, .inl p_cost]))), (p_signs_a, .inl (false, 40, p_signs))] (0 ≤ p_count ∧ p_count ≤ 40 ∧ 0 ≤ at_ ∧ at_ ≤ 100) (fun z u => ∃ (p_cost' : Int), u = [(p_a, .inr (.inr (3, [.inr (some p_signs_a), .inl p_count, .inl p_letters, .inl p_kind, .inl p_cost']))), (p_signs_a, .inl (false, 40, p_signs))] ∧ (CF p_count p_signs at_ z p_cost' ∧ (z = -6 → 0 ≤ p_cost' ∧ p_cost' ≤ 99))) := by
  refine zMi.of RX3 hE (by decide) rfl (by simp) (fun _ _ _ _ => rfl) ?_
  intro Z hP hav hwr B
  obtain ⟨l_at_, u_at_⟩ : zR at_ := hav (.inl at_) (by simp)
  obtain ⟨l_p_count, u_p_count⟩ : zR p_count := zWr_at hwr (i := 0) rfl (.inl p_count) (by simp)
  obtain ⟨l_p_letters, u_p_letters⟩ : zR p_letters := zWr_at hwr (i := 0) rfl (.inl p_letters) (by simp)
  obtain ⟨l_p_kind, u_p_kind⟩ : zR p_kind := zWr_at hwr (i := 0) rfl (.inl p_kind) (by simp)
  obtain ⟨l_p_cost, u_p_cost⟩ : zR p_cost := zWr_at hwr (i := 0) rfl (.inl p_cost) (by simp)
  show Z 0 0 0 [some (.inr (some p_a)), some (.inl at_), none] [] _
  refine B.aload_n (pc := 0) (i := 0) dX3_readCost_0 rfl rfl ?_
  refine B.iload_n (pc := 1) (i := 1) dX3_readCost_1 rfl rfl ?_
  refine B.callVi (pc := 2) 1 (mX3_signAt hE _ _ _ _ _ _ _ _) 0 rfl rfl ml_X3_26 im_X3_signAt se_X3_signAt it_X3 co_X3_signAt (by decide +kernel) rfl rfl rfl ⟨by decide, by decide⟩ ⟨by decide, by decide⟩ [0, 1] rfl rfl rfl (Nat.le_of_ble_eq_true rfl) dX3_readCost_2 (fun _ => by omega) (fun zk2 uk2 rzk2 ruk2 rak2 hqk2 => ?_)
  obtain ⟨lzk2, uzk2⟩ := rzk2
  obtain ⟨rfl, hk2⟩ := hqk2
  simp only [zput, List.set_cons_zero, List.set_cons_succ, List.append_nil, Nat.add_zero]
  refine B.callSi (pc := 5) 1 (mX3_isFigure hE _) ml_X3_42 sm_X3_isFigure it_X3 co_X3_isFigure (by decide +kernel) rfl rfl rfl ⟨by decide, by decide⟩ ⟨by decide, by decide⟩ [] rfl rfl rfl (Nat.le_of_ble_eq_true rfl) dX3_readCost_5 (fun _ => trivial) (fun zk5 uk5 rzk5 ruk5 rak5 hqk5 => ?_)
  obtain ⟨lzk5, uzk5⟩ := rzk5
  obtain ⟨rfl, hk5⟩ := hqk5
  simp only [zput, List.append_nil, Nat.add_zero]
  refine B.if_ne (pc := 8) (tgt := 13) dX3_readCost_8 (by decide) (fun c8 => ?_) (fun c8 => ?_)
  · refine B.aload_n (pc := 13) (i := 0) dX3_readCost_13 rfl rfl ?_
    refine B.aload_n (pc := 14) (i := 0) dX3_readCost_14 rfl rfl ?_
    refine B.iload_n (pc := 15) (i := 1) dX3_readCost_15 rfl rfl ?_
    refine B.callVi (pc := 16) 1 (mX3_signAt hE _ _ _ _ _ _ _ _) 0 rfl rfl ml_X3_26 im_X3_signAt se_X3_signAt it_X3 co_X3_signAt (by decide +kernel) rfl rfl rfl ⟨by decide, by decide⟩ ⟨by decide, by decide⟩ [0, 1] rfl rfl rfl (Nat.le_of_ble_eq_true rfl) dX3_readCost_16 (fun _ => by omega) (fun zk16 uk16 rzk16 ruk16 rak16 hqk16 => ?_)
    obtain ⟨lzk16, uzk16⟩ := rzk16
    obtain ⟨rfl, hk16⟩ := hqk16
    simp only [zput, List.set_cons_zero, List.set_cons_succ, List.append_nil, Nat.add_zero]
    refine B.bipush (pc := 19) dX3_readCost_19 ⟨by decide, by decide⟩ ?_
    refine B.isub (pc := 21) dX3_readCost_21 ⟨by omega, by omega⟩ ?_
    refine B.putfield (pc := 22) 0 rfl rfl inX3z tyX3 tyX3_ok nmX3 4 (by decide) fl_X3_46 rfl rfl rfl (Nat.le_of_ble_eq_true rfl) dX3_readCost_22 ?_
    simp only [List.set_cons_zero, List.set_cons_succ]
    refine B.iload_n (pc := 25) (i := 1) dX3_readCost_25 rfl rfl ?_
    refine B.iconst (pc := 26) dX3_readCost_26 ⟨by decide, by decide⟩ ?_
    refine B.iadd (pc := 27) dX3_readCost_27 ⟨by omega, by omega⟩ ?_
    refine B.istore_n (pc := 28) (i := 2) dX3_readCost_28 rfl (by decide) ?_
    simp only [List.set_cons_zero, List.set_cons_succ]
    refine B.aload_n (pc := 29) (i := 0) dX3_readCost_29 rfl rfl ?_
    refine B.iload_n (pc := 30) (i := 2) dX3_readCost_30 rfl rfl ?_
    refine B.callVi (pc := 31) 1 (mX3_signAt hE _ _ _ _ _ _ _ _) 0 rfl rfl ml_X3_26 im_X3_signAt se_X3_signAt it_X3 co_X3_signAt (by decide +kernel) rfl rfl rfl ⟨by decide, by decide⟩ ⟨by decide, by decide⟩ [0, 1] rfl rfl rfl (Nat.le_of_ble_eq_true rfl) dX3_readCost_31 (fun _ => by omega) (fun zk31 uk31 rzk31 ruk31 rak31 hqk31 => ?_)
    obtain ⟨lzk31, uzk31⟩ := rzk31
    obtain ⟨rfl, hk31⟩ := hqk31
    simp only [zput, List.set_cons_zero, List.set_cons_succ, List.append_nil, Nat.add_zero]
    refine B.callSi (pc := 34) 1 (mX3_isFigure hE _) ml_X3_42 sm_X3_isFigure it_X3 co_X3_isFigure (by decide +kernel) rfl rfl rfl ⟨by decide, by decide⟩ ⟨by decide, by decide⟩ [] rfl rfl rfl (Nat.le_of_ble_eq_true rfl) dX3_readCost_34 (fun _ => trivial) (fun zk34 uk34 rzk34 ruk34 rak34 hqk34 => ?_)
    obtain ⟨lzk34, uzk34⟩ := rzk34
    obtain ⟨rfl, hk34⟩ := hqk34
    simp only [zput, List.append_nil, Nat.add_zero]
    refine B.if_eq (pc := 37) (tgt := 63) dX3_readCost_37 (by decide) (fun c37 => ?_) (fun c37 => ?_)
    · refine B.iload_n (pc := 63) (i := 2) dX3_readCost_63 rfl rfl ?_
      refine B.aload_n (pc := 64) (i := 0) dX3_readCost_64 rfl rfl ?_
      refine B.getfield (pc := 65) 0 rfl rfl inX3z 1 (by decide) fl_X3_15 rfl dX3_readCost_65 ?_
      refine B.icmp_ne (pc := 68) (tgt := 76) dX3_readCost_68 (by decide) (fun c68 => ?_) (fun c68 => ?_)
      · refine B.iload_n (pc := 76) (i := 2) dX3_readCost_76 rfl rfl ?_
        refine B.ireturn (pc := 77) (by simp) dX3_readCost_77 (Nat.le_refl _) (Nat.le_refl _) (fun rz rw => ⟨_, rfl, ?_⟩)
        refine ⟨?_, by omega⟩
        unfold CF EN dg_
        omega
      · refine B.bipush (pc := 71) dX3_readCost_71 ⟨by decide, by decide⟩ ?_
        refine B.goto (pc := 73) (tgt := 77) dX3_readCost_73 (by decide) ?_
        refine B.ireturn (pc := 77) (by simp) dX3_readCost_77 (Nat.le_refl _) (Nat.le_refl _) (fun rz rw => ⟨_, rfl, ?_⟩)
        refine ⟨?_, by omega⟩
        unfold CF EN dg_
        omega
    · refine B.aload_n (pc := 40) (i := 0) dX3_readCost_40 rfl rfl ?_
      refine B.aload_n (pc := 41) (i := 0) dX3_readCost_41 rfl rfl ?_
      refine B.getfield (pc := 42) 0 rfl rfl inX3z 4 (by decide) fl_X3_46 rfl dX3_readCost_42 ?_
      refine B.bipush (pc := 45) dX3_readCost_45 ⟨by decide, by decide⟩ ?_
      refine B.imul (pc := 47) dX3_readCost_47 ⟨by omega, by omega⟩ ?_
      refine B.aload_n (pc := 48) (i := 0) dX3_readCost_48 rfl rfl ?_
      refine B.iload_n (pc := 49) (i := 2) dX3_readCost_49 rfl rfl ?_
      refine B.callVi (pc := 50) 1 (mX3_signAt hE _ _ _ _ _ _ _ _) 0 rfl rfl ml_X3_26 im_X3_signAt se_X3_signAt it_X3 co_X3_signAt (by decide +kernel) rfl rfl rfl ⟨by decide, by decide⟩ ⟨by decide, by decide⟩ [0, 1] rfl rfl rfl (Nat.le_of_ble_eq_true rfl) dX3_readCost_50 (fun _ => by omega) (fun zk50 uk50 rzk50 ruk50 rak50 hqk50 => ?_)
      obtain ⟨lzk50, uzk50⟩ := rzk50
      obtain ⟨rfl, hk50⟩ := hqk50
      simp only [zput, List.set_cons_zero, List.set_cons_succ, List.append_nil, Nat.add_zero]
      refine B.iadd (pc := 53) dX3_readCost_53 ⟨by omega, by omega⟩ ?_
      refine B.bipush (pc := 54) dX3_readCost_54 ⟨by decide, by decide⟩ ?_
      refine B.isub (pc := 56) dX3_readCost_56 ⟨by omega, by omega⟩ ?_
      refine B.putfield (pc := 57) 0 rfl rfl inX3z tyX3 tyX3_ok nmX3 4 (by decide) fl_X3_46 rfl rfl rfl (Nat.le_of_ble_eq_true rfl) dX3_readCost_57 ?_
      simp only [List.set_cons_zero, List.set_cons_succ]
      refine B.iinc (pc := 60) dX3_readCost_60 (by decide) rfl ⟨by omega, by omega⟩ ?_
      simp only [List.set_cons_zero, List.set_cons_succ]
      refine B.iload_n (pc := 63) (i := 2) dX3_readCost_63 rfl rfl ?_
      refine B.aload_n (pc := 64) (i := 0) dX3_readCost_64 rfl rfl ?_
      refine B.getfield (pc := 65) 0 rfl rfl inX3z 1 (by decide) fl_X3_15 rfl dX3_readCost_65 ?_
      refine B.icmp_ne (pc := 68) (tgt := 76) dX3_readCost_68 (by decide) (fun c68 => ?_) (fun c68 => ?_)
      · refine B.iload_n (pc := 76) (i := 2) dX3_readCost_76 rfl rfl ?_
        refine B.ireturn (pc := 77) (by simp) dX3_readCost_77 (Nat.le_refl _) (Nat.le_refl _) (fun rz rw => ⟨_, rfl, ?_⟩)
        refine ⟨?_, by omega⟩
        unfold CF EN dg_
        omega
      · refine B.bipush (pc := 71) dX3_readCost_71 ⟨by decide, by decide⟩ ?_
        refine B.goto (pc := 73) (tgt := 77) dX3_readCost_73 (by decide) ?_
        refine B.ireturn (pc := 77) (by simp) dX3_readCost_77 (Nat.le_refl _) (Nat.le_refl _) (fun rz rw => ⟨_, rfl, ?_⟩)
        refine ⟨?_, by omega⟩
        unfold CF EN dg_
        omega
  · refine B.iload_n (pc := 11) (i := 1) dX3_readCost_11 rfl rfl ?_
    refine B.ireturn (pc := 12) (by simp) dX3_readCost_12 (Nat.le_refl _) (Nat.le_refl _) (fun rz rw => ⟨_, rfl, ?_⟩)
    refine ⟨?_, by omega⟩
    unfold CF EN dg_
    omega
