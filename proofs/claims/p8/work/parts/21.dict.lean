set_option maxHeartbeats 4000000 in
set_option maxRecDepth 100000 in
theorem mX1_has {l : Launch} {D : va_G} {k : zK} {E : zE} (hE : zEok E) (d_a d_letters_a d_lengths_a d_kinds_a d_costs_a : Nat) (d_count number : Int) (d_letters d_lengths d_kinds d_costs : Nat → Int) : zMi l D k E yX1_has cX1_has 2 .boolean { frames := 0, cells := 0, slots := 0, locals := 0 } 0 0 [.inr (some d_a), .inl number] [(d_a, .inr (.inr (1, [.inr (some d_letters_a), .inr (some d_lengths_a), .inr (some d_kinds_a), .inr (some d_costs_a), .inl d_count]))), (d_letters_a, .inl (false, 96, d_letters)), (d_lengths_a, .inl (false, 16, d_lengths)), (d_kinds_a, .inl (false, 16, d_kinds)), (d_costs_a, .inl (false, 16, d_costs))] (True) (fun z u => u = [(d_a, .inr (.inr (1, [.inr (some d_letters_a), .inr (some d_lengths_a), .inr (some d_kinds_a), .inr (some d_costs_a), .inl d_count]))), (d_letters_a, .inl (false, 96, d_letters)), (d_lengths_a, .inl (false, 16, d_lengths)), (d_kinds_a, .inl (false, 16, d_kinds)), (d_costs_a, .inl (false, 16, d_costs))] ∧ ((z = 0 ∨ z = 1) ∧ (z = 1 ↔ 0 ≤ number ∧ number < d_count ∧ number < 16))) := by
  refine zMi.of RX1 hE (by decide) rfl (by simp) (fun z u hp hq => ?_) ?_
  · have hz : z = 0 ∨ z = 1 := by obtain ⟨_, hq⟩ := hq; first | exact hq | exact hq.1 | exact Or.inr hq
    rcases hz with rfl | rfl <;> decide
  intro Z hP hav hwr B
  obtain ⟨l_number, u_number⟩ : zR number := hav (.inl number) (by simp)
  obtain ⟨l_d_count, u_d_count⟩ : zR d_count := zWr_at hwr (i := 0) rfl (.inl d_count) (by simp)
  show Z 0 0 0 [some (.inr (some d_a)), some (.inl number)] [] _
  refine B.iload_n (pc := 0) (i := 1) dX1_has_0 rfl rfl ?_
  refine B.if_lt (pc := 1) (tgt := 22) dX1_has_1 (by decide) (fun c1 => ?_) (fun c1 => ?_)
  · refine B.iconst (pc := 22) dX1_has_22 ⟨by decide, by decide⟩ ?_
    refine B.ireturn (pc := 23) (by simp) dX1_has_23 (Nat.le_refl _) (Nat.le_refl _) (fun rz rw => ⟨rfl, ?_⟩)
    omega
  · refine B.iload_n (pc := 4) (i := 1) dX1_has_4 rfl rfl ?_
    refine B.aload_n (pc := 5) (i := 0) dX1_has_5 rfl rfl ?_
    refine B.getfield (pc := 6) 0 rfl rfl inX1z 4 (by decide) fl_X1_24 rfl dX1_has_6 ?_
    refine B.icmp_ge (pc := 9) (tgt := 22) dX1_has_9 (by decide) (fun c9 => ?_) (fun c9 => ?_)
    · refine B.iconst (pc := 22) dX1_has_22 ⟨by decide, by decide⟩ ?_
      refine B.ireturn (pc := 23) (by simp) dX1_has_23 (Nat.le_refl _) (Nat.le_refl _) (fun rz rw => ⟨rfl, ?_⟩)
      omega
    · refine B.iload_n (pc := 12) (i := 1) dX1_has_12 rfl rfl ?_
      refine B.bipush (pc := 13) dX1_has_13 ⟨by decide, by decide⟩ ?_
      refine B.icmp_ge (pc := 15) (tgt := 22) dX1_has_15 (by decide) (fun c15 => ?_) (fun c15 => ?_)
      · refine B.iconst (pc := 22) dX1_has_22 ⟨by decide, by decide⟩ ?_
        refine B.ireturn (pc := 23) (by simp) dX1_has_23 (Nat.le_refl _) (Nat.le_refl _) (fun rz rw => ⟨rfl, ?_⟩)
        omega
      · refine B.iconst (pc := 18) dX1_has_18 ⟨by decide, by decide⟩ ?_
        refine B.goto (pc := 19) (tgt := 23) dX1_has_19 (by decide) ?_
        refine B.ireturn (pc := 23) (by simp) dX1_has_23 (Nat.le_refl _) (Nat.le_refl _) (fun rz rw => ⟨rfl, ?_⟩)
        omega
set_option maxHeartbeats 4000000 in
set_option maxRecDepth 100000 in
theorem mX1_standsAt {l : Launch} {D : va_G} {k : zK} {E : zE} (hE : zEok E) (row_n : Nat) (d_a d_letters_a d_lengths_a d_kinds_a d_costs_a row_a : Nat) (d_count number place end_ : Int) (d_letters d_lengths d_kinds d_costs row : Nat → Int) : zMi l D k E yX1_standsAt cX1_standsAt 6 .boolean { frames := 0, cells := 0, slots := 0, locals := 0 } 0 0 [.inr (some d_a), .inl number, .inr (some row_a), .inl place, .inl end_] [(d_a, .inr (.inr (1, [.inr (some d_letters_a), .inr (some d_lengths_a), .inr (some d_kinds_a), .inr (some d_costs_a), .inl d_count]))), (d_letters_a, .inl (false, 96, d_letters)), (d_lengths_a, .inl (false, 16, d_lengths)), (d_kinds_a, .inl (false, 16, d_kinds)), (d_costs_a, .inl (false, 16, d_costs)), (row_a, .inl (false, row_n, row))] (0 ≤ number ∧ number < 16 ∧ 0 ≤ d_lengths number.toNat ∧ d_lengths number.toNat ≤ 6 ∧ 0 ≤ place ∧ place ≤ 24 ∧ 0 ≤ end_ ∧ end_ ≤ row_n ∧ end_ ≤ 40) (fun z u => u = [(d_a, .inr (.inr (1, [.inr (some d_letters_a), .inr (some d_lengths_a), .inr (some d_kinds_a), .inr (some d_costs_a), .inl d_count]))), (d_letters_a, .inl (false, 96, d_letters)), (d_lengths_a, .inl (false, 16, d_lengths)), (d_kinds_a, .inl (false, 16, d_kinds)), (d_costs_a, .inl (false, 16, d_costs)), (row_a, .inl (false, row_n, row))] ∧ ((z = 0 ∨ z = 1) ∧ (z = 1 → d_lengths number.toNat ≤ end_ - place) ∧ (z = 1 ↔ ST d_letters (d_lengths number.toNat) number.toNat row place end_))) := by
  refine zMi.of RX1 hE (by decide) rfl (by simp) (fun z u hp hq => ?_) ?_
  · have hz : z = 0 ∨ z = 1 := by obtain ⟨_, hq⟩ := hq; first | exact hq | exact hq.1 | exact Or.inr hq
    rcases hz with rfl | rfl <;> decide
  intro Z hP hav hwr B
  obtain ⟨l_number, u_number⟩ : zR number := hav (.inl number) (by simp)
  obtain ⟨l_place, u_place⟩ : zR place := hav (.inl place) (by simp)
  obtain ⟨l_end_, u_end_⟩ : zR end_ := hav (.inl end_) (by simp)
  obtain ⟨l_d_count, u_d_count⟩ : zR d_count := zWr_at hwr (i := 0) rfl (.inl d_count) (by simp)
  have key : ∀ mu_ : Nat, (∀ (lv : List (Option zV)) (ws : zW), (∃ (i : Int), lv = [some (.inr (some d_a)), some (.inl number), some (.inr (some row_a)), some (.inl place), some (.inl end_), some (.inl i)] ∧ ws = [(d_a, .inr (.inr (1, [.inr (some d_letters_a), .inr (some d_lengths_a), .inr (some d_kinds_a), .inr (some d_costs_a), .inl d_count]))), (d_letters_a, .inl (false, 96, d_letters)), (d_lengths_a, .inl (false, 16, d_lengths)), (d_kinds_a, .inl (false, 16, d_kinds)), (d_costs_a, .inl (false, 16, d_costs)), (row_a, .inl (false, row_n, row))] ∧ mu_ = (d_lengths number.toNat - i).toNat ∧ (0 ≤ i ∧ i ≤ d_lengths number.toNat ∧ d_lengths number.toNat ≤ end_ - place ∧ ∀ j : Nat, (j : Int) < i → d_letters (6 * number.toNat + j) = row (place.toNat + j))) → Z 0 0 18 lv [] ws) := by
    intro mu_
    induction mu_ using Nat.strongRecOn with
    | _ mu_ ih =>
      · intro lv ws hJ
        obtain ⟨i, rfl, rfl, rfl, hi⟩ := hJ
        obtain ⟨i1, i2, i3, i4⟩ := hi
        refine B.iload (pc := 18) dX1_standsAt_18 rfl ?_
        refine B.aload_n (pc := 20) (i := 0) dX1_standsAt_20 rfl rfl ?_
        refine B.getfield (pc := 21) 0 rfl rfl inX1z 1 (by decide) fl_X1_15 rfl dX1_standsAt_21 ?_
        refine B.iload_n (pc := 24) (i := 1) dX1_standsAt_24 rfl rfl ?_
        refine B.iaload (pc := 25) 2 rfl (by omega) (by omega) dX1_standsAt_25 (fun r25 => ?_)
        obtain ⟨lr25, ur25⟩ := r25
        refine B.icmp_ge (pc := 26) (tgt := 58) dX1_standsAt_26 (by decide) (fun c26 => ?_) (fun c26 => ?_)
        · refine B.iconst (pc := 58) dX1_standsAt_58 ⟨by decide, by decide⟩ ?_
          refine B.ireturn (pc := 59) (by simp) dX1_standsAt_59 (Nat.le_refl _) (Nat.le_refl _) (fun rz rw => ⟨rfl, ?_⟩)
          exact ⟨Or.inr rfl, by omega, fun _ => ⟨by omega, fun j hj => i4 j (by omega)⟩, fun _ => rfl⟩
        · refine B.aload_n (pc := 29) (i := 0) dX1_standsAt_29 rfl rfl ?_
          refine B.getfield (pc := 30) 0 rfl rfl inX1z 0 (by decide) fl_X1_9 rfl dX1_standsAt_30 ?_
          refine B.iload_n (pc := 33) (i := 1) dX1_standsAt_33 rfl rfl ?_
          refine B.bipush (pc := 34) dX1_standsAt_34 ⟨by decide, by decide⟩ ?_
          refine B.imul (pc := 36) dX1_standsAt_36 ⟨by omega, by omega⟩ ?_
          refine B.iload (pc := 37) dX1_standsAt_37 rfl ?_
          refine B.iadd (pc := 39) dX1_standsAt_39 ⟨by omega, by omega⟩ ?_
          refine B.iaload (pc := 40) 1 rfl (by omega) (by omega) dX1_standsAt_40 (fun r40 => ?_)
          obtain ⟨lr40, ur40⟩ := r40
          refine B.aload_n (pc := 41) (i := 2) dX1_standsAt_41 rfl rfl ?_
          refine B.iload_n (pc := 42) (i := 3) dX1_standsAt_42 rfl rfl ?_
          refine B.iload (pc := 43) dX1_standsAt_43 rfl ?_
          refine B.iadd (pc := 45) dX1_standsAt_45 ⟨by omega, by omega⟩ ?_
          refine B.iaload (pc := 46) 5 rfl (by omega) (by omega) dX1_standsAt_46 (fun r46 => ?_)
          obtain ⟨lr46, ur46⟩ := r46
          refine B.icmp_eq (pc := 47) (tgt := 52) dX1_standsAt_47 (by decide) (fun c47 => ?_) (fun c47 => ?_)
          · refine B.iinc (pc := 52) dX1_standsAt_52 (by decide) rfl ⟨by omega, by omega⟩ ?_
            simp only [List.set_cons_zero, List.set_cons_succ]
            refine B.goto (pc := 55) (tgt := 18) dX1_standsAt_55 (by decide) ?_
            refine (ih _ ?_) _ _ ⟨_, rfl, rfl, rfl, ?_⟩
            · omega
            · refine ⟨by omega, by omega, by omega, fun j hj => ?_⟩
              by_cases e : (j : Int) = i
              · rw [show 6 * number.toNat + j = (number * 6 + i).toNat by omega, show place.toNat + j = (place + i).toNat by omega]; exact c47
              · exact i4 j (by omega)
          · refine B.iconst (pc := 50) dX1_standsAt_50 ⟨by decide, by decide⟩ ?_
            refine B.ireturn (pc := 51) (by simp) dX1_standsAt_51 (Nat.le_refl _) (Nat.le_refl _) (fun rz rw => ⟨rfl, ?_⟩)
            refine ⟨Or.inl rfl, by omega, fun h => by omega, fun h => ?_⟩
            exfalso
            have h2 := h.2 i.toNat (by omega)
            rw [show 6 * number.toNat + i.toNat = (number * 6 + i).toNat by omega, show place.toNat + i.toNat = (place + i).toNat by omega] at h2
            exact c47 h2
  show Z 0 0 0 [some (.inr (some d_a)), some (.inl number), some (.inr (some row_a)), some (.inl place), some (.inl end_), none] [] _
  refine B.aload_n (pc := 0) (i := 0) dX1_standsAt_0 rfl rfl ?_
  refine B.getfield (pc := 1) 0 rfl rfl inX1z 1 (by decide) fl_X1_15 rfl dX1_standsAt_1 ?_
  refine B.iload_n (pc := 4) (i := 1) dX1_standsAt_4 rfl rfl ?_
  refine B.iaload (pc := 5) 2 rfl (by omega) (by omega) dX1_standsAt_5 (fun r5 => ?_)
  obtain ⟨lr5, ur5⟩ := r5
  refine B.iload (pc := 6) dX1_standsAt_6 rfl ?_
  refine B.iload_n (pc := 8) (i := 3) dX1_standsAt_8 rfl rfl ?_
  refine B.isub (pc := 9) dX1_standsAt_9 ⟨by omega, by omega⟩ ?_
  refine B.icmp_le (pc := 10) (tgt := 15) dX1_standsAt_10 (by decide) (fun c10 => ?_) (fun c10 => ?_)
  · refine B.iconst (pc := 15) dX1_standsAt_15 ⟨by decide, by decide⟩ ?_
    refine B.istore (pc := 16) (i := 5) dX1_standsAt_16 (by decide) ?_
    simp only [List.set_cons_zero, List.set_cons_succ]
    refine (key _) _ _ ⟨_, rfl, rfl, rfl, ?_⟩
    exact ⟨by omega, by omega, by omega, fun j hj => by omega⟩
  · refine B.iconst (pc := 13) dX1_standsAt_13 ⟨by decide, by decide⟩ ?_
    refine B.ireturn (pc := 14) (by simp) dX1_standsAt_14 (Nat.le_refl _) (Nat.le_refl _) (fun rz rw => ⟨rfl, ?_⟩)
    exact ⟨Or.inl rfl, by omega, fun h => by omega, fun h => absurd h.1 (by omega)⟩
set_option maxHeartbeats 4000000 in
set_option maxRecDepth 100000 in
theorem mX1_find {l : Launch} {D : va_G} {k : zK} {E : zE} (hE : zEok E) (d_a d_letters_a d_lengths_a d_kinds_a d_costs_a p_a p_signs_a : Nat) (d_count p_count p_letters p_kind p_cost : Int) (d_letters d_lengths d_kinds d_costs p_signs : Nat → Int) : zMi l D k E yX1_find cX1_find 3 .int { frames := 1, cells := 0, slots := 0, locals := 25 } 0 0 [.inr (some d_a), .inr (some p_a)] [(d_a, .inr (.inr (1, [.inr (some d_letters_a), .inr (some d_lengths_a), .inr (some d_kinds_a), .inr (some d_costs_a), .inl d_count]))), (d_letters_a, .inl (false, 96, d_letters)), (d_lengths_a, .inl (false, 16, d_lengths)), (d_kinds_a, .inl (false, 16, d_kinds)), (d_costs_a, .inl (false, 16, d_costs)), (p_a, .inr (.inr (3, [.inr (some p_signs_a), .inl p_count, .inl p_letters, .inl p_kind, .inl p_cost]))), (p_signs_a, .inl (false, 40, p_signs))] (DI d_count d_lengths d_kinds d_costs ∧ 1 ≤ p_letters ∧ p_letters ≤ 6 ∧ 0 ≤ p_kind ∧ p_kind ≤ 2 ∧ 0 ≤ p_cost ∧ p_cost ≤ 99) (fun z u => u = [(d_a, .inr (.inr (1, [.inr (some d_letters_a), .inr (some d_lengths_a), .inr (some d_kinds_a), .inr (some d_costs_a), .inl d_count]))), (d_letters_a, .inl (false, 96, d_letters)), (d_lengths_a, .inl (false, 16, d_lengths)), (d_kinds_a, .inl (false, 16, d_kinds)), (d_costs_a, .inl (false, 16, d_costs)), (p_a, .inr (.inr (3, [.inr (some p_signs_a), .inl p_count, .inl p_letters, .inl p_kind, .inl p_cost]))), (p_signs_a, .inl (false, 40, p_signs))] ∧ ((z = -6 ∧ ∀ v : Nat, (v : Int) < d_count → ¬ MT d_letters d_lengths d_kinds p_signs p_letters p_kind v) ∨ (0 ≤ z ∧ z < d_count ∧ MT d_letters d_lengths d_kinds p_signs p_letters p_kind z.toNat))) := by
  refine zMi.of RX1 hE (by decide) rfl (by simp) (fun _ _ _ _ => rfl) ?_
  intro Z hP hav hwr B
  obtain ⟨l_d_count, u_d_count⟩ : zR d_count := zWr_at hwr (i := 0) rfl (.inl d_count) (by simp)
  obtain ⟨l_p_count, u_p_count⟩ : zR p_count := zWr_at hwr (i := 5) rfl (.inl p_count) (by simp)
  obtain ⟨l_p_letters, u_p_letters⟩ : zR p_letters := zWr_at hwr (i := 5) rfl (.inl p_letters) (by simp)
  obtain ⟨l_p_kind, u_p_kind⟩ : zR p_kind := zWr_at hwr (i := 5) rfl (.inl p_kind) (by simp)
  obtain ⟨l_p_cost, u_p_cost⟩ : zR p_cost := zWr_at hwr (i := 5) rfl (.inl p_cost) (by simp)
  obtain ⟨hD, hPW⟩ := hP
  obtain ⟨hD1, hD2, hD3⟩ := id hD
  have key : ∀ mu_ : Nat, (∀ (lv : List (Option zV)) (ws : zW), (∃ (w : Int), lv = [some (.inr (some d_a)), some (.inr (some p_a)), some (.inl w)] ∧ ws = [(d_a, .inr (.inr (1, [.inr (some d_letters_a), .inr (some d_lengths_a), .inr (some d_kinds_a), .inr (some d_costs_a), .inl d_count]))), (d_letters_a, .inl (false, 96, d_letters)), (d_lengths_a, .inl (false, 16, d_lengths)), (d_kinds_a, .inl (false, 16, d_kinds)), (d_costs_a, .inl (false, 16, d_costs)), (p_a, .inr (.inr (3, [.inr (some p_signs_a), .inl p_count, .inl p_letters, .inl p_kind, .inl p_cost]))), (p_signs_a, .inl (false, 40, p_signs))] ∧ mu_ = (d_count - w).toNat ∧ (0 ≤ w ∧ w ≤ d_count ∧ ∀ v : Nat, (v : Int) < w → ¬ MT d_letters d_lengths d_kinds p_signs p_letters p_kind v)) → Z 0 0 2 lv [] ws) := by
    intro mu_
    induction mu_ using Nat.strongRecOn with
    | _ mu_ ih =>
      · intro lv ws hJ
        obtain ⟨w, rfl, rfl, rfl, hi⟩ := hJ
        obtain ⟨i1, i2, i3⟩ := hi
        refine B.iload_n (pc := 2) (i := 2) dX1_find_2 rfl rfl ?_
        refine B.aload_n (pc := 3) (i := 0) dX1_find_3 rfl rfl ?_
        refine B.getfield (pc := 4) 0 rfl rfl inX1z 4 (by decide) fl_X1_24 rfl dX1_find_4 ?_
        refine B.icmp_ge (pc := 7) (tgt := 61) dX1_find_7 (by decide) (fun c7 => ?_) (fun c7 => ?_)
        · refine B.bipush (pc := 61) dX1_find_61 ⟨by decide, by decide⟩ ?_
          refine B.ireturn (pc := 63) (by simp) dX1_find_63 (Nat.le_refl _) (Nat.le_refl _) (fun rz rw => ⟨rfl, ?_⟩)
          exact Or.inl ⟨rfl, fun v hv => i3 v (by omega)⟩
        · have hw := hD.at (x := w) (by omega) (by omega)
          refine B.aload_n (pc := 10) (i := 0) dX1_find_10 rfl rfl ?_
          refine B.getfield (pc := 11) 0 rfl rfl inX1z 1 (by decide) fl_X1_15 rfl dX1_find_11 ?_
          refine B.iload_n (pc := 14) (i := 2) dX1_find_14 rfl rfl ?_
          refine B.iaload (pc := 15) 2 rfl (by omega) (by omega) dX1_find_15 (fun r15 => ?_)
          obtain ⟨lr15, ur15⟩ := r15
          refine B.aload_n (pc := 16) (i := 1) dX1_find_16 rfl rfl ?_
          refine B.getfield (pc := 17) 5 rfl rfl inX3z 2 (by decide) fl_X1_32 rfl dX1_find_17 ?_
          refine B.icmp_ne (pc := 20) (tgt := 55) dX1_find_20 (by decide) (fun c20 => ?_) (fun c20 => ?_)
          · refine B.iinc (pc := 55) dX1_find_55 (by decide) rfl ⟨by omega, by omega⟩ ?_
            simp only [List.set_cons_zero, List.set_cons_succ]
            refine B.goto (pc := 58) (tgt := 2) dX1_find_58 (by decide) ?_
            refine (ih _ ?_) _ _ ⟨_, rfl, rfl, rfl, ?_⟩
            · omega
            · refine ⟨by omega, by omega, fun v hv => ?_⟩
              by_cases e : (v : Int) = w
              · have ev : v = w.toNat := by omega
                subst ev
                intro hm
                first
                  | exact c20 hm.1
                  | exact c33 hm.2.1
                  | (have h2 := hk47.2.2.mpr ⟨by have := hm.1; omega, fun i hi => by rw [show (0 : Int).toNat + i = i from Nat.zero_add i]; exact hm.2.2 i (by have := hm.1; omega)⟩
                     omega)
              · exact i3 v (by omega)
          · refine B.aload_n (pc := 23) (i := 0) dX1_find_23 rfl rfl ?_
            refine B.getfield (pc := 24) 0 rfl rfl inX1z 2 (by decide) fl_X1_18 rfl dX1_find_24 ?_
            refine B.iload_n (pc := 27) (i := 2) dX1_find_27 rfl rfl ?_
            refine B.iaload (pc := 28) 3 rfl (by omega) (by omega) dX1_find_28 (fun r28 => ?_)
            obtain ⟨lr28, ur28⟩ := r28
            refine B.aload_n (pc := 29) (i := 1) dX1_find_29 rfl rfl ?_
            refine B.getfield (pc := 30) 5 rfl rfl inX3z 3 (by decide) fl_X1_36 rfl dX1_find_30 ?_
            refine B.icmp_ne (pc := 33) (tgt := 55) dX1_find_33 (by decide) (fun c33 => ?_) (fun c33 => ?_)
            · refine B.iinc (pc := 55) dX1_find_55 (by decide) rfl ⟨by omega, by omega⟩ ?_
              simp only [List.set_cons_zero, List.set_cons_succ]
              refine B.goto (pc := 58) (tgt := 2) dX1_find_58 (by decide) ?_
              refine (ih _ ?_) _ _ ⟨_, rfl, rfl, rfl, ?_⟩
              · omega
              · refine ⟨by omega, by omega, fun v hv => ?_⟩
                by_cases e : (v : Int) = w
                · have ev : v = w.toNat := by omega
                  subst ev
                  intro hm
                  first
                    | exact c20 hm.1
                    | exact c33 hm.2.1
                    | (have h2 := hk47.2.2.mpr ⟨by have := hm.1; omega, fun i hi => by rw [show (0 : Int).toNat + i = i from Nat.zero_add i]; exact hm.2.2 i (by have := hm.1; omega)⟩
                       omega)
                · exact i3 v (by omega)
            · refine B.aload_n (pc := 36) (i := 0) dX1_find_36 rfl rfl ?_
              refine B.iload_n (pc := 37) (i := 2) dX1_find_37 rfl rfl ?_
              refine B.aload_n (pc := 38) (i := 1) dX1_find_38 rfl rfl ?_
              refine B.getfield (pc := 39) 5 rfl rfl inX3z 0 (by decide) fl_X1_39 rfl dX1_find_39 ?_
              refine B.iconst (pc := 42) dX1_find_42 ⟨by decide, by decide⟩ ?_
              refine B.aload_n (pc := 43) (i := 1) dX1_find_43 rfl rfl ?_
              refine B.getfield (pc := 44) 5 rfl rfl inX3z 2 (by decide) fl_X1_32 rfl dX1_find_44 ?_
              refine B.callVi (pc := 47) 4 (mX1_standsAt hE _ _ _ _ _ _ _ _ _ _ _ _ _ _ _ _) 0 rfl rfl ml_X1_51 im_X1_standsAt se_X1_standsAt it_X1 co_X1_standsAt (by decide +kernel) rfl rfl rfl ⟨by decide, by decide⟩ ⟨by decide, by decide⟩ [0, 1, 2, 3, 4, 6] rfl rfl rfl (Nat.le_of_ble_eq_true rfl) dX1_find_47 (fun _ => by omega) (fun zk47 uk47 rzk47 ruk47 rak47 hqk47 => ?_)
              obtain ⟨lzk47, uzk47⟩ := rzk47
              obtain ⟨rfl, hk47⟩ := hqk47
              simp only [zput, List.set_cons_zero, List.set_cons_succ, List.append_nil, Nat.add_zero]
              refine B.if_eq (pc := 50) (tgt := 55) dX1_find_50 (by decide) (fun c50 => ?_) (fun c50 => ?_)
              · refine B.iinc (pc := 55) dX1_find_55 (by decide) rfl ⟨by omega, by omega⟩ ?_
                simp only [List.set_cons_zero, List.set_cons_succ]
                refine B.goto (pc := 58) (tgt := 2) dX1_find_58 (by decide) ?_
                refine (ih _ ?_) _ _ ⟨_, rfl, rfl, rfl, ?_⟩
                · omega
                · refine ⟨by omega, by omega, fun v hv => ?_⟩
                  by_cases e : (v : Int) = w
                  · have ev : v = w.toNat := by omega
                    subst ev
                    intro hm
                    first
                      | exact c20 hm.1
                      | exact c33 hm.2.1
                      | (have h2 := hk47.2.2.mpr ⟨by have := hm.1; omega, fun i hi => by rw [show (0 : Int).toNat + i = i from Nat.zero_add i]; exact hm.2.2 i (by have := hm.1; omega)⟩
                         omega)
                  · exact i3 v (by omega)
              · refine B.iload_n (pc := 53) (i := 2) dX1_find_53 rfl rfl ?_
                refine B.ireturn (pc := 54) (by simp) dX1_find_54 (Nat.le_refl _) (Nat.le_refl _) (fun rz rw => ⟨rfl, ?_⟩)
                refine Or.inr ⟨by omega, by omega, by omega, by omega, fun i hi => ?_⟩
                have h3 := (hk47.2.2.mp (by omega)).2 i (by omega)
                rw [show (0 : Int).toNat + i = i from Nat.zero_add i] at h3
                exact h3
  show Z 0 0 0 [some (.inr (some d_a)), some (.inr (some p_a)), none] [] _
  refine B.iconst (pc := 0) dX1_find_0 ⟨by decide, by decide⟩ ?_
  refine B.istore_n (pc := 1) (i := 2) dX1_find_1 rfl (by decide) ?_
  simp only [List.set_cons_zero, List.set_cons_succ]
  refine (key _) _ _ ⟨_, rfl, rfl, rfl, ?_⟩
  exact ⟨by omega, by omega, fun v hv => by omega⟩
set_option maxHeartbeats 4000000 in
set_option maxRecDepth 100000 in
theorem mX1_put {l : Launch} {D : va_G} {k : zK} {E : zE} (hE : zEok E) (d_a d_letters_a d_lengths_a d_kinds_a d_costs_a p_a p_signs_a : Nat) (d_count p_count p_letters p_kind p_cost : Int) (d_letters d_lengths d_kinds d_costs p_signs : Nat → Int) : zMi l D k E yX1_put cX1_put 3 .int { frames := 2, cells := 0, slots := 0, locals := 47 } 0 0 [.inr (some d_a), .inr (some p_a)] [(d_a, .inr (.inr (1, [.inr (some d_letters_a), .inr (some d_lengths_a), .inr (some d_kinds_a), .inr (some d_costs_a), .inl d_count]))), (d_letters_a, .inl (false, 96, d_letters)), (d_lengths_a, .inl (false, 16, d_lengths)), (d_kinds_a, .inl (false, 16, d_kinds)), (d_costs_a, .inl (false, 16, d_costs)), (p_a, .inr (.inr (3, [.inr (some p_signs_a), .inl p_count, .inl p_letters, .inl p_kind, .inl p_cost]))), (p_signs_a, .inl (false, 40, p_signs))] (DI d_count d_lengths d_kinds d_costs ∧ 1 ≤ p_letters ∧ p_letters ≤ 6 ∧ 0 ≤ p_kind ∧ p_kind ≤ 2 ∧ 0 ≤ p_cost ∧ p_cost ≤ 99) (fun z u => ∃ (d_count' : Int) (d_letters' : Nat → Int) (d_lengths' : Nat → Int) (d_kinds' : Nat → Int) (d_costs' : Nat → Int), u = [(d_a, .inr (.inr (1, [.inr (some d_letters_a), .inr (some d_lengths_a), .inr (some d_kinds_a), .inr (some d_costs_a), .inl d_count']))), (d_letters_a, .inl (false, 96, d_letters')), (d_lengths_a, .inl (false, 16, d_lengths')), (d_kinds_a, .inl (false, 16, d_kinds')), (d_costs_a, .inl (false, 16, d_costs')), (p_a, .inr (.inr (3, [.inr (some p_signs_a), .inl p_count, .inl p_letters, .inl p_kind, .inl p_cost]))), (p_signs_a, .inl (false, 40, p_signs))] ∧ (DI d_count' d_lengths' d_kinds' d_costs' ∧ zPT p_signs p_letters p_kind p_cost z d_count d_letters d_lengths d_kinds d_costs d_count' d_letters' d_lengths' d_kinds' d_costs')) := by
  refine zMi.of RX1 hE (by decide) rfl (by simp) (fun _ _ _ _ => rfl) ?_
  intro Z hP hav hwr B
  obtain ⟨l_d_count, u_d_count⟩ : zR d_count := zWr_at hwr (i := 0) rfl (.inl d_count) (by simp)
  obtain ⟨l_p_count, u_p_count⟩ : zR p_count := zWr_at hwr (i := 5) rfl (.inl p_count) (by simp)
  obtain ⟨l_p_letters, u_p_letters⟩ : zR p_letters := zWr_at hwr (i := 5) rfl (.inl p_letters) (by simp)
  obtain ⟨l_p_kind, u_p_kind⟩ : zR p_kind := zWr_at hwr (i := 5) rfl (.inl p_kind) (by simp)
  obtain ⟨l_p_cost, u_p_cost⟩ : zR p_cost := zWr_at hwr (i := 5) rfl (.inl p_cost) (by simp)
  obtain ⟨hD, hPW⟩ := hP
  obtain ⟨hD1, hD2, hD3⟩ := id hD
  show Z 0 0 0 [some (.inr (some d_a)), some (.inr (some p_a)), none] [] _
  refine B.aload_n (pc := 0) (i := 0) dX1_put_0 rfl rfl ?_
  refine B.aload_n (pc := 1) (i := 1) dX1_put_1 rfl rfl ?_
  refine B.callVi (pc := 2) 1 (mX1_find hE _ _ _ _ _ _ _ _ _ _ _ _ _ _ _ _ _) 0 rfl rfl ml_X1_28 im_X1_find se_X1_find it_X1 co_X1_find (by decide +kernel) rfl rfl rfl ⟨by decide, by decide⟩ ⟨by decide, by decide⟩ [0, 1, 2, 3, 4, 5, 6] rfl rfl rfl (Nat.le_of_ble_eq_true rfl) dX1_put_2 (fun _ => ⟨hD, hPW⟩) (fun zk2 uk2 rzk2 ruk2 rak2 hqk2 => ?_)
  obtain ⟨lzk2, uzk2⟩ := rzk2
  obtain ⟨rfl, hk2⟩ := hqk2
  simp only [zput, List.set_cons_zero, List.set_cons_succ, List.append_nil, Nat.add_zero]
  refine B.istore_n (pc := 5) (i := 2) dX1_put_5 rfl (by decide) ?_
  simp only [List.set_cons_zero, List.set_cons_succ]
  refine B.iload_n (pc := 6) (i := 2) dX1_put_6 rfl rfl ?_
  refine B.bipush (pc := 7) dX1_put_7 ⟨by decide, by decide⟩ ?_
  refine B.icmp_ne (pc := 9) (tgt := 79) dX1_put_9 (by decide) (fun c9 => ?_) (fun c9 => ?_)
  · refine B.aload_n (pc := 79) (i := 0) dX1_put_79 rfl rfl ?_
    refine B.getfield (pc := 80) 0 rfl rfl inX1z 3 (by decide) fl_X1_21 rfl dX1_put_80 ?_
    refine B.iload_n (pc := 83) (i := 2) dX1_put_83 rfl rfl ?_
    refine B.aload_n (pc := 84) (i := 1) dX1_put_84 rfl rfl ?_
    refine B.getfield (pc := 85) 5 rfl rfl inX3z 4 (by decide) fl_X1_48 rfl dX1_put_85 ?_
    refine B.iastore (pc := 88) 4 rfl (by omega) (by omega) dX1_put_88 ?_
    simp only [List.set_cons_zero, List.set_cons_succ]
    refine B.iload_n (pc := 89) (i := 2) dX1_put_89 rfl rfl ?_
    refine B.ireturn (pc := 90) (by simp) dX1_put_90 (Nat.le_refl _) (Nat.le_refl _) (fun rz rw => ⟨_, _, _, _, _, rfl, ?_⟩)
    first
      | (refine ⟨DI.add hD (by omega) (by omega) (by omega) (by omega), Or.inr (Or.inl ⟨rfl, by omega, hno, rfl, fun v hv => ⟨zup_ne (by omega), zup_ne (by omega), zup_ne (by omega), fun i hi => zcp_out (by omega)⟩, zup_eq, zup_eq, zup_eq, fun i hi => ?_⟩)⟩
         rw [zcp_in (by omega) (by omega)]
         congr 1
         omega)
      | (have hm : 0 ≤ zk2 ∧ zk2 < d_count ∧ MT d_letters d_lengths d_kinds p_signs p_letters p_kind zk2.toNat := by
           rcases hk2 with h | h
           · omega
           · exact h
         exact ⟨DI.cost hD (by omega) (by omega) (by omega), Or.inr (Or.inr ⟨zk2.toNat, by omega, by omega, hm.2.2, rfl, fun v hv => ⟨rfl, rfl, fun hne => zup_ne hne, fun i _ => rfl⟩, zup_eq⟩)⟩)
  · have hno : ∀ v : Nat, (v : Int) < d_count → ¬ MT d_letters d_lengths d_kinds p_signs p_letters p_kind v := by
      rcases hk2 with h | h
      · exact h.2
      · omega
    refine B.aload_n (pc := 12) (i := 0) dX1_put_12 rfl rfl ?_
    refine B.getfield (pc := 13) 0 rfl rfl inX1z 4 (by decide) fl_X1_24 rfl dX1_put_13 ?_
    refine B.bipush (pc := 16) dX1_put_16 ⟨by decide, by decide⟩ ?_
    refine B.icmp_lt (pc := 18) (tgt := 24) dX1_put_18 (by decide) (fun c18 => ?_) (fun c18 => ?_)
    · refine B.aload_n (pc := 24) (i := 0) dX1_put_24 rfl rfl ?_
      refine B.getfield (pc := 25) 0 rfl rfl inX1z 4 (by decide) fl_X1_24 rfl dX1_put_25 ?_
      refine B.istore_n (pc := 28) (i := 2) dX1_put_28 rfl (by decide) ?_
      simp only [List.set_cons_zero, List.set_cons_succ]
      refine B.aload_n (pc := 29) (i := 0) dX1_put_29 rfl rfl ?_
      refine B.dup (pc := 30) dX1_put_30 ?_
      refine B.getfield (pc := 31) 0 rfl rfl inX1z 4 (by decide) fl_X1_24 rfl dX1_put_31 ?_
      refine B.iconst (pc := 34) dX1_put_34 ⟨by decide, by decide⟩ ?_
      refine B.iadd (pc := 35) dX1_put_35 ⟨by omega, by omega⟩ ?_
      refine B.putfield (pc := 36) 0 rfl rfl inX1z tyX1 tyX1_ok nmX1 4 (by decide) fl_X1_24 rfl rfl rfl (Nat.le_of_ble_eq_true rfl) dX1_put_36 ?_
      simp only [List.set_cons_zero, List.set_cons_succ]
      refine B.aload_n (pc := 39) (i := 0) dX1_put_39 rfl rfl ?_
      refine B.getfield (pc := 40) 0 rfl rfl inX1z 1 (by decide) fl_X1_15 rfl dX1_put_40 ?_
      refine B.iload_n (pc := 43) (i := 2) dX1_put_43 rfl rfl ?_
      refine B.aload_n (pc := 44) (i := 1) dX1_put_44 rfl rfl ?_
      refine B.getfield (pc := 45) 5 rfl rfl inX3z 2 (by decide) fl_X1_32 rfl dX1_put_45 ?_
      refine B.iastore (pc := 48) 2 rfl (by omega) (by omega) dX1_put_48 ?_
      simp only [List.set_cons_zero, List.set_cons_succ]
      refine B.aload_n (pc := 49) (i := 0) dX1_put_49 rfl rfl ?_
      refine B.getfield (pc := 50) 0 rfl rfl inX1z 2 (by decide) fl_X1_18 rfl dX1_put_50 ?_
      refine B.iload_n (pc := 53) (i := 2) dX1_put_53 rfl rfl ?_
      refine B.aload_n (pc := 54) (i := 1) dX1_put_54 rfl rfl ?_
      refine B.getfield (pc := 55) 5 rfl rfl inX3z 3 (by decide) fl_X1_36 rfl dX1_put_55 ?_
      refine B.iastore (pc := 58) 3 rfl (by omega) (by omega) dX1_put_58 ?_
      simp only [List.set_cons_zero, List.set_cons_succ]
      refine B.aload_n (pc := 59) (i := 1) dX1_put_59 rfl rfl ?_
      refine B.getfield (pc := 60) 5 rfl rfl inX3z 0 (by decide) fl_X1_39 rfl dX1_put_60 ?_
      refine B.iconst (pc := 63) dX1_put_63 ⟨by decide, by decide⟩ ?_
      refine B.aload_n (pc := 64) (i := 0) dX1_put_64 rfl rfl ?_
      refine B.getfield (pc := 65) 0 rfl rfl inX1z 0 (by decide) fl_X1_9 rfl dX1_put_65 ?_
      refine B.iload_n (pc := 68) (i := 2) dX1_put_68 rfl rfl ?_
      refine B.bipush (pc := 69) dX1_put_69 ⟨by decide, by decide⟩ ?_
      refine B.imul (pc := 71) dX1_put_71 ⟨by omega, by omega⟩ ?_
      refine B.aload_n (pc := 72) (i := 1) dX1_put_72 rfl rfl ?_
      refine B.getfield (pc := 73) 5 rfl rfl inX3z 2 (by decide) fl_X1_32 rfl dX1_put_73 ?_
      refine B.acopy (pc := 76) ml_X1_42 na_java_lang_System_arraycopy sm_java_lang_System_arraycopy it_J10 6 1 rfl rfl (by omega) (by omega) (by omega) (by omega) (by omega) (by decide) (Nat.le_of_ble_eq_true rfl) dX1_put_76 ?_
      simp only [List.set_cons_zero, List.set_cons_succ]
      refine B.aload_n (pc := 79) (i := 0) dX1_put_79 rfl rfl ?_
      refine B.getfield (pc := 80) 0 rfl rfl inX1z 3 (by decide) fl_X1_21 rfl dX1_put_80 ?_
      refine B.iload_n (pc := 83) (i := 2) dX1_put_83 rfl rfl ?_
      refine B.aload_n (pc := 84) (i := 1) dX1_put_84 rfl rfl ?_
      refine B.getfield (pc := 85) 5 rfl rfl inX3z 4 (by decide) fl_X1_48 rfl dX1_put_85 ?_
      refine B.iastore (pc := 88) 4 rfl (by omega) (by omega) dX1_put_88 ?_
      simp only [List.set_cons_zero, List.set_cons_succ]
      refine B.iload_n (pc := 89) (i := 2) dX1_put_89 rfl rfl ?_
      refine B.ireturn (pc := 90) (by simp) dX1_put_90 (Nat.le_refl _) (Nat.le_refl _) (fun rz rw => ⟨_, _, _, _, _, rfl, ?_⟩)
      first
        | (refine ⟨DI.add hD (by omega) (by omega) (by omega) (by omega), Or.inr (Or.inl ⟨rfl, by omega, hno, rfl, fun v hv => ⟨zup_ne (by omega), zup_ne (by omega), zup_ne (by omega), fun i hi => zcp_out (by omega)⟩, zup_eq, zup_eq, zup_eq, fun i hi => ?_⟩)⟩
           rw [zcp_in (by omega) (by omega)]
           congr 1
           omega)
        | (have hm : 0 ≤ zk2 ∧ zk2 < d_count ∧ MT d_letters d_lengths d_kinds p_signs p_letters p_kind zk2.toNat := by
             rcases hk2 with h | h
             · omega
             · exact h
           exact ⟨DI.cost hD (by omega) (by omega) (by omega), Or.inr (Or.inr ⟨zk2.toNat, by omega, by omega, hm.2.2, rfl, fun v hv => ⟨rfl, rfl, fun hne => zup_ne hne, fun i _ => rfl⟩, zup_eq⟩)⟩)
    · refine B.bipush (pc := 21) dX1_put_21 ⟨by decide, by decide⟩ ?_
      refine B.ireturn (pc := 23) (by simp) dX1_put_23 (Nat.le_refl _) (Nat.le_refl _) (fun rz rw => ⟨_, _, _, _, _, rfl, ?_⟩)
      exact ⟨hD, Or.inl ⟨rfl, by omega, hno, rfl, rfl, rfl, rfl, rfl⟩⟩
set_option maxHeartbeats 4000000 in
set_option maxRecDepth 100000 in
theorem mX1_remove {l : Launch} {D : va_G} {k : zK} {E : zE} (hE : zEok E) (d_a d_letters_a d_lengths_a d_kinds_a d_costs_a : Nat) (d_count number : Int) (d_letters d_lengths d_kinds d_costs : Nat → Int) : zMv l D k E yX1_remove cX1_remove 3 { frames := 1, cells := 0, slots := 0, locals := 26 } 0 0 [.inr (some d_a), .inl number] [(d_a, .inr (.inr (1, [.inr (some d_letters_a), .inr (some d_lengths_a), .inr (some d_kinds_a), .inr (some d_costs_a), .inl d_count]))), (d_letters_a, .inl (false, 96, d_letters)), (d_lengths_a, .inl (false, 16, d_lengths)), (d_kinds_a, .inl (false, 16, d_kinds)), (d_costs_a, .inl (false, 16, d_costs))] (DI d_count d_lengths d_kinds d_costs ∧ 0 ≤ number ∧ number < d_count) (fun z u => ∃ (d_count' : Int) (d_letters' : Nat → Int) (d_lengths' : Nat → Int) (d_kinds' : Nat → Int) (d_costs' : Nat → Int), u = [(d_a, .inr (.inr (1, [.inr (some d_letters_a), .inr (some d_lengths_a), .inr (some d_kinds_a), .inr (some d_costs_a), .inl d_count']))), (d_letters_a, .inl (false, 96, d_letters')), (d_lengths_a, .inl (false, 16, d_lengths')), (d_kinds_a, .inl (false, 16, d_kinds')), (d_costs_a, .inl (false, 16, d_costs'))] ∧ (DI d_count' d_lengths' d_kinds' d_costs' ∧ d_count' = d_count - 1 ∧ zRM number.toNat d_count d_letters d_lengths d_kinds d_costs d_letters' d_lengths' d_kinds' d_costs')) := by
  refine zMv.of RX1 hE (by decide) rfl (by simp) ?_
  intro Z hP hav hwr B
  obtain ⟨l_number, u_number⟩ : zR number := hav (.inl number) (by simp)
  obtain ⟨l_d_count, u_d_count⟩ : zR d_count := zWr_at hwr (i := 0) rfl (.inl d_count) (by simp)
  obtain ⟨hD, hN⟩ := hP
  obtain ⟨hD1, hD2, hD3⟩ := id hD
  show Z 0 0 0 [some (.inr (some d_a)), some (.inl number), none] [] _
  refine B.aload_n (pc := 0) (i := 0) dX1_remove_0 rfl rfl ?_
  refine B.getfield (pc := 1) 0 rfl rfl inX1z 4 (by decide) fl_X1_24 rfl dX1_remove_1 ?_
  refine B.iload_n (pc := 4) (i := 1) dX1_remove_4 rfl rfl ?_
  refine B.isub (pc := 5) dX1_remove_5 ⟨by omega, by omega⟩ ?_
  refine B.iconst (pc := 6) dX1_remove_6 ⟨by decide, by decide⟩ ?_
  refine B.isub (pc := 7) dX1_remove_7 ⟨by omega, by omega⟩ ?_
  refine B.istore_n (pc := 8) (i := 2) dX1_remove_8 rfl (by decide) ?_
  simp only [List.set_cons_zero, List.set_cons_succ]
  refine B.aload_n (pc := 9) (i := 0) dX1_remove_9 rfl rfl ?_
  refine B.getfield (pc := 10) 0 rfl rfl inX1z 0 (by decide) fl_X1_9 rfl dX1_remove_10 ?_
  refine B.iload_n (pc := 13) (i := 1) dX1_remove_13 rfl rfl ?_
  refine B.iconst (pc := 14) dX1_remove_14 ⟨by decide, by decide⟩ ?_
  refine B.iadd (pc := 15) dX1_remove_15 ⟨by omega, by omega⟩ ?_
  refine B.bipush (pc := 16) dX1_remove_16 ⟨by decide, by decide⟩ ?_
  refine B.imul (pc := 18) dX1_remove_18 ⟨by omega, by omega⟩ ?_
  refine B.aload_n (pc := 19) (i := 0) dX1_remove_19 rfl rfl ?_
  refine B.getfield (pc := 20) 0 rfl rfl inX1z 0 (by decide) fl_X1_9 rfl dX1_remove_20 ?_
  refine B.iload_n (pc := 23) (i := 1) dX1_remove_23 rfl rfl ?_
  refine B.bipush (pc := 24) dX1_remove_24 ⟨by decide, by decide⟩ ?_
  refine B.imul (pc := 26) dX1_remove_26 ⟨by omega, by omega⟩ ?_
  refine B.iload_n (pc := 27) (i := 2) dX1_remove_27 rfl rfl ?_
  refine B.bipush (pc := 28) dX1_remove_28 ⟨by decide, by decide⟩ ?_
  refine B.imul (pc := 30) dX1_remove_30 ⟨by omega, by omega⟩ ?_
  refine B.acopy (pc := 31) ml_X1_42 na_java_lang_System_arraycopy sm_java_lang_System_arraycopy it_J10 1 1 rfl rfl (by omega) (by omega) (by omega) (by omega) (by omega) (by decide) (Nat.le_of_ble_eq_true rfl) dX1_remove_31 ?_
  simp only [List.set_cons_zero, List.set_cons_succ]
  refine B.aload_n (pc := 34) (i := 0) dX1_remove_34 rfl rfl ?_
  refine B.getfield (pc := 35) 0 rfl rfl inX1z 1 (by decide) fl_X1_15 rfl dX1_remove_35 ?_
  refine B.iload_n (pc := 38) (i := 1) dX1_remove_38 rfl rfl ?_
  refine B.iconst (pc := 39) dX1_remove_39 ⟨by decide, by decide⟩ ?_
  refine B.iadd (pc := 40) dX1_remove_40 ⟨by omega, by omega⟩ ?_
  refine B.aload_n (pc := 41) (i := 0) dX1_remove_41 rfl rfl ?_
  refine B.getfield (pc := 42) 0 rfl rfl inX1z 1 (by decide) fl_X1_15 rfl dX1_remove_42 ?_
  refine B.iload_n (pc := 45) (i := 1) dX1_remove_45 rfl rfl ?_
  refine B.iload_n (pc := 46) (i := 2) dX1_remove_46 rfl rfl ?_
  refine B.acopy (pc := 47) ml_X1_42 na_java_lang_System_arraycopy sm_java_lang_System_arraycopy it_J10 2 2 rfl rfl (by omega) (by omega) (by omega) (by omega) (by omega) (by decide) (Nat.le_of_ble_eq_true rfl) dX1_remove_47 ?_
  simp only [List.set_cons_zero, List.set_cons_succ]
  refine B.aload_n (pc := 50) (i := 0) dX1_remove_50 rfl rfl ?_
  refine B.getfield (pc := 51) 0 rfl rfl inX1z 2 (by decide) fl_X1_18 rfl dX1_remove_51 ?_
  refine B.iload_n (pc := 54) (i := 1) dX1_remove_54 rfl rfl ?_
  refine B.iconst (pc := 55) dX1_remove_55 ⟨by decide, by decide⟩ ?_
  refine B.iadd (pc := 56) dX1_remove_56 ⟨by omega, by omega⟩ ?_
  refine B.aload_n (pc := 57) (i := 0) dX1_remove_57 rfl rfl ?_
  refine B.getfield (pc := 58) 0 rfl rfl inX1z 2 (by decide) fl_X1_18 rfl dX1_remove_58 ?_
  refine B.iload_n (pc := 61) (i := 1) dX1_remove_61 rfl rfl ?_
  refine B.iload_n (pc := 62) (i := 2) dX1_remove_62 rfl rfl ?_
  refine B.acopy (pc := 63) ml_X1_42 na_java_lang_System_arraycopy sm_java_lang_System_arraycopy it_J10 3 3 rfl rfl (by omega) (by omega) (by omega) (by omega) (by omega) (by decide) (Nat.le_of_ble_eq_true rfl) dX1_remove_63 ?_
  simp only [List.set_cons_zero, List.set_cons_succ]
  refine B.aload_n (pc := 66) (i := 0) dX1_remove_66 rfl rfl ?_
  refine B.getfield (pc := 67) 0 rfl rfl inX1z 3 (by decide) fl_X1_21 rfl dX1_remove_67 ?_
  refine B.iload_n (pc := 70) (i := 1) dX1_remove_70 rfl rfl ?_
  refine B.iconst (pc := 71) dX1_remove_71 ⟨by decide, by decide⟩ ?_
  refine B.iadd (pc := 72) dX1_remove_72 ⟨by omega, by omega⟩ ?_
  refine B.aload_n (pc := 73) (i := 0) dX1_remove_73 rfl rfl ?_
  refine B.getfield (pc := 74) 0 rfl rfl inX1z 3 (by decide) fl_X1_21 rfl dX1_remove_74 ?_
  refine B.iload_n (pc := 77) (i := 1) dX1_remove_77 rfl rfl ?_
  refine B.iload_n (pc := 78) (i := 2) dX1_remove_78 rfl rfl ?_
  refine B.acopy (pc := 79) ml_X1_42 na_java_lang_System_arraycopy sm_java_lang_System_arraycopy it_J10 4 4 rfl rfl (by omega) (by omega) (by omega) (by omega) (by omega) (by decide) (Nat.le_of_ble_eq_true rfl) dX1_remove_79 ?_
  simp only [List.set_cons_zero, List.set_cons_succ]
  refine B.aload_n (pc := 82) (i := 0) dX1_remove_82 rfl rfl ?_
  refine B.dup (pc := 83) dX1_remove_83 ?_
  refine B.getfield (pc := 84) 0 rfl rfl inX1z 4 (by decide) fl_X1_24 rfl dX1_remove_84 ?_
  refine B.iconst (pc := 87) dX1_remove_87 ⟨by decide, by decide⟩ ?_
  refine B.isub (pc := 88) dX1_remove_88 ⟨by omega, by omega⟩ ?_
  refine B.putfield (pc := 89) 0 rfl rfl inX1z tyX1 tyX1_ok nmX1 4 (by decide) fl_X1_24 rfl rfl rfl (Nat.le_of_ble_eq_true rfl) dX1_remove_89 ?_
  simp only [List.set_cons_zero, List.set_cons_succ]
  refine B.vreturn (pc := 92) rfl dX1_remove_92 (Nat.le_refl _) (Nat.le_refl _) (fun rw => ⟨_, _, _, _, _, rfl, ?_⟩)
  exact ⟨DI.rem hD hN.1 hN.2 (by omega) (by omega) (by omega), rfl, fun v hv => ⟨zcp_sh (by omega) rfl (by omega), zcp_sh (by omega) rfl (by omega), zcp_sh (by omega) rfl (by omega), fun i hi => zcp_sh6 (m := (d_count - number - 1).toNat) (by omega) (by omega) (by omega) (by omega) hi⟩⟩
set_option maxHeartbeats 4000000 in
set_option maxRecDepth 100000 in
theorem mX1_tell {l : Launch} {D : va_G} {k : zK} {E : zE} (hE : zEok E) (d_a d_letters_a d_lengths_a d_kinds_a d_costs_a : Nat) (d_count number what : Int) (d_letters d_lengths d_kinds d_costs : Nat → Int) : zMi l D k E yX1_tell cX1_tell 4 .int { frames := 0, cells := 0, slots := 0, locals := 0 } 0 0 [.inr (some d_a), .inl number, .inl what] [(d_a, .inr (.inr (1, [.inr (some d_letters_a), .inr (some d_lengths_a), .inr (some d_kinds_a), .inr (some d_costs_a), .inl d_count]))), (d_letters_a, .inl (false, 96, d_letters)), (d_lengths_a, .inl (false, 16, d_lengths)), (d_kinds_a, .inl (false, 16, d_kinds)), (d_costs_a, .inl (false, 16, d_costs))] (0 ≤ number ∧ number < 16 ∧ 0 ≤ d_lengths number.toNat ∧ d_lengths number.toNat ≤ 6 ∧ 0 ≤ what) (fun z u => u = [(d_a, .inr (.inr (1, [.inr (some d_letters_a), .inr (some d_lengths_a), .inr (some d_kinds_a), .inr (some d_costs_a), .inl d_count]))), (d_letters_a, .inl (false, 96, d_letters)), (d_lengths_a, .inl (false, 16, d_lengths)), (d_kinds_a, .inl (false, 16, d_kinds)), (d_costs_a, .inl (false, 16, d_costs))] ∧ (TL d_letters d_lengths d_kinds d_costs number.toNat what z)) := by
  refine zMi.of RX1 hE (by decide) rfl (by simp) (fun _ _ _ _ => rfl) ?_
  intro Z hP hav hwr B
  obtain ⟨l_number, u_number⟩ : zR number := hav (.inl number) (by simp)
  obtain ⟨l_what, u_what⟩ : zR what := hav (.inl what) (by simp)
  obtain ⟨l_d_count, u_d_count⟩ : zR d_count := zWr_at hwr (i := 0) rfl (.inl d_count) (by simp)
  show Z 0 0 0 [some (.inr (some d_a)), some (.inl number), some (.inl what), none] [] _
  refine B.iload_n (pc := 0) (i := 2) dX1_tell_0 rfl rfl ?_
  refine zsplitE (X := fun v => Z _ _ 1 _ (.inl v :: _) _) (0) (fun e1_0 => ?_) (fun c1_0 => ?_)
  · refine B.tsIn (pc := 1) (tgt := 28) dX1_tell_1 (by decide) (by decide) rfl (by decide) ?_
    refine B.aload_n (pc := 28) (i := 0) dX1_tell_28 rfl rfl ?_
    refine B.getfield (pc := 29) 0 rfl rfl inX1z 1 (by decide) fl_X1_15 rfl dX1_tell_29 ?_
    refine B.iload_n (pc := 32) (i := 1) dX1_tell_32 rfl rfl ?_
    refine B.iaload (pc := 33) 2 rfl (by omega) (by omega) dX1_tell_33 (fun r33 => ?_)
    obtain ⟨lr33, ur33⟩ := r33
    refine B.ireturn (pc := 34) (by simp) dX1_tell_34 (Nat.le_refl _) (Nat.le_refl _) (fun rz rw => ⟨rfl, ?_⟩)
    unfold TL
    first | omega | (rw [show (number * 6 + (what - 3)).toNat = 6 * number.toNat + (what - 3).toNat by omega]; omega)
  refine zsplitE (X := fun v => Z _ _ 1 _ (.inl v :: _) _) (1) (fun e1_1 => ?_) (fun c1_1 => ?_)
  · refine B.tsIn (pc := 1) (tgt := 35) dX1_tell_1 (by decide) (by decide) rfl (by decide) ?_
    refine B.aload_n (pc := 35) (i := 0) dX1_tell_35 rfl rfl ?_
    refine B.getfield (pc := 36) 0 rfl rfl inX1z 2 (by decide) fl_X1_18 rfl dX1_tell_36 ?_
    refine B.iload_n (pc := 39) (i := 1) dX1_tell_39 rfl rfl ?_
    refine B.iaload (pc := 40) 3 rfl (by omega) (by omega) dX1_tell_40 (fun r40 => ?_)
    obtain ⟨lr40, ur40⟩ := r40
    refine B.ireturn (pc := 41) (by simp) dX1_tell_41 (Nat.le_refl _) (Nat.le_refl _) (fun rz rw => ⟨rfl, ?_⟩)
    unfold TL
    first | omega | (rw [show (number * 6 + (what - 3)).toNat = 6 * number.toNat + (what - 3).toNat by omega]; omega)
  refine zsplitE (X := fun v => Z _ _ 1 _ (.inl v :: _) _) (2) (fun e1_2 => ?_) (fun c1_2 => ?_)
  · refine B.tsIn (pc := 1) (tgt := 42) dX1_tell_1 (by decide) (by decide) rfl (by decide) ?_
    refine B.aload_n (pc := 42) (i := 0) dX1_tell_42 rfl rfl ?_
    refine B.getfield (pc := 43) 0 rfl rfl inX1z 3 (by decide) fl_X1_21 rfl dX1_tell_43 ?_
    refine B.iload_n (pc := 46) (i := 1) dX1_tell_46 rfl rfl ?_
    refine B.iaload (pc := 47) 4 rfl (by omega) (by omega) dX1_tell_47 (fun r47 => ?_)
    obtain ⟨lr47, ur47⟩ := r47
    refine B.ireturn (pc := 48) (by simp) dX1_tell_48 (Nat.le_refl _) (Nat.le_refl _) (fun rz rw => ⟨rfl, ?_⟩)
    unfold TL
    first | omega | (rw [show (number * 6 + (what - 3)).toNat = 6 * number.toNat + (what - 3).toNat by omega]; omega)
  refine B.tsOut (pc := 1) (tgt := 49) dX1_tell_1 (by omega) (by decide) ?_
  refine B.iload_n (pc := 49) (i := 2) dX1_tell_49 rfl rfl ?_
  refine B.iconst (pc := 50) dX1_tell_50 ⟨by decide, by decide⟩ ?_
  refine B.isub (pc := 51) dX1_tell_51 ⟨by omega, by omega⟩ ?_
  refine B.istore_n (pc := 52) (i := 3) dX1_tell_52 rfl (by decide) ?_
  simp only [List.set_cons_zero, List.set_cons_succ]
  refine B.iload_n (pc := 53) (i := 3) dX1_tell_53 rfl rfl ?_
  refine B.if_lt (pc := 54) (tgt := 81) dX1_tell_54 (by decide) (fun c54 => ?_) (fun c54 => ?_)
  · refine B.bipush (pc := 81) dX1_tell_81 ⟨by decide, by decide⟩ ?_
    refine B.ireturn (pc := 83) (by simp) dX1_tell_83 (Nat.le_refl _) (Nat.le_refl _) (fun rz rw => ⟨rfl, ?_⟩)
    unfold TL
    first | omega | (rw [show (number * 6 + (what - 3)).toNat = 6 * number.toNat + (what - 3).toNat by omega]; omega)
  · refine B.iload_n (pc := 57) (i := 3) dX1_tell_57 rfl rfl ?_
    refine B.aload_n (pc := 58) (i := 0) dX1_tell_58 rfl rfl ?_
    refine B.getfield (pc := 59) 0 rfl rfl inX1z 1 (by decide) fl_X1_15 rfl dX1_tell_59 ?_
    refine B.iload_n (pc := 62) (i := 1) dX1_tell_62 rfl rfl ?_
    refine B.iaload (pc := 63) 2 rfl (by omega) (by omega) dX1_tell_63 (fun r63 => ?_)
    obtain ⟨lr63, ur63⟩ := r63
    refine B.icmp_ge (pc := 64) (tgt := 81) dX1_tell_64 (by decide) (fun c64 => ?_) (fun c64 => ?_)
    · refine B.bipush (pc := 81) dX1_tell_81 ⟨by decide, by decide⟩ ?_
      refine B.ireturn (pc := 83) (by simp) dX1_tell_83 (Nat.le_refl _) (Nat.le_refl _) (fun rz rw => ⟨rfl, ?_⟩)
      unfold TL
      first | omega | (rw [show (number * 6 + (what - 3)).toNat = 6 * number.toNat + (what - 3).toNat by omega]; omega)
    · refine B.aload_n (pc := 67) (i := 0) dX1_tell_67 rfl rfl ?_
      refine B.getfield (pc := 68) 0 rfl rfl inX1z 0 (by decide) fl_X1_9 rfl dX1_tell_68 ?_
      refine B.iload_n (pc := 71) (i := 1) dX1_tell_71 rfl rfl ?_
      refine B.bipush (pc := 72) dX1_tell_72 ⟨by decide, by decide⟩ ?_
      refine B.imul (pc := 74) dX1_tell_74 ⟨by omega, by omega⟩ ?_
      refine B.iload_n (pc := 75) (i := 3) dX1_tell_75 rfl rfl ?_
      refine B.iadd (pc := 76) dX1_tell_76 ⟨by omega, by omega⟩ ?_
      refine B.iaload (pc := 77) 1 rfl (by omega) (by omega) dX1_tell_77 (fun r77 => ?_)
      obtain ⟨lr77, ur77⟩ := r77
      refine B.goto (pc := 78) (tgt := 83) dX1_tell_78 (by decide) ?_
      refine B.ireturn (pc := 83) (by simp) dX1_tell_83 (Nat.le_refl _) (Nat.le_refl _) (fun rz rw => ⟨rfl, ?_⟩)
      unfold TL
      first | omega | (rw [show (number * 6 + (what - 3)).toNat = 6 * number.toNat + (what - 3).toNat by omega]; omega)
set_option maxHeartbeats 4000000 in
set_option maxRecDepth 100000 in
theorem mX1_copy {l : Launch} {D : va_G} {k : zK} {E : zE} (hE : zEok E) (d_a d_letters_a d_lengths_a d_kinds_a d_costs_a o_a o_letters_a o_lengths_a o_kinds_a o_costs_a : Nat) (d_count o_count : Int) (d_letters d_lengths d_kinds d_costs o_letters o_lengths o_kinds o_costs : Nat → Int) : zMv l D k E yX1_copy cX1_copy 2 { frames := 1, cells := 0, slots := 0, locals := 26 } 0 0 [.inr (some d_a), .inr (some o_a)] [(d_a, .inr (.inr (1, [.inr (some d_letters_a), .inr (some d_lengths_a), .inr (some d_kinds_a), .inr (some d_costs_a), .inl d_count]))), (d_letters_a, .inl (false, 96, d_letters)), (d_lengths_a, .inl (false, 16, d_lengths)), (d_kinds_a, .inl (false, 16, d_kinds)), (d_costs_a, .inl (false, 16, d_costs)), (o_a, .inr (.inr (1, [.inr (some o_letters_a), .inr (some o_lengths_a), .inr (some o_kinds_a), .inr (some o_costs_a), .inl o_count]))), (o_letters_a, .inl (false, 96, o_letters)), (o_lengths_a, .inl (false, 16, o_lengths)), (o_kinds_a, .inl (false, 16, o_kinds)), (o_costs_a, .inl (false, 16, o_costs))] (True) (fun z u => ∃ (d_count' : Int) (d_letters' : Nat → Int) (d_lengths' : Nat → Int) (d_kinds' : Nat → Int) (d_costs' : Nat → Int), u = [(d_a, .inr (.inr (1, [.inr (some d_letters_a), .inr (some d_lengths_a), .inr (some d_kinds_a), .inr (some d_costs_a), .inl d_count']))), (d_letters_a, .inl (false, 96, d_letters')), (d_lengths_a, .inl (false, 16, d_lengths')), (d_kinds_a, .inl (false, 16, d_kinds')), (d_costs_a, .inl (false, 16, d_costs')), (o_a, .inr (.inr (1, [.inr (some o_letters_a), .inr (some o_lengths_a), .inr (some o_kinds_a), .inr (some o_costs_a), .inl o_count]))), (o_letters_a, .inl (false, 96, o_letters)), (o_lengths_a, .inl (false, 16, o_lengths)), (o_kinds_a, .inl (false, 16, o_kinds)), (o_costs_a, .inl (false, 16, o_costs))] ∧ (d_count' = o_count ∧ (∀ j : Nat, j < 96 → d_letters' j = o_letters j) ∧ (∀ j : Nat, j < 16 → d_lengths' j = o_lengths j) ∧ (∀ j : Nat, j < 16 → d_kinds' j = o_kinds j) ∧ (∀ j : Nat, j < 16 → d_costs' j = o_costs j))) := by
  refine zMv.of RX1 hE (by decide) rfl (by simp) ?_
  intro Z hP hav hwr B
  obtain ⟨l_d_count, u_d_count⟩ : zR d_count := zWr_at hwr (i := 0) rfl (.inl d_count) (by simp)
  obtain ⟨l_o_count, u_o_count⟩ : zR o_count := zWr_at hwr (i := 5) rfl (.inl o_count) (by simp)
  show Z 0 0 0 [some (.inr (some d_a)), some (.inr (some o_a))] [] _
  refine B.aload_n (pc := 0) (i := 1) dX1_copy_0 rfl rfl ?_
  refine B.getfield (pc := 1) 5 rfl rfl inX1z 0 (by decide) fl_X1_9 rfl dX1_copy_1 ?_
  refine B.iconst (pc := 4) dX1_copy_4 ⟨by decide, by decide⟩ ?_
  refine B.aload_n (pc := 5) (i := 0) dX1_copy_5 rfl rfl ?_
  refine B.getfield (pc := 6) 0 rfl rfl inX1z 0 (by decide) fl_X1_9 rfl dX1_copy_6 ?_
  refine B.iconst (pc := 9) dX1_copy_9 ⟨by decide, by decide⟩ ?_
  refine B.bipush (pc := 10) dX1_copy_10 ⟨by decide, by decide⟩ ?_
  refine B.acopy (pc := 12) ml_X1_42 na_java_lang_System_arraycopy sm_java_lang_System_arraycopy it_J10 6 1 rfl rfl (by omega) (by omega) (by omega) (by omega) (by omega) (by decide) (Nat.le_of_ble_eq_true rfl) dX1_copy_12 ?_
  simp only [List.set_cons_zero, List.set_cons_succ]
  refine B.aload_n (pc := 15) (i := 1) dX1_copy_15 rfl rfl ?_
  refine B.getfield (pc := 16) 5 rfl rfl inX1z 1 (by decide) fl_X1_15 rfl dX1_copy_16 ?_
  refine B.iconst (pc := 19) dX1_copy_19 ⟨by decide, by decide⟩ ?_
  refine B.aload_n (pc := 20) (i := 0) dX1_copy_20 rfl rfl ?_
  refine B.getfield (pc := 21) 0 rfl rfl inX1z 1 (by decide) fl_X1_15 rfl dX1_copy_21 ?_
  refine B.iconst (pc := 24) dX1_copy_24 ⟨by decide, by decide⟩ ?_
  refine B.bipush (pc := 25) dX1_copy_25 ⟨by decide, by decide⟩ ?_
  refine B.acopy (pc := 27) ml_X1_42 na_java_lang_System_arraycopy sm_java_lang_System_arraycopy it_J10 7 2 rfl rfl (by omega) (by omega) (by omega) (by omega) (by omega) (by decide) (Nat.le_of_ble_eq_true rfl) dX1_copy_27 ?_
  simp only [List.set_cons_zero, List.set_cons_succ]
  refine B.aload_n (pc := 30) (i := 1) dX1_copy_30 rfl rfl ?_
  refine B.getfield (pc := 31) 5 rfl rfl inX1z 2 (by decide) fl_X1_18 rfl dX1_copy_31 ?_
  refine B.iconst (pc := 34) dX1_copy_34 ⟨by decide, by decide⟩ ?_
  refine B.aload_n (pc := 35) (i := 0) dX1_copy_35 rfl rfl ?_
  refine B.getfield (pc := 36) 0 rfl rfl inX1z 2 (by decide) fl_X1_18 rfl dX1_copy_36 ?_
  refine B.iconst (pc := 39) dX1_copy_39 ⟨by decide, by decide⟩ ?_
  refine B.bipush (pc := 40) dX1_copy_40 ⟨by decide, by decide⟩ ?_
  refine B.acopy (pc := 42) ml_X1_42 na_java_lang_System_arraycopy sm_java_lang_System_arraycopy it_J10 8 3 rfl rfl (by omega) (by omega) (by omega) (by omega) (by omega) (by decide) (Nat.le_of_ble_eq_true rfl) dX1_copy_42 ?_
  simp only [List.set_cons_zero, List.set_cons_succ]
  refine B.aload_n (pc := 45) (i := 1) dX1_copy_45 rfl rfl ?_
  refine B.getfield (pc := 46) 5 rfl rfl inX1z 3 (by decide) fl_X1_21 rfl dX1_copy_46 ?_
  refine B.iconst (pc := 49) dX1_copy_49 ⟨by decide, by decide⟩ ?_
  refine B.aload_n (pc := 50) (i := 0) dX1_copy_50 rfl rfl ?_
  refine B.getfield (pc := 51) 0 rfl rfl inX1z 3 (by decide) fl_X1_21 rfl dX1_copy_51 ?_
  refine B.iconst (pc := 54) dX1_copy_54 ⟨by decide, by decide⟩ ?_
  refine B.bipush (pc := 55) dX1_copy_55 ⟨by decide, by decide⟩ ?_
  refine B.acopy (pc := 57) ml_X1_42 na_java_lang_System_arraycopy sm_java_lang_System_arraycopy it_J10 9 4 rfl rfl (by omega) (by omega) (by omega) (by omega) (by omega) (by decide) (Nat.le_of_ble_eq_true rfl) dX1_copy_57 ?_
  simp only [List.set_cons_zero, List.set_cons_succ]
  refine B.aload_n (pc := 60) (i := 0) dX1_copy_60 rfl rfl ?_
  refine B.aload_n (pc := 61) (i := 1) dX1_copy_61 rfl rfl ?_
  refine B.getfield (pc := 62) 5 rfl rfl inX1z 4 (by decide) fl_X1_24 rfl dX1_copy_62 ?_
  refine B.putfield (pc := 65) 0 rfl rfl inX1z tyX1 tyX1_ok nmX1 4 (by decide) fl_X1_24 rfl rfl rfl (Nat.le_of_ble_eq_true rfl) dX1_copy_65 ?_
  simp only [List.set_cons_zero, List.set_cons_succ]
  refine B.vreturn (pc := 68) rfl dX1_copy_68 (Nat.le_refl _) (Nat.le_refl _) (fun rw => ⟨_, _, _, _, _, rfl, ?_⟩)
  exact ⟨rfl, fun j hj => zcp_all hj, fun j hj => zcp_all hj, fun j hj => zcp_all hj, fun j hj => zcp_all hj⟩
