set_option maxHeartbeats 4000000 in
set_option maxRecDepth 100000 in
theorem mX3_kindNamedAt {l : Launch} {D : va_G} {k : zK} {E : zE} (hE : zEok E) {aR aS aV : Nat} (hEX : zEx E aR aS aV) (p_a p_signs_a : Nat) (p_count p_letters p_kind p_cost at_ : Int) (p_signs : Nat → Int) : zMi l D k E yX3_kindNamedAt cX3_kindNamedAt 3 .int { frames := 4, cells := 0, slots := 0, locals := 85 } 0 0 [.inr (some p_a), .inl at_] [(p_a, .inr (.inr (3, [.inr (some p_signs_a), .inl p_count, .inl p_letters, .inl p_kind, .inl p_cost]))), (p_signs_a, .inl (false, 40, p_signs))] (0 ≤ p_count ∧ p_count ≤ 40) (fun z u => u = [(p_a, .inr (.inr (3, [.inr (some p_signs_a), .inl p_count, .inl p_letters, .inl p_kind, .inl p_cost]))), (p_signs_a, .inl (false, 40, p_signs))] ∧ ((z = -6 ∨ (0 ≤ z ∧ z ≤ 2)) ∧ KD (sA p_count p_signs at_) z)) := by
  refine zMi.of RX3 hE (by decide) rfl (by simp) (fun _ _ _ _ => rfl) ?_
  intro Z hP hav hwr B
  obtain ⟨l_at_, u_at_⟩ : zR at_ := hav (.inl at_) (by simp)
  obtain ⟨l_p_count, u_p_count⟩ : zR p_count := zWr_at hwr (i := 0) rfl (.inl p_count) (by simp)
  obtain ⟨l_p_letters, u_p_letters⟩ : zR p_letters := zWr_at hwr (i := 0) rfl (.inl p_letters) (by simp)
  obtain ⟨l_p_kind, u_p_kind⟩ : zR p_kind := zWr_at hwr (i := 0) rfl (.inl p_kind) (by simp)
  obtain ⟨l_p_cost, u_p_cost⟩ : zR p_cost := zWr_at hwr (i := 0) rfl (.inl p_cost) (by simp)
  have key : ∀ mu_ : Nat, (∀ (lv : List (Option zV)) (ws : zW), (∃ (q : Int), lv = [some (.inr (some p_a)), some (.inl at_), some (.inl q)] ∧ ws = [(p_a, .inr (.inr (3, [.inr (some p_signs_a), .inl p_count, .inl p_letters, .inl p_kind, .inl p_cost]))), (p_signs_a, .inl (false, 40, p_signs))] ∧ mu_ = (3 - q).toNat ∧ (0 ≤ q ∧ q ≤ 3 ∧ (1 ≤ q → sA p_count p_signs at_ ≠ 110) ∧ (2 ≤ q → sA p_count p_signs at_ ≠ 118) ∧ (3 ≤ q → sA p_count p_signs at_ ≠ 109))) → Z 0 0 2 lv [] ws) := by
    intro mu_
    induction mu_ using Nat.strongRecOn with
    | _ mu_ ih =>
      · intro lv ws hJ
        obtain ⟨q, rfl, rfl, rfl, hi⟩ := hJ
        refine B.iload_n (pc := 2) (i := 2) dX3_kindNamedAt_2 rfl rfl ?_
        refine B.iconst (pc := 3) dX3_kindNamedAt_3 ⟨by decide, by decide⟩ ?_
        refine B.icmp_ge (pc := 4) (tgt := 31) dX3_kindNamedAt_4 (by decide) (fun c4 => ?_) (fun c4 => ?_)
        · refine B.bipush (pc := 31) dX3_kindNamedAt_31 ⟨by decide, by decide⟩ ?_
          refine B.ireturn (pc := 33) (by simp) dX3_kindNamedAt_33 (Nat.le_refl _) (Nat.le_refl _) (fun rz rw => ⟨rfl, ?_⟩)
          refine ⟨by omega, ?_⟩
          unfold KD
          omega
        · refine B.aload_n (pc := 7) (i := 0) dX3_kindNamedAt_7 rfl rfl ?_
          refine B.iload_n (pc := 8) (i := 1) dX3_kindNamedAt_8 rfl rfl ?_
          refine B.callVi (pc := 9) 1 (mX3_signAt hE _ _ _ _ _ _ _ _) 0 rfl rfl ml_X3_26 im_X3_signAt se_X3_signAt it_X3 co_X3_signAt (by decide +kernel) rfl rfl rfl ⟨by decide, by decide⟩ ⟨by decide, by decide⟩ [0, 1] rfl rfl rfl (Nat.le_of_ble_eq_true rfl) dX3_kindNamedAt_9 (fun _ => by omega) (fun zk9 uk9 rzk9 ruk9 rak9 hqk9 => ?_)
          obtain ⟨lzk9, uzk9⟩ := rzk9
          obtain ⟨rfl, hk9⟩ := hqk9
          simp only [zput, List.set_cons_zero, List.set_cons_succ, List.append_nil, Nat.add_zero]
          refine B.ldcS (pc := 12) hEX dX3_kindNamedAt_12 ?_
          refine B.iload_n (pc := 14) (i := 2) dX3_kindNamedAt_14 rfl rfl ?_
          refine B.iconst (pc := 15) dX3_kindNamedAt_15 ⟨by decide, by decide⟩ ?_
          refine B.imul (pc := 16) dX3_kindNamedAt_16 ⟨by omega, by omega⟩ ?_
          refine B.callViE (pc := 17) 1 (mJ0_charAt_5068e hE hEX _) (zrecS hEX) ml_X3_54 im_J0_charAt_5068e se_J0_charAt_5068e it_J0 co_J0_charAt_5068e (by decide +kernel) rfl rfl rfl ⟨by decide, by decide⟩ ⟨by decide, by decide⟩ [] rfl rfl rfl (Nat.le_of_ble_eq_true rfl) dX3_kindNamedAt_17 (fun _ => by omega) (fun zk17 uk17 rzk17 ruk17 rak17 hqk17 => ?_)
          obtain ⟨lzk17, uzk17⟩ := rzk17
          obtain ⟨rfl, hk17⟩ := hqk17
          simp only [zput, List.append_nil, Nat.add_zero]
          have t0 : q = 0 → ztxt (q * 4).toNat = 110 := fun e => by rw [e]; rfl
          have t1 : q = 1 → ztxt (q * 4).toNat = 118 := fun e => by rw [e]; rfl
          have t2 : q = 2 → ztxt (q * 4).toNat = 109 := fun e => by rw [e]; rfl
          refine B.icmp_ne (pc := 20) (tgt := 25) dX3_kindNamedAt_20 (by decide) (fun c20 => ?_) (fun c20 => ?_)
          · refine B.iinc (pc := 25) dX3_kindNamedAt_25 (by decide) rfl ⟨by omega, by omega⟩ ?_
            simp only [List.set_cons_zero, List.set_cons_succ]
            refine B.goto (pc := 28) (tgt := 2) dX3_kindNamedAt_28 (by decide) ?_
            refine (ih _ ?_) _ _ ⟨_, rfl, rfl, rfl, ?_⟩
            · omega
            · omega
          · refine B.iload_n (pc := 23) (i := 2) dX3_kindNamedAt_23 rfl rfl ?_
            refine B.ireturn (pc := 24) (by simp) dX3_kindNamedAt_24 (Nat.le_refl _) (Nat.le_refl _) (fun rz rw => ⟨rfl, ?_⟩)
            refine ⟨by omega, ?_⟩
            unfold KD
            omega
  show Z 0 0 0 [some (.inr (some p_a)), some (.inl at_), none] [] _
  refine B.iconst (pc := 0) dX3_kindNamedAt_0 ⟨by decide, by decide⟩ ?_
  refine B.istore_n (pc := 1) (i := 2) dX3_kindNamedAt_1 rfl (by decide) ?_
  simp only [List.set_cons_zero, List.set_cons_succ]
  refine (key _) _ _ ⟨_, rfl, rfl, rfl, ?_⟩
  omega
set_option maxHeartbeats 4000000 in
set_option maxRecDepth 100000 in
theorem mX3_nameStandsAt {l : Launch} {D : va_G} {k : zK} {E : zE} (hE : zEok E) {aR aS aV : Nat} (hEX : zEx E aR aS aV) (p_a p_signs_a : Nat) (p_count p_letters p_kind p_cost at_ kd : Int) (p_signs : Nat → Int) : zMi l D k E yX3_nameStandsAt cX3_nameStandsAt 4 .boolean { frames := 4, cells := 0, slots := 0, locals := 85 } 0 0 [.inr (some p_a), .inl at_, .inl kd] [(p_a, .inr (.inr (3, [.inr (some p_signs_a), .inl p_count, .inl p_letters, .inl p_kind, .inl p_cost]))), (p_signs_a, .inl (false, 40, p_signs))] (0 ≤ p_count ∧ p_count ≤ 40 ∧ 0 ≤ at_ ∧ at_ ≤ 100 ∧ 0 ≤ kd ∧ kd ≤ 2) (fun z u => u = [(p_a, .inr (.inr (3, [.inr (some p_signs_a), .inl p_count, .inl p_letters, .inl p_kind, .inl p_cost]))), (p_signs_a, .inl (false, 40, p_signs))] ∧ ((z = 0 ∨ z = 1) ∧ (z = 1 ↔ WN p_count p_signs at_ kd))) := by
  refine zMi.of RX3 hE (by decide) rfl (by simp) (fun z u hp hq => ?_) ?_
  · have hz : z = 0 ∨ z = 1 := by obtain ⟨_, hq⟩ := hq; first | exact hq | exact hq.1 | exact Or.inr hq
    rcases hz with rfl | rfl <;> decide
  intro Z hP hav hwr B
  obtain ⟨l_at_, u_at_⟩ : zR at_ := hav (.inl at_) (by simp)
  obtain ⟨l_kd, u_kd⟩ : zR kd := hav (.inl kd) (by simp)
  obtain ⟨l_p_count, u_p_count⟩ : zR p_count := zWr_at hwr (i := 0) rfl (.inl p_count) (by simp)
  obtain ⟨l_p_letters, u_p_letters⟩ : zR p_letters := zWr_at hwr (i := 0) rfl (.inl p_letters) (by simp)
  obtain ⟨l_p_kind, u_p_kind⟩ : zR p_kind := zWr_at hwr (i := 0) rfl (.inl p_kind) (by simp)
  obtain ⟨l_p_cost, u_p_cost⟩ : zR p_cost := zWr_at hwr (i := 0) rfl (.inl p_cost) (by simp)
  have key : ∀ mu_ : Nat, (∀ (lv : List (Option zV)) (ws : zW), (∃ (q : Int), lv = [some (.inr (some p_a)), some (.inl at_), some (.inl kd), some (.inl q)] ∧ ws = [(p_a, .inr (.inr (3, [.inr (some p_signs_a), .inl p_count, .inl p_letters, .inl p_kind, .inl p_cost]))), (p_signs_a, .inl (false, 40, p_signs))] ∧ mu_ = (4 - q).toNat ∧ (0 ≤ q ∧ q ≤ 4 ∧ ∀ j : Int, 0 ≤ j → j < q → sA p_count p_signs (at_ + j) = ztxt (4 * kd + j).toNat)) → Z 0 0 2 lv [] ws) := by
    intro mu_
    induction mu_ using Nat.strongRecOn with
    | _ mu_ ih =>
      · intro lv ws hJ
        obtain ⟨q, rfl, rfl, rfl, hi⟩ := hJ
        obtain ⟨i1, i2, i3⟩ := hi
        refine B.iload_n (pc := 2) (i := 3) dX3_nameStandsAt_2 rfl rfl ?_
        refine B.iconst (pc := 3) dX3_nameStandsAt_3 ⟨by decide, by decide⟩ ?_
        refine B.icmp_ge (pc := 4) (tgt := 35) dX3_nameStandsAt_4 (by decide) (fun c4 => ?_) (fun c4 => ?_)
        · refine B.iconst (pc := 35) dX3_nameStandsAt_35 ⟨by decide, by decide⟩ ?_
          refine B.ireturn (pc := 36) (by simp) dX3_nameStandsAt_36 (Nat.le_refl _) (Nat.le_refl _) (fun rz rw => ⟨rfl, ?_⟩)
          exact ⟨Or.inr rfl, fun _ j h0 h1 => i3 j h0 (by omega), fun _ => rfl⟩
        · refine B.aload_n (pc := 7) (i := 0) dX3_nameStandsAt_7 rfl rfl ?_
          refine B.iload_n (pc := 8) (i := 1) dX3_nameStandsAt_8 rfl rfl ?_
          refine B.iload_n (pc := 9) (i := 3) dX3_nameStandsAt_9 rfl rfl ?_
          refine B.iadd (pc := 10) dX3_nameStandsAt_10 ⟨by omega, by omega⟩ ?_
          refine B.callVi (pc := 11) 1 (mX3_signAt hE _ _ _ _ _ _ _ _) 0 rfl rfl ml_X3_26 im_X3_signAt se_X3_signAt it_X3 co_X3_signAt (by decide +kernel) rfl rfl rfl ⟨by decide, by decide⟩ ⟨by decide, by decide⟩ [0, 1] rfl rfl rfl (Nat.le_of_ble_eq_true rfl) dX3_nameStandsAt_11 (fun _ => by omega) (fun zk11 uk11 rzk11 ruk11 rak11 hqk11 => ?_)
          obtain ⟨lzk11, uzk11⟩ := rzk11
          obtain ⟨rfl, hk11⟩ := hqk11
          simp only [zput, List.set_cons_zero, List.set_cons_succ, List.append_nil, Nat.add_zero]
          refine B.ldcS (pc := 14) hEX dX3_nameStandsAt_14 ?_
          refine B.iload_n (pc := 16) (i := 2) dX3_nameStandsAt_16 rfl rfl ?_
          refine B.iconst (pc := 17) dX3_nameStandsAt_17 ⟨by decide, by decide⟩ ?_
          refine B.imul (pc := 18) dX3_nameStandsAt_18 ⟨by omega, by omega⟩ ?_
          refine B.iload_n (pc := 19) (i := 3) dX3_nameStandsAt_19 rfl rfl ?_
          refine B.iadd (pc := 20) dX3_nameStandsAt_20 ⟨by omega, by omega⟩ ?_
          refine B.callViE (pc := 21) 1 (mJ0_charAt_5068e hE hEX _) (zrecS hEX) ml_X3_54 im_J0_charAt_5068e se_J0_charAt_5068e it_J0 co_J0_charAt_5068e (by decide +kernel) rfl rfl rfl ⟨by decide, by decide⟩ ⟨by decide, by decide⟩ [] rfl rfl rfl (Nat.le_of_ble_eq_true rfl) dX3_nameStandsAt_21 (fun _ => by omega) (fun zk21 uk21 rzk21 ruk21 rak21 hqk21 => ?_)
          obtain ⟨lzk21, uzk21⟩ := rzk21
          obtain ⟨rfl, hk21⟩ := hqk21
          simp only [zput, List.append_nil, Nat.add_zero]
          refine B.icmp_eq (pc := 24) (tgt := 29) dX3_nameStandsAt_24 (by decide) (fun c24 => ?_) (fun c24 => ?_)
          · refine B.iinc (pc := 29) dX3_nameStandsAt_29 (by decide) rfl ⟨by omega, by omega⟩ ?_
            simp only [List.set_cons_zero, List.set_cons_succ]
            refine B.goto (pc := 32) (tgt := 2) dX3_nameStandsAt_32 (by decide) ?_
            refine (ih _ ?_) _ _ ⟨_, rfl, rfl, rfl, ?_⟩
            · omega
            · refine ⟨by omega, by omega, fun j h0 h1 => ?_⟩
              by_cases e : j = q
              · rw [e, show 4 * kd + q = kd * 4 + q by omega]; omega
              · exact i3 j h0 (by omega)
          · refine B.iconst (pc := 27) dX3_nameStandsAt_27 ⟨by decide, by decide⟩ ?_
            refine B.ireturn (pc := 28) (by simp) dX3_nameStandsAt_28 (Nat.le_refl _) (Nat.le_refl _) (fun rz rw => ⟨rfl, ?_⟩)
            refine ⟨Or.inl rfl, fun h => by omega, fun h => ?_⟩
            exfalso
            have h2 := h q i1 (by omega)
            rw [show 4 * kd + q = kd * 4 + q by omega] at h2
            omega
  show Z 0 0 0 [some (.inr (some p_a)), some (.inl at_), some (.inl kd), none] [] _
  refine B.iconst (pc := 0) dX3_nameStandsAt_0 ⟨by decide, by decide⟩ ?_
  refine B.istore_n (pc := 1) (i := 3) dX3_nameStandsAt_1 rfl (by decide) ?_
  simp only [List.set_cons_zero, List.set_cons_succ]
  refine (key _) _ _ ⟨_, rfl, rfl, rfl, ?_⟩
  exact ⟨by omega, by omega, fun j h0 h1 => by omega⟩
set_option maxHeartbeats 4000000 in
set_option maxRecDepth 100000 in
theorem mX3_readWord {l : Launch} {D : va_G} {k : zK} {E : zE} (hE : zEok E) {aR aS aV : Nat} (hEX : zEx E aR aS aV) (p_a p_signs_a : Nat) (p_count p_letters p_kind p_cost : Int) (p_signs : Nat → Int) : zMi l D k E yX3_readWord cX3_readWord 2 .int { frames := 5, cells := 0, slots := 0, locals := 108 } 0 0 [.inr (some p_a)] [(p_a, .inr (.inr (3, [.inr (some p_signs_a), .inl p_count, .inl p_letters, .inl p_kind, .inl p_cost]))), (p_signs_a, .inl (false, 40, p_signs))] (0 ≤ p_count ∧ p_count ≤ 40) (fun z u => ∃ (p_letters' : Int) (p_kind' : Int) (p_cost' : Int), u = [(p_a, .inr (.inr (3, [.inr (some p_signs_a), .inl p_count, .inl p_letters', .inl p_kind', .inl p_cost']))), (p_signs_a, .inl (false, 40, p_signs))] ∧ (WF p_count p_signs z p_letters' p_kind' p_cost' ∧ (z = -6 → 1 ≤ p_letters' ∧ p_letters' ≤ 6 ∧ 0 ≤ p_kind' ∧ p_kind' ≤ 2 ∧ 0 ≤ p_cost' ∧ p_cost' ≤ 99))) := by
  refine zMi.of RX3 hE (by decide) rfl (by simp) (fun _ _ _ _ => rfl) ?_
  intro Z hP hav hwr B
  obtain ⟨l_p_count, u_p_count⟩ : zR p_count := zWr_at hwr (i := 0) rfl (.inl p_count) (by simp)
  obtain ⟨l_p_letters, u_p_letters⟩ : zR p_letters := zWr_at hwr (i := 0) rfl (.inl p_letters) (by simp)
  obtain ⟨l_p_kind, u_p_kind⟩ : zR p_kind := zWr_at hwr (i := 0) rfl (.inl p_kind) (by simp)
  obtain ⟨l_p_cost, u_p_cost⟩ : zR p_cost := zWr_at hwr (i := 0) rfl (.inl p_cost) (by simp)
  show Z 0 0 0 [some (.inr (some p_a)), none] [] _
  refine B.aload_n (pc := 0) (i := 0) dX3_readWord_0 rfl rfl ?_
  refine B.aload_n (pc := 1) (i := 0) dX3_readWord_1 rfl rfl ?_
  refine B.bipush (pc := 2) dX3_readWord_2 ⟨by decide, by decide⟩ ?_
  refine B.callVi (pc := 4) 1 (mX3_leadingLetters hE _ _ _ _ _ _ _ _) 0 rfl rfl ml_X3_19 im_X3_leadingLetters se_X3_leadingLetters it_X3 co_X3_leadingLetters (by decide +kernel) rfl rfl rfl ⟨by decide, by decide⟩ ⟨by decide, by decide⟩ [0, 1] rfl rfl rfl (Nat.le_of_ble_eq_true rfl) dX3_readWord_4 (fun _ => by omega) (fun zk4 uk4 rzk4 ruk4 rak4 hqk4 => ?_)
  obtain ⟨lzk4, uzk4⟩ := rzk4
  obtain ⟨rfl, hk4⟩ := hqk4
  simp only [zput, List.set_cons_zero, List.set_cons_succ, List.append_nil, Nat.add_zero]
  have hL0 := hk4.1
  have hL1 := hk4.2.1
  refine B.putfield (pc := 7) 0 rfl rfl inX3z tyX3 tyX3_ok nmX3 2 (by decide) fl_X3_23 rfl rfl rfl (Nat.le_of_ble_eq_true rfl) dX3_readWord_7 ?_
  simp only [List.set_cons_zero, List.set_cons_succ]
  refine B.aload_n (pc := 10) (i := 0) dX3_readWord_10 rfl rfl ?_
  refine B.getfield (pc := 11) 0 rfl rfl inX3z 2 (by decide) fl_X3_23 rfl dX3_readWord_11 ?_
  refine B.if_eq (pc := 14) (tgt := 30) dX3_readWord_14 (by decide) (fun c14 => ?_) (fun c14 => ?_)
  · refine B.aload_n (pc := 30) (i := 0) dX3_readWord_30 rfl rfl ?_
    refine B.getfield (pc := 31) 0 rfl rfl inX3z 2 (by decide) fl_X3_23 rfl dX3_readWord_31 ?_
    refine B.ireturn (pc := 34) (by simp) dX3_readWord_34 (Nat.le_refl _) (Nat.le_refl _) (fun rz rw => ⟨_, _, _, rfl, ?_⟩)
    exact ⟨⟨_, hk4, rfl, Or.inl ⟨by omega, rfl⟩⟩, by omega⟩
  · refine B.aload_n (pc := 17) (i := 0) dX3_readWord_17 rfl rfl ?_
    refine B.aload_n (pc := 18) (i := 0) dX3_readWord_18 rfl rfl ?_
    refine B.getfield (pc := 19) 0 rfl rfl inX3z 2 (by decide) fl_X3_23 rfl dX3_readWord_19 ?_
    refine B.callVi (pc := 22) 1 (mX3_signAt hE _ _ _ _ _ _ _ _) 0 rfl rfl ml_X3_26 im_X3_signAt se_X3_signAt it_X3 co_X3_signAt (by decide +kernel) rfl rfl rfl ⟨by decide, by decide⟩ ⟨by decide, by decide⟩ [0, 1] rfl rfl rfl (Nat.le_of_ble_eq_true rfl) dX3_readWord_22 (fun _ => by omega) (fun zk22 uk22 rzk22 ruk22 rak22 hqk22 => ?_)
    obtain ⟨lzk22, uzk22⟩ := rzk22
    obtain ⟨rfl, hk22⟩ := hqk22
    simp only [zput, List.set_cons_zero, List.set_cons_succ, List.append_nil, Nat.add_zero]
    refine B.bipush (pc := 25) dX3_readWord_25 ⟨by decide, by decide⟩ ?_
    refine B.icmp_eq (pc := 27) (tgt := 35) dX3_readWord_27 (by decide) (fun c27 => ?_) (fun c27 => ?_)
    · refine B.aload_n (pc := 35) (i := 0) dX3_readWord_35 rfl rfl ?_
      refine B.getfield (pc := 36) 0 rfl rfl inX3z 2 (by decide) fl_X3_23 rfl dX3_readWord_36 ?_
      refine B.iconst (pc := 39) dX3_readWord_39 ⟨by decide, by decide⟩ ?_
      refine B.iadd (pc := 40) dX3_readWord_40 ⟨by omega, by omega⟩ ?_
      refine B.istore_n (pc := 41) (i := 1) dX3_readWord_41 rfl (by decide) ?_
      simp only [List.set_cons_zero, List.set_cons_succ]
      refine B.aload_n (pc := 42) (i := 0) dX3_readWord_42 rfl rfl ?_
      refine B.aload_n (pc := 43) (i := 0) dX3_readWord_43 rfl rfl ?_
      refine B.iload_n (pc := 44) (i := 1) dX3_readWord_44 rfl rfl ?_
      refine B.callVi (pc := 45) 1 (mX3_kindNamedAt hE hEX _ _ _ _ _ _ _ _) 0 rfl rfl ml_X3_29 im_X3_kindNamedAt se_X3_kindNamedAt it_X3 co_X3_kindNamedAt (by decide +kernel) rfl rfl rfl ⟨by decide, by decide⟩ ⟨by decide, by decide⟩ [0, 1] rfl rfl rfl (Nat.le_of_ble_eq_true rfl) dX3_readWord_45 (fun _ => by omega) (fun zk45 uk45 rzk45 ruk45 rak45 hqk45 => ?_)
      obtain ⟨lzk45, uzk45⟩ := rzk45
      obtain ⟨rfl, hk45⟩ := hqk45
      simp only [zput, List.set_cons_zero, List.set_cons_succ, List.append_nil, Nat.add_zero]
      refine B.putfield (pc := 48) 0 rfl rfl inX3z tyX3 tyX3_ok nmX3 3 (by decide) fl_X3_32 rfl rfl rfl (Nat.le_of_ble_eq_true rfl) dX3_readWord_48 ?_
      simp only [List.set_cons_zero, List.set_cons_succ]
      refine B.aload_n (pc := 51) (i := 0) dX3_readWord_51 rfl rfl ?_
      refine B.getfield (pc := 52) 0 rfl rfl inX3z 3 (by decide) fl_X3_32 rfl dX3_readWord_52 ?_
      refine B.bipush (pc := 55) dX3_readWord_55 ⟨by decide, by decide⟩ ?_
      refine B.icmp_ne (pc := 57) (tgt := 62) dX3_readWord_57 (by decide) (fun c57 => ?_) (fun c57 => ?_)
      · refine B.aload_n (pc := 62) (i := 0) dX3_readWord_62 rfl rfl ?_
        refine B.aload_n (pc := 63) (i := 0) dX3_readWord_63 rfl rfl ?_
        refine B.iload_n (pc := 64) (i := 1) dX3_readWord_64 rfl rfl ?_
        refine B.aload_n (pc := 65) (i := 0) dX3_readWord_65 rfl rfl ?_
        refine B.getfield (pc := 66) 0 rfl rfl inX3z 3 (by decide) fl_X3_32 rfl dX3_readWord_66 ?_
        refine B.callVi (pc := 69) 2 (mX3_nameStandsAt hE hEX _ _ _ _ _ _ _ _ _) 0 rfl rfl ml_X3_35 im_X3_nameStandsAt se_X3_nameStandsAt it_X3 co_X3_nameStandsAt (by decide +kernel) rfl rfl rfl ⟨by decide, by decide⟩ ⟨by decide, by decide⟩ [0, 1] rfl rfl rfl (Nat.le_of_ble_eq_true rfl) dX3_readWord_69 (fun _ => by omega) (fun zk69 uk69 rzk69 ruk69 rak69 hqk69 => ?_)
        obtain ⟨lzk69, uzk69⟩ := rzk69
        obtain ⟨rfl, hk69⟩ := hqk69
        simp only [zput, List.set_cons_zero, List.set_cons_succ, List.append_nil, Nat.add_zero]
        refine B.if_eq (pc := 72) (tgt := 81) dX3_readWord_72 (by decide) (fun c72 => ?_) (fun c72 => ?_)
        · refine B.iload_n (pc := 81) (i := 1) dX3_readWord_81 rfl rfl ?_
          refine B.iconst (pc := 82) dX3_readWord_82 ⟨by decide, by decide⟩ ?_
          refine B.iadd (pc := 83) dX3_readWord_83 ⟨by omega, by omega⟩ ?_
          refine B.callVi (pc := 84) 1 (mX3_readCost hE _ _ _ _ _ _ _ _) 0 rfl rfl ml_X3_39 im_X3_readCost se_X3_readCost it_X3 co_X3_readCost (by decide +kernel) rfl rfl rfl ⟨by decide, by decide⟩ ⟨by decide, by decide⟩ [0, 1] rfl rfl rfl (Nat.le_of_ble_eq_true rfl) dX3_readWord_84 (fun _ => by omega) (fun zk84 uk84 rzk84 ruk84 rak84 hqk84 => ?_)
          obtain ⟨lzk84, uzk84⟩ := rzk84
          obtain ⟨p_cost_k84, rfl, hk84⟩ := hqk84
          simp only [zput, List.set_cons_zero, List.set_cons_succ, List.append_nil, Nat.add_zero]
          refine B.ireturn (pc := 87) (by simp) dX3_readWord_87 (Nat.le_refl _) (Nat.le_refl _) (fun rz rw => ⟨_, _, _, rfl, ?_⟩)
          refine ⟨⟨_, hk4, rfl, Or.inr ⟨by omega, by omega, _, hk45.2, rfl, Or.inr ⟨by omega, _, ?_, hk84.1⟩⟩⟩, by omega⟩
          first | exact Or.inl ⟨hk69.2.mp (by omega), rfl⟩ | exact Or.inr ⟨fun h => by have := hk69.2.mpr h; omega, rfl⟩
        · refine B.iload_n (pc := 75) (i := 1) dX3_readWord_75 rfl rfl ?_
          refine B.iconst (pc := 76) dX3_readWord_76 ⟨by decide, by decide⟩ ?_
          refine B.iadd (pc := 77) dX3_readWord_77 ⟨by omega, by omega⟩ ?_
          refine B.goto (pc := 78) (tgt := 84) dX3_readWord_78 (by decide) ?_
          refine B.callVi (pc := 84) 1 (mX3_readCost hE _ _ _ _ _ _ _ _) 0 rfl rfl ml_X3_39 im_X3_readCost se_X3_readCost it_X3 co_X3_readCost (by decide +kernel) rfl rfl rfl ⟨by decide, by decide⟩ ⟨by decide, by decide⟩ [0, 1] rfl rfl rfl (Nat.le_of_ble_eq_true rfl) dX3_readWord_84 (fun _ => by omega) (fun zk84 uk84 rzk84 ruk84 rak84 hqk84 => ?_)
          obtain ⟨lzk84, uzk84⟩ := rzk84
          obtain ⟨p_cost_k84, rfl, hk84⟩ := hqk84
          simp only [zput, List.set_cons_zero, List.set_cons_succ, List.append_nil, Nat.add_zero]
          refine B.ireturn (pc := 87) (by simp) dX3_readWord_87 (Nat.le_refl _) (Nat.le_refl _) (fun rz rw => ⟨_, _, _, rfl, ?_⟩)
          refine ⟨⟨_, hk4, rfl, Or.inr ⟨by omega, by omega, _, hk45.2, rfl, Or.inr ⟨by omega, _, ?_, hk84.1⟩⟩⟩, by omega⟩
          first | exact Or.inl ⟨hk69.2.mp (by omega), rfl⟩ | exact Or.inr ⟨fun h => by have := hk69.2.mpr h; omega, rfl⟩
      · refine B.iload_n (pc := 60) (i := 1) dX3_readWord_60 rfl rfl ?_
        refine B.ireturn (pc := 61) (by simp) dX3_readWord_61 (Nat.le_refl _) (Nat.le_refl _) (fun rz rw => ⟨_, _, _, rfl, ?_⟩)
        exact ⟨⟨_, hk4, rfl, Or.inr ⟨by omega, by omega, _, hk45.2, rfl, Or.inl ⟨by omega, rfl⟩⟩⟩, by omega⟩
    · refine B.aload_n (pc := 30) (i := 0) dX3_readWord_30 rfl rfl ?_
      refine B.getfield (pc := 31) 0 rfl rfl inX3z 2 (by decide) fl_X3_23 rfl dX3_readWord_31 ?_
      refine B.ireturn (pc := 34) (by simp) dX3_readWord_34 (Nat.le_refl _) (Nat.le_refl _) (fun rz rw => ⟨_, _, _, rfl, ?_⟩)
      exact ⟨⟨_, hk4, rfl, Or.inl ⟨by omega, rfl⟩⟩, by omega⟩
