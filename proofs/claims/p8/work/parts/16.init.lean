set_option maxHeartbeats 4000000 in
set_option maxRecDepth 100000 in
theorem mX3_init {l : Launch} {D : va_G} {k : zK} {E : zE} (hE : zEok E) (p_a : Nat) : zMv l D k E yX3_init cX3_init 1 { frames := 1, cells := 1, slots := 40, locals := 20 } 1 40 [.inr (some p_a)] [(p_a, .inr (.inr (3, [.inr none, .inl 0, .inl 0, .inl 0, .inl 0])))] True (fun z u => ∃ (p_signs_a : Nat) (p_signs : Nat → Int), u = [(p_a, .inr (.inr (3, [.inr (some p_signs_a), .inl 0, .inl 0, .inl 0, .inl 0]))), (p_signs_a, .inl (false, 40, p_signs))] ∧ ((∀ j, p_signs j = 0))) := by
  refine zMv.of RX3 hE (by decide) rfl (by simp) ?_
  intro Z hP hav hwr B
  show Z 0 0 0 [some (.inr (some p_a))] [] _
  refine B.aload_n (pc := 0) (i := 0) dX3_init_0 rfl rfl ?_
  refine B.objInit (pc := 1) ml_X3_3 im_java_lang_Object__init_ co_objInit (by decide) (Nat.le_of_ble_eq_true rfl) dX3_init_1 ?_
  refine B.aload_n (pc := 4) (i := 0) dX3_init_4 rfl rfl ?_
  refine B.bipush (pc := 5) dX3_init_5 ⟨by decide, by decide⟩ ?_
  refine B.newarrI (pc := 7) ac_Jvm_ClassFile_FieldType_int (by decide) (by decide) (Nat.le_of_ble_eq_true rfl) (Nat.le_of_ble_eq_true rfl) dX3_init_7 (fun q7 => ?_)
  simp only [List.cons_append, List.nil_append]
  refine B.putfieldF (pc := 9) rfl 0 rfl rfl inX3z tyX3 tyX3_ok nmX3 0 (by decide) fl_X3_9 rfl rfl rfl rfl (Nat.le_of_ble_eq_true rfl) dX3_init_9 ?_
  simp only [List.set_cons_zero, List.set_cons_succ]
  refine B.vreturn (pc := 12) rfl dX3_init_12 (Nat.le_of_ble_eq_true rfl) (Nat.le_of_ble_eq_true rfl) (fun rw => ⟨_, _, rfl, ?_⟩)
  exact fun _ => rfl
set_option maxHeartbeats 4000000 in
set_option maxRecDepth 100000 in
theorem mX1_init {l : Launch} {D : va_G} {k : zK} {E : zE} (hE : zEok E) (d_a : Nat) : zMv l D k E yX1_init cX1_init 1 { frames := 1, cells := 4, slots := 144, locals := 20 } 4 144 [.inr (some d_a)] [(d_a, .inr (.inr (1, [.inr none, .inr none, .inr none, .inr none, .inl 0])))] True (fun z u => ∃ (d_letters_a d_lengths_a d_kinds_a d_costs_a : Nat) (d_letters d_lengths d_kinds d_costs : Nat → Int), u = [(d_a, .inr (.inr (1, [.inr (some d_letters_a), .inr (some d_lengths_a), .inr (some d_kinds_a), .inr (some d_costs_a), .inl 0]))), (d_letters_a, .inl (false, 96, d_letters)), (d_lengths_a, .inl (false, 16, d_lengths)), (d_kinds_a, .inl (false, 16, d_kinds)), (d_costs_a, .inl (false, 16, d_costs))] ∧ ((∀ j, d_letters j = 0) ∧ (∀ j, d_lengths j = 0) ∧ (∀ j, d_kinds j = 0) ∧ (∀ j, d_costs j = 0))) := by
  refine zMv.of RX1 hE (by decide) rfl (by simp) ?_
  intro Z hP hav hwr B
  show Z 0 0 0 [some (.inr (some d_a))] [] _
  refine B.aload_n (pc := 0) (i := 0) dX1_init_0 rfl rfl ?_
  refine B.objInit (pc := 1) ml_X1_3 im_java_lang_Object__init_ co_objInit (by decide) (Nat.le_of_ble_eq_true rfl) dX1_init_1 ?_
  refine B.aload_n (pc := 4) (i := 0) dX1_init_4 rfl rfl ?_
  refine B.bipush (pc := 5) dX1_init_5 ⟨by decide, by decide⟩ ?_
  refine B.newarrI (pc := 7) ac_Jvm_ClassFile_FieldType_int (by decide) (by decide) (Nat.le_of_ble_eq_true rfl) (Nat.le_of_ble_eq_true rfl) dX1_init_7 (fun q7 => ?_)
  simp only [List.cons_append, List.nil_append]
  refine B.putfieldF (pc := 9) rfl 0 rfl rfl inX1z tyX1 tyX1_ok nmX1 0 (by decide) fl_X1_9 rfl rfl rfl rfl (Nat.le_of_ble_eq_true rfl) dX1_init_9 ?_
  simp only [List.set_cons_zero, List.set_cons_succ]
  refine B.aload_n (pc := 12) (i := 0) dX1_init_12 rfl rfl ?_
  refine B.bipush (pc := 13) dX1_init_13 ⟨by decide, by decide⟩ ?_
  refine B.newarrI (pc := 15) ac_Jvm_ClassFile_FieldType_int (by decide) (by decide) (Nat.le_of_ble_eq_true rfl) (Nat.le_of_ble_eq_true rfl) dX1_init_15 (fun q15 => ?_)
  simp only [List.cons_append, List.nil_append]
  refine B.putfieldF (pc := 17) rfl 0 rfl rfl inX1z tyX1 tyX1_ok nmX1 1 (by decide) fl_X1_15 rfl rfl rfl rfl (Nat.le_of_ble_eq_true rfl) dX1_init_17 ?_
  simp only [List.set_cons_zero, List.set_cons_succ]
  refine B.aload_n (pc := 20) (i := 0) dX1_init_20 rfl rfl ?_
  refine B.bipush (pc := 21) dX1_init_21 ⟨by decide, by decide⟩ ?_
  refine B.newarrI (pc := 23) ac_Jvm_ClassFile_FieldType_int (by decide) (by decide) (Nat.le_of_ble_eq_true rfl) (Nat.le_of_ble_eq_true rfl) dX1_init_23 (fun q23 => ?_)
  simp only [List.cons_append, List.nil_append]
  refine B.putfieldF (pc := 25) rfl 0 rfl rfl inX1z tyX1 tyX1_ok nmX1 2 (by decide) fl_X1_18 rfl rfl rfl rfl (Nat.le_of_ble_eq_true rfl) dX1_init_25 ?_
  simp only [List.set_cons_zero, List.set_cons_succ]
  refine B.aload_n (pc := 28) (i := 0) dX1_init_28 rfl rfl ?_
  refine B.bipush (pc := 29) dX1_init_29 ⟨by decide, by decide⟩ ?_
  refine B.newarrI (pc := 31) ac_Jvm_ClassFile_FieldType_int (by decide) (by decide) (Nat.le_of_ble_eq_true rfl) (Nat.le_of_ble_eq_true rfl) dX1_init_31 (fun q31 => ?_)
  simp only [List.cons_append, List.nil_append]
  refine B.putfieldF (pc := 33) rfl 0 rfl rfl inX1z tyX1 tyX1_ok nmX1 3 (by decide) fl_X1_21 rfl rfl rfl rfl (Nat.le_of_ble_eq_true rfl) dX1_init_33 ?_
  simp only [List.set_cons_zero, List.set_cons_succ]
  refine B.vreturn (pc := 36) rfl dX1_init_36 (Nat.le_of_ble_eq_true rfl) (Nat.le_of_ble_eq_true rfl) (fun rw => ⟨_, _, _, _, _, _, _, _, rfl, ?_⟩)
  exact ⟨fun _ => rfl, fun _ => rfl, fun _ => rfl, fun _ => rfl⟩
set_option maxHeartbeats 4000000 in
set_option maxRecDepth 100000 in
theorem mX0_init {l : Launch} {D : va_G} {k : zK} {E : zE} (hE : zEok E) (b_a : Nat) : zMv l D k E yX0_init cX0_init 1 { frames := 2, cells := 8, slots := 202, locals := 40 } 8 202 [.inr (some b_a)] [(b_a, .inr (.inr (0, [.inr none, .inr none, .inr none, .inr none, .inl 0])))] True (fun z u => ∃ (b_dictionary_a b_dictionary_letters_a b_dictionary_lengths_a b_dictionary_kinds_a b_dictionary_costs_a b_joins_a b_rules_a b_line_a : Nat) (b_dictionary_letters b_dictionary_lengths b_dictionary_kinds b_dictionary_costs b_joins b_rules b_line : Nat → Int), u = [(b_a, .inr (.inr (0, [.inr (some b_dictionary_a), .inr (some b_joins_a), .inr (some b_rules_a), .inr (some b_line_a), .inl 0]))), (b_dictionary_a, .inr (.inr (1, [.inr (some b_dictionary_letters_a), .inr (some b_dictionary_lengths_a), .inr (some b_dictionary_kinds_a), .inr (some b_dictionary_costs_a), .inl 0]))), (b_dictionary_letters_a, .inl (false, 96, b_dictionary_letters)), (b_dictionary_lengths_a, .inl (false, 16, b_dictionary_lengths)), (b_dictionary_kinds_a, .inl (false, 16, b_dictionary_kinds)), (b_dictionary_costs_a, .inl (false, 16, b_dictionary_costs)), (b_joins_a, .inl (false, 25, b_joins)), (b_rules_a, .inl (false, 4, b_rules)), (b_line_a, .inl (false, 24, b_line))] ∧ ((∀ j, b_dictionary_letters j = 0) ∧ (∀ j, b_dictionary_lengths j = 0) ∧ (∀ j, b_dictionary_kinds j = 0) ∧ (∀ j, b_dictionary_costs j = 0) ∧ (∀ j, b_joins j = 0) ∧ (∀ j, b_line j = 0) ∧ b_rules 0 = 0 ∧ b_rules 1 = 50 ∧ b_rules 2 = 10 ∧ b_rules 3 = 1)) := by
  refine zMv.of RX0 hE (by decide) rfl (by simp) ?_
  intro Z hP hav hwr B
  show Z 0 0 0 [some (.inr (some b_a))] [] _
  refine B.aload_n (pc := 0) (i := 0) dX0_init_0 rfl rfl ?_
  refine B.objInit (pc := 1) ml_X0_3 im_java_lang_Object__init_ co_objInit (by decide) (Nat.le_of_ble_eq_true rfl) dX0_init_1 ?_
  refine B.aload_n (pc := 4) (i := 0) dX0_init_4 rfl rfl ?_
  refine B.new (pc := 5) (ci := 1) tyX1 tyX1_ok rfl inX1z cl_X0_9 ia_X1 it_X1 [.inr none, .inr none, .inr none, .inr none, .inl 0] (fun j hj => by rcases (show j = 0 ∨ j = 1 ∨ j = 2 ∨ j = 3 ∨ j = 4 by omega) with rfl | rfl | rfl | rfl | rfl <;> rfl) (by simp [zVr, zR]) (Nat.le_of_ble_eq_true rfl) (Nat.le_of_ble_eq_true rfl) dX0_init_5 (fun q5 => ?_)
  simp only [List.cons_append, List.nil_append]
  refine B.dup (pc := 8) dX0_init_8 ?_
  refine B.callIv (pc := 9) 0 (mX1_init hE _) ml_X0_11 im_X1_init it_X1 co_X1_init rfl (by decide +kernel) rfl rfl rfl ⟨by decide, by decide⟩ ⟨(Nat.le_of_ble_eq_true rfl), (Nat.le_of_ble_eq_true rfl)⟩ [1] rfl rfl rfl (Nat.le_of_ble_eq_true rfl) dX0_init_9 (fun _ => trivial) (fun uk9 ruk9 rak9 hqk9 => ?_)
  obtain ⟨d_letters_a_k9, d_lengths_a_k9, d_kinds_a_k9, d_costs_a_k9, d_letters_k9, d_lengths_k9, d_kinds_k9, d_costs_k9, rfl, hk9⟩ := hqk9
  simp only [zput, List.set_cons_zero, List.set_cons_succ, List.cons_append, List.nil_append]
  refine B.putfieldF (pc := 12) rfl 0 rfl rfl inX0z tyX0 tyX0_ok nmX0 0 (by decide) fl_X0_12 rfl rfl rfl rfl (Nat.le_of_ble_eq_true rfl) dX0_init_12 ?_
  simp only [List.set_cons_zero, List.set_cons_succ]
  refine B.aload_n (pc := 15) (i := 0) dX0_init_15 rfl rfl ?_
  refine B.bipush (pc := 16) dX0_init_16 ⟨by decide, by decide⟩ ?_
  refine B.newarrI (pc := 18) ac_Jvm_ClassFile_FieldType_int (by decide) (by decide) (Nat.le_of_ble_eq_true rfl) (Nat.le_of_ble_eq_true rfl) dX0_init_18 (fun q18 => ?_)
  simp only [List.cons_append, List.nil_append]
  refine B.putfieldF (pc := 20) rfl 0 rfl rfl inX0z tyX0 tyX0_ok nmX0 1 (by decide) fl_X0_18 rfl rfl rfl rfl (Nat.le_of_ble_eq_true rfl) dX0_init_20 ?_
  simp only [List.set_cons_zero, List.set_cons_succ]
  refine B.aload_n (pc := 23) (i := 0) dX0_init_23 rfl rfl ?_
  refine B.iconst (pc := 24) dX0_init_24 ⟨by decide, by decide⟩ ?_
  refine B.newarrI (pc := 25) ac_Jvm_ClassFile_FieldType_int (by decide) (by decide) (Nat.le_of_ble_eq_true rfl) (Nat.le_of_ble_eq_true rfl) dX0_init_25 (fun q25 => ?_)
  simp only [List.cons_append, List.nil_append]
  refine B.dup (pc := 27) dX0_init_27 ?_
  refine B.iconst (pc := 28) dX0_init_28 ⟨by decide, by decide⟩ ?_
  refine B.iconst (pc := 29) dX0_init_29 ⟨by decide, by decide⟩ ?_
  refine B.iastore (pc := 30) 7 rfl (by omega) (by omega) dX0_init_30 ?_
  simp only [List.set_cons_zero, List.set_cons_succ]
  refine B.dup (pc := 31) dX0_init_31 ?_
  refine B.iconst (pc := 32) dX0_init_32 ⟨by decide, by decide⟩ ?_
  refine B.bipush (pc := 33) dX0_init_33 ⟨by decide, by decide⟩ ?_
  refine B.iastore (pc := 35) 7 rfl (by omega) (by omega) dX0_init_35 ?_
  simp only [List.set_cons_zero, List.set_cons_succ]
  refine B.dup (pc := 36) dX0_init_36 ?_
  refine B.iconst (pc := 37) dX0_init_37 ⟨by decide, by decide⟩ ?_
  refine B.bipush (pc := 38) dX0_init_38 ⟨by decide, by decide⟩ ?_
  refine B.iastore (pc := 40) 7 rfl (by omega) (by omega) dX0_init_40 ?_
  simp only [List.set_cons_zero, List.set_cons_succ]
  refine B.dup (pc := 41) dX0_init_41 ?_
  refine B.iconst (pc := 42) dX0_init_42 ⟨by decide, by decide⟩ ?_
  refine B.iconst (pc := 43) dX0_init_43 ⟨by decide, by decide⟩ ?_
  refine B.iastore (pc := 44) 7 rfl (by omega) (by omega) dX0_init_44 ?_
  simp only [List.set_cons_zero, List.set_cons_succ]
  refine B.putfieldF (pc := 45) rfl 0 rfl rfl inX0z tyX0 tyX0_ok nmX0 2 (by decide) fl_X0_22 rfl rfl rfl rfl (Nat.le_of_ble_eq_true rfl) dX0_init_45 ?_
  simp only [List.set_cons_zero, List.set_cons_succ]
  refine B.aload_n (pc := 48) (i := 0) dX0_init_48 rfl rfl ?_
  refine B.bipush (pc := 49) dX0_init_49 ⟨by decide, by decide⟩ ?_
  refine B.newarrI (pc := 51) ac_Jvm_ClassFile_FieldType_int (by decide) (by decide) (Nat.le_of_ble_eq_true rfl) (Nat.le_of_ble_eq_true rfl) dX0_init_51 (fun q51 => ?_)
  simp only [List.cons_append, List.nil_append]
  refine B.putfieldF (pc := 53) rfl 0 rfl rfl inX0z tyX0 tyX0_ok nmX0 3 (by decide) fl_X0_25 rfl rfl rfl rfl (Nat.le_of_ble_eq_true rfl) dX0_init_53 ?_
  simp only [List.set_cons_zero, List.set_cons_succ]
  refine B.vreturn (pc := 56) rfl dX0_init_56 (Nat.le_of_ble_eq_true rfl) (Nat.le_of_ble_eq_true rfl) (fun rw => ⟨_, _, _, _, _, _, _, _, _, _, _, _, _, _, _, rfl, ?_⟩)
  exact ⟨hk9.1, hk9.2.1, hk9.2.2.1, hk9.2.2.2, fun _ => rfl, fun _ => rfl, rfl, rfl, rfl, rfl⟩
set_option maxHeartbeats 4000000 in
set_option maxRecDepth 100000 in
theorem mX2_init {l : Launch} {D : va_G} {k : zK} {E : zE} (hE : zEok E) (n_a : Nat) : zMv l D k E yX2_init cX2_init 1 { frames := 1, cells := 9, slots := 2503, locals := 20 } 9 2503 [.inr (some n_a)] [(n_a, .inr (.inr (2, [.inl 0, .inl 0, .inr none, .inr none, .inr none, .inr none, .inr none, .inr none, .inr none, .inr none, .inr none])))] True (fun z u => ∃ (n_places_a n_lengths_a n_kinds_a n_costs_a n_words_a n_firsts_a n_joins_a n_slots_a n_routes_a : Nat) (n_places n_lengths n_kinds n_costs n_words n_firsts n_joins n_slots n_routes : Nat → Int), u = [(n_a, .inr (.inr (2, [.inl 0, .inl 0, .inr (some n_places_a), .inr (some n_lengths_a), .inr (some n_kinds_a), .inr (some n_costs_a), .inr (some n_words_a), .inr (some n_firsts_a), .inr (some n_joins_a), .inr (some n_slots_a), .inr (some n_routes_a)]))), (n_places_a, .inl (false, 480, n_places)), (n_lengths_a, .inl (false, 480, n_lengths)), (n_kinds_a, .inl (false, 480, n_kinds)), (n_costs_a, .inl (false, 480, n_costs)), (n_words_a, .inl (false, 480, n_words)), (n_firsts_a, .inl (false, 25, n_firsts)), (n_joins_a, .inl (false, 25, n_joins)), (n_slots_a, .inl (false, 28, n_slots)), (n_routes_a, .inl (false, 25, n_routes))] ∧ ((∀ j, n_places j = 0) ∧ (∀ j, n_lengths j = 0) ∧ (∀ j, n_kinds j = 0) ∧ (∀ j, n_costs j = 0) ∧ (∀ j, n_words j = 0) ∧ (∀ j, n_firsts j = 0) ∧ (∀ j, n_joins j = 0) ∧ (∀ j, n_slots j = 0) ∧ (∀ j, n_routes j = 0))) := by
  refine zMv.of RX2 hE (by decide) rfl (by simp) ?_
  intro Z hP hav hwr B
  show Z 0 0 0 [some (.inr (some n_a))] [] _
  refine B.aload_n (pc := 0) (i := 0) dX2_init_0 rfl rfl ?_
  refine B.objInit (pc := 1) ml_X2_3 im_java_lang_Object__init_ co_objInit (by decide) (Nat.le_of_ble_eq_true rfl) dX2_init_1 ?_
  refine B.aload_n (pc := 4) (i := 0) dX2_init_4 rfl rfl ?_
  refine B.sipush (pc := 5) dX2_init_5 ⟨by decide, by decide⟩ ?_
  refine B.newarrI (pc := 8) ac_Jvm_ClassFile_FieldType_int (by decide) (by decide) (Nat.le_of_ble_eq_true rfl) (Nat.le_of_ble_eq_true rfl) dX2_init_8 (fun q8 => ?_)
  simp only [List.cons_append, List.nil_append]
  refine B.putfieldF (pc := 10) rfl 0 rfl rfl inX2z tyX2 tyX2_ok nmX2 2 (by decide) fl_X2_9 rfl rfl rfl rfl (Nat.le_of_ble_eq_true rfl) dX2_init_10 ?_
  simp only [List.set_cons_zero, List.set_cons_succ]
  refine B.aload_n (pc := 13) (i := 0) dX2_init_13 rfl rfl ?_
  refine B.sipush (pc := 14) dX2_init_14 ⟨by decide, by decide⟩ ?_
  refine B.newarrI (pc := 17) ac_Jvm_ClassFile_FieldType_int (by decide) (by decide) (Nat.le_of_ble_eq_true rfl) (Nat.le_of_ble_eq_true rfl) dX2_init_17 (fun q17 => ?_)
  simp only [List.cons_append, List.nil_append]
  refine B.putfieldF (pc := 19) rfl 0 rfl rfl inX2z tyX2 tyX2_ok nmX2 3 (by decide) fl_X2_15 rfl rfl rfl rfl (Nat.le_of_ble_eq_true rfl) dX2_init_19 ?_
  simp only [List.set_cons_zero, List.set_cons_succ]
  refine B.aload_n (pc := 22) (i := 0) dX2_init_22 rfl rfl ?_
  refine B.sipush (pc := 23) dX2_init_23 ⟨by decide, by decide⟩ ?_
  refine B.newarrI (pc := 26) ac_Jvm_ClassFile_FieldType_int (by decide) (by decide) (Nat.le_of_ble_eq_true rfl) (Nat.le_of_ble_eq_true rfl) dX2_init_26 (fun q26 => ?_)
  simp only [List.cons_append, List.nil_append]
  refine B.putfieldF (pc := 28) rfl 0 rfl rfl inX2z tyX2 tyX2_ok nmX2 4 (by decide) fl_X2_18 rfl rfl rfl rfl (Nat.le_of_ble_eq_true rfl) dX2_init_28 ?_
  simp only [List.set_cons_zero, List.set_cons_succ]
  refine B.aload_n (pc := 31) (i := 0) dX2_init_31 rfl rfl ?_
  refine B.sipush (pc := 32) dX2_init_32 ⟨by decide, by decide⟩ ?_
  refine B.newarrI (pc := 35) ac_Jvm_ClassFile_FieldType_int (by decide) (by decide) (Nat.le_of_ble_eq_true rfl) (Nat.le_of_ble_eq_true rfl) dX2_init_35 (fun q35 => ?_)
  simp only [List.cons_append, List.nil_append]
  refine B.putfieldF (pc := 37) rfl 0 rfl rfl inX2z tyX2 tyX2_ok nmX2 5 (by decide) fl_X2_21 rfl rfl rfl rfl (Nat.le_of_ble_eq_true rfl) dX2_init_37 ?_
  simp only [List.set_cons_zero, List.set_cons_succ]
  refine B.aload_n (pc := 40) (i := 0) dX2_init_40 rfl rfl ?_
  refine B.sipush (pc := 41) dX2_init_41 ⟨by decide, by decide⟩ ?_
  refine B.newarrI (pc := 44) ac_Jvm_ClassFile_FieldType_int (by decide) (by decide) (Nat.le_of_ble_eq_true rfl) (Nat.le_of_ble_eq_true rfl) dX2_init_44 (fun q44 => ?_)
  simp only [List.cons_append, List.nil_append]
  refine B.putfieldF (pc := 46) rfl 0 rfl rfl inX2z tyX2 tyX2_ok nmX2 6 (by decide) fl_X2_24 rfl rfl rfl rfl (Nat.le_of_ble_eq_true rfl) dX2_init_46 ?_
  simp only [List.set_cons_zero, List.set_cons_succ]
  refine B.aload_n (pc := 49) (i := 0) dX2_init_49 rfl rfl ?_
  refine B.bipush (pc := 50) dX2_init_50 ⟨by decide, by decide⟩ ?_
  refine B.newarrI (pc := 52) ac_Jvm_ClassFile_FieldType_int (by decide) (by decide) (Nat.le_of_ble_eq_true rfl) (Nat.le_of_ble_eq_true rfl) dX2_init_52 (fun q52 => ?_)
  simp only [List.cons_append, List.nil_append]
  refine B.putfieldF (pc := 54) rfl 0 rfl rfl inX2z tyX2 tyX2_ok nmX2 7 (by decide) fl_X2_27 rfl rfl rfl rfl (Nat.le_of_ble_eq_true rfl) dX2_init_54 ?_
  simp only [List.set_cons_zero, List.set_cons_succ]
  refine B.aload_n (pc := 57) (i := 0) dX2_init_57 rfl rfl ?_
  refine B.bipush (pc := 58) dX2_init_58 ⟨by decide, by decide⟩ ?_
  refine B.newarrI (pc := 60) ac_Jvm_ClassFile_FieldType_int (by decide) (by decide) (Nat.le_of_ble_eq_true rfl) (Nat.le_of_ble_eq_true rfl) dX2_init_60 (fun q60 => ?_)
  simp only [List.cons_append, List.nil_append]
  refine B.putfieldF (pc := 62) rfl 0 rfl rfl inX2z tyX2 tyX2_ok nmX2 8 (by decide) fl_X2_30 rfl rfl rfl rfl (Nat.le_of_ble_eq_true rfl) dX2_init_62 ?_
  simp only [List.set_cons_zero, List.set_cons_succ]
  refine B.aload_n (pc := 65) (i := 0) dX2_init_65 rfl rfl ?_
  refine B.bipush (pc := 66) dX2_init_66 ⟨by decide, by decide⟩ ?_
  refine B.newarrI (pc := 68) ac_Jvm_ClassFile_FieldType_int (by decide) (by decide) (Nat.le_of_ble_eq_true rfl) (Nat.le_of_ble_eq_true rfl) dX2_init_68 (fun q68 => ?_)
  simp only [List.cons_append, List.nil_append]
  refine B.putfieldF (pc := 70) rfl 0 rfl rfl inX2z tyX2 tyX2_ok nmX2 9 (by decide) fl_X2_33 rfl rfl rfl rfl (Nat.le_of_ble_eq_true rfl) dX2_init_70 ?_
  simp only [List.set_cons_zero, List.set_cons_succ]
  refine B.aload_n (pc := 73) (i := 0) dX2_init_73 rfl rfl ?_
  refine B.bipush (pc := 74) dX2_init_74 ⟨by decide, by decide⟩ ?_
  refine B.newarrI (pc := 76) ac_Jvm_ClassFile_FieldType_int (by decide) (by decide) (Nat.le_of_ble_eq_true rfl) (Nat.le_of_ble_eq_true rfl) dX2_init_76 (fun q76 => ?_)
  simp only [List.cons_append, List.nil_append]
  refine B.putfieldF (pc := 78) rfl 0 rfl rfl inX2z tyX2 tyX2_ok nmX2 10 (by decide) fl_X2_36 rfl rfl rfl rfl (Nat.le_of_ble_eq_true rfl) dX2_init_78 ?_
  simp only [List.set_cons_zero, List.set_cons_succ]
  refine B.vreturn (pc := 81) rfl dX2_init_81 (Nat.le_of_ble_eq_true rfl) (Nat.le_of_ble_eq_true rfl) (fun rw => ⟨_, _, _, _, _, _, _, _, _, _, _, _, _, _, _, _, _, _, rfl, ?_⟩)
  exact ⟨fun _ => rfl, fun _ => rfl, fun _ => rfl, fun _ => rfl, fun _ => rfl, fun _ => rfl, fun _ => rfl, fun _ => rfl, fun _ => rfl⟩
set_option maxHeartbeats 4000000 in
set_option maxRecDepth 100000 in
theorem mX4_init {l : Launch} {D : va_G} {k : zK} {E : zE} (hE : zEok E) (k_a : Nat) : zMv l D k E yX4_init cX4_init 1 { frames := 1, cells := 4, slots := 1774, locals := 20 } 4 1774 [.inr (some k_a)] [(k_a, .inr (.inr (4, [.inr none, .inr none, .inr none, .inr none])))] True (fun z u => ∃ (k_before_a k_counts_a k_kept_a k_followed_a : Nat) (k_before k_counts k_kept k_followed : Nat → Int), u = [(k_a, .inr (.inr (4, [.inr (some k_before_a), .inr (some k_counts_a), .inr (some k_kept_a), .inr (some k_followed_a)]))), (k_before_a, .inl (false, 125, k_before)), (k_counts_a, .inl (false, 125, k_counts)), (k_kept_a, .inl (false, 1500, k_kept)), (k_followed_a, .inl (false, 24, k_followed))] ∧ ((∀ j, k_before j = 0) ∧ (∀ j, k_counts j = 0) ∧ (∀ j, k_kept j = 0) ∧ (∀ j, k_followed j = 0))) := by
  refine zMv.of RX4 hE (by decide) rfl (by simp) ?_
  intro Z hP hav hwr B
  show Z 0 0 0 [some (.inr (some k_a))] [] _
  refine B.aload_n (pc := 0) (i := 0) dX4_init_0 rfl rfl ?_
  refine B.objInit (pc := 1) ml_X4_5 im_java_lang_Object__init_ co_objInit (by decide) (Nat.le_of_ble_eq_true rfl) dX4_init_1 ?_
  refine B.aload_n (pc := 4) (i := 0) dX4_init_4 rfl rfl ?_
  refine B.bipush (pc := 5) dX4_init_5 ⟨by decide, by decide⟩ ?_
  refine B.newarrI (pc := 7) ac_Jvm_ClassFile_FieldType_int (by decide) (by decide) (Nat.le_of_ble_eq_true rfl) (Nat.le_of_ble_eq_true rfl) dX4_init_7 (fun q7 => ?_)
  simp only [List.cons_append, List.nil_append]
  refine B.putfieldF (pc := 9) rfl 0 rfl rfl inX4z tyX4 tyX4_ok nmX4 0 (by decide) fl_X4_11 rfl rfl rfl rfl (Nat.le_of_ble_eq_true rfl) dX4_init_9 ?_
  simp only [List.set_cons_zero, List.set_cons_succ]
  refine B.aload_n (pc := 12) (i := 0) dX4_init_12 rfl rfl ?_
  refine B.bipush (pc := 13) dX4_init_13 ⟨by decide, by decide⟩ ?_
  refine B.newarrI (pc := 15) ac_Jvm_ClassFile_FieldType_int (by decide) (by decide) (Nat.le_of_ble_eq_true rfl) (Nat.le_of_ble_eq_true rfl) dX4_init_15 (fun q15 => ?_)
  simp only [List.cons_append, List.nil_append]
  refine B.putfieldF (pc := 17) rfl 0 rfl rfl inX4z tyX4 tyX4_ok nmX4 1 (by decide) fl_X4_15 rfl rfl rfl rfl (Nat.le_of_ble_eq_true rfl) dX4_init_17 ?_
  simp only [List.set_cons_zero, List.set_cons_succ]
  refine B.aload_n (pc := 20) (i := 0) dX4_init_20 rfl rfl ?_
  refine B.sipush (pc := 21) dX4_init_21 ⟨by decide, by decide⟩ ?_
  refine B.newarrI (pc := 24) ac_Jvm_ClassFile_FieldType_int (by decide) (by decide) (Nat.le_of_ble_eq_true rfl) (Nat.le_of_ble_eq_true rfl) dX4_init_24 (fun q24 => ?_)
  simp only [List.cons_append, List.nil_append]
  refine B.putfieldF (pc := 26) rfl 0 rfl rfl inX4z tyX4 tyX4_ok nmX4 2 (by decide) fl_X4_18 rfl rfl rfl rfl (Nat.le_of_ble_eq_true rfl) dX4_init_26 ?_
  simp only [List.set_cons_zero, List.set_cons_succ]
  refine B.aload_n (pc := 29) (i := 0) dX4_init_29 rfl rfl ?_
  refine B.bipush (pc := 30) dX4_init_30 ⟨by decide, by decide⟩ ?_
  refine B.newarrI (pc := 32) ac_Jvm_ClassFile_FieldType_int (by decide) (by decide) (Nat.le_of_ble_eq_true rfl) (Nat.le_of_ble_eq_true rfl) dX4_init_32 (fun q32 => ?_)
  simp only [List.cons_append, List.nil_append]
  refine B.putfieldF (pc := 34) rfl 0 rfl rfl inX4z tyX4 tyX4_ok nmX4 3 (by decide) fl_X4_21 rfl rfl rfl rfl (Nat.le_of_ble_eq_true rfl) dX4_init_34 ?_
  simp only [List.set_cons_zero, List.set_cons_succ]
  refine B.vreturn (pc := 37) rfl dX4_init_37 (Nat.le_of_ble_eq_true rfl) (Nat.le_of_ble_eq_true rfl) (fun rw => ⟨_, _, _, _, _, _, _, _, rfl, ?_⟩)
  exact ⟨fun _ => rfl, fun _ => rfl, fun _ => rfl, fun _ => rfl⟩
set_option maxHeartbeats 4000000 in
set_option maxRecDepth 100000 in
theorem mX5_init {l : Launch} {D : va_G} {k : zK} {E : zE} (hE : zEok E) (w_a : Nat) : zMv l D k E yX5_init cX5_init 1 { frames := 1, cells := 1, slots := 71, locals := 20 } 1 71 [.inr (some w_a)] [(w_a, .inr (.inr (5, [.inr none, .inl 0])))] True (fun z u => ∃ (w_signs_a : Nat) (w_signs : Nat → Int), u = [(w_a, .inr (.inr (5, [.inr (some w_signs_a), .inl 0]))), (w_signs_a, .inl (false, 71, w_signs))] ∧ ((∀ j, w_signs j = 0))) := by
  refine zMv.of RX5 hE (by decide) rfl (by simp) ?_
  intro Z hP hav hwr B
  show Z 0 0 0 [some (.inr (some w_a))] [] _
  refine B.aload_n (pc := 0) (i := 0) dX5_init_0 rfl rfl ?_
  refine B.objInit (pc := 1) ml_X5_3 im_java_lang_Object__init_ co_objInit (by decide) (Nat.le_of_ble_eq_true rfl) dX5_init_1 ?_
  refine B.aload_n (pc := 4) (i := 0) dX5_init_4 rfl rfl ?_
  refine B.bipush (pc := 5) dX5_init_5 ⟨by decide, by decide⟩ ?_
  refine B.newarrI (pc := 7) ac_Jvm_ClassFile_FieldType_int (by decide) (by decide) (Nat.le_of_ble_eq_true rfl) (Nat.le_of_ble_eq_true rfl) dX5_init_7 (fun q7 => ?_)
  simp only [List.cons_append, List.nil_append]
  refine B.putfieldF (pc := 9) rfl 0 rfl rfl inX5z tyX5 tyX5_ok nmX5 0 (by decide) fl_X5_9 rfl rfl rfl rfl (Nat.le_of_ble_eq_true rfl) dX5_init_9 ?_
  simp only [List.set_cons_zero, List.set_cons_succ]
  refine B.vreturn (pc := 12) rfl dX5_init_12 (Nat.le_of_ble_eq_true rfl) (Nat.le_of_ble_eq_true rfl) (fun rw => ⟨_, _, rfl, ?_⟩)
  exact fun _ => rfl
set_option maxHeartbeats 4000000 in
set_option maxRecDepth 100000 in
theorem mX6_init {l : Launch} {D : va_G} {k : zK} {E : zE} (hE : zEok E) (hEA : ∀ A U H, E A U H → va_AO RX0 U) (c_a : Nat) : zMv l D k E yX6_init cX6_init 1 { frames := 3, cells := 29, slots := 4619, locals := 60 } 29 4619 [.inr (some c_a)] [(c_a, .inr (.inr (6, [.inr none, .inr none, .inr none, .inr none, .inr none, .inr none, .inl 0, .inl 0])))] True (fun z u => ∃ (c_pad_a c_pad_signs_a c_book_a c_book_dictionary_a c_book_dictionary_letters_a c_book_dictionary_lengths_a c_book_dictionary_kinds_a c_book_dictionary_costs_a c_book_joins_a c_book_rules_a c_book_line_a c_images_a c_net_a c_net_places_a c_net_lengths_a c_net_kinds_a c_net_costs_a c_net_words_a c_net_firsts_a c_net_joins_a c_net_slots_a c_net_routes_a c_ranking_a c_ranking_before_a c_ranking_counts_a c_ranking_kept_a c_ranking_followed_a c_writing_a c_writing_signs_a : Nat) (c_pad_signs c_book_dictionary_letters c_book_dictionary_lengths c_book_dictionary_kinds c_book_dictionary_costs c_book_joins c_book_rules c_book_line c_net_places c_net_lengths c_net_kinds c_net_costs c_net_words c_net_firsts c_net_joins c_net_slots c_net_routes c_ranking_before c_ranking_counts c_ranking_kept c_ranking_followed c_writing_signs : Nat → Int) (c_images : Nat → Option Nat), u = [(c_a, .inr (.inr (6, [.inr (some c_pad_a), .inr (some c_book_a), .inr (some c_images_a), .inr (some c_net_a), .inr (some c_ranking_a), .inr (some c_writing_a), .inl 0, .inl 0]))), (c_pad_a, .inr (.inr (3, [.inr (some c_pad_signs_a), .inl 0, .inl 0, .inl 0, .inl 0]))), (c_pad_signs_a, .inl (false, 40, c_pad_signs)), (c_book_a, .inr (.inr (0, [.inr (some c_book_dictionary_a), .inr (some c_book_joins_a), .inr (some c_book_rules_a), .inr (some c_book_line_a), .inl 0]))), (c_book_dictionary_a, .inr (.inr (1, [.inr (some c_book_dictionary_letters_a), .inr (some c_book_dictionary_lengths_a), .inr (some c_book_dictionary_kinds_a), .inr (some c_book_dictionary_costs_a), .inl 0]))), (c_book_dictionary_letters_a, .inl (false, 96, c_book_dictionary_letters)), (c_book_dictionary_lengths_a, .inl (false, 16, c_book_dictionary_lengths)), (c_book_dictionary_kinds_a, .inl (false, 16, c_book_dictionary_kinds)), (c_book_dictionary_costs_a, .inl (false, 16, c_book_dictionary_costs)), (c_book_joins_a, .inl (false, 25, c_book_joins)), (c_book_rules_a, .inl (false, 4, c_book_rules)), (c_book_line_a, .inl (false, 24, c_book_line)), (c_images_a, .inr (.inl (2, c_images))), (c_net_a, .inr (.inr (2, [.inl 0, .inl 0, .inr (some c_net_places_a), .inr (some c_net_lengths_a), .inr (some c_net_kinds_a), .inr (some c_net_costs_a), .inr (some c_net_words_a), .inr (some c_net_firsts_a), .inr (some c_net_joins_a), .inr (some c_net_slots_a), .inr (some c_net_routes_a)]))), (c_net_places_a, .inl (false, 480, c_net_places)), (c_net_lengths_a, .inl (false, 480, c_net_lengths)), (c_net_kinds_a, .inl (false, 480, c_net_kinds)), (c_net_costs_a, .inl (false, 480, c_net_costs)), (c_net_words_a, .inl (false, 480, c_net_words)), (c_net_firsts_a, .inl (false, 25, c_net_firsts)), (c_net_joins_a, .inl (false, 25, c_net_joins)), (c_net_slots_a, .inl (false, 28, c_net_slots)), (c_net_routes_a, .inl (false, 25, c_net_routes)), (c_ranking_a, .inr (.inr (4, [.inr (some c_ranking_before_a), .inr (some c_ranking_counts_a), .inr (some c_ranking_kept_a), .inr (some c_ranking_followed_a)]))), (c_ranking_before_a, .inl (false, 125, c_ranking_before)), (c_ranking_counts_a, .inl (false, 125, c_ranking_counts)), (c_ranking_kept_a, .inl (false, 1500, c_ranking_kept)), (c_ranking_followed_a, .inl (false, 24, c_ranking_followed)), (c_writing_a, .inr (.inr (5, [.inr (some c_writing_signs_a), .inl 0]))), (c_writing_signs_a, .inl (false, 71, c_writing_signs))] ∧ ((∀ j, c_pad_signs j = 0) ∧ (∀ j, c_book_dictionary_letters j = 0) ∧ (∀ j, c_book_dictionary_lengths j = 0) ∧ (∀ j, c_book_dictionary_kinds j = 0) ∧ (∀ j, c_book_dictionary_costs j = 0) ∧ (∀ j, c_book_joins j = 0) ∧ (∀ j, c_book_line j = 0) ∧ c_book_rules 0 = 0 ∧ c_book_rules 1 = 50 ∧ c_book_rules 2 = 10 ∧ c_book_rules 3 = 1 ∧ (∀ j, c_net_places j = 0) ∧ (∀ j, c_net_lengths j = 0) ∧ (∀ j, c_net_kinds j = 0) ∧ (∀ j, c_net_costs j = 0) ∧ (∀ j, c_net_words j = 0) ∧ (∀ j, c_net_firsts j = 0) ∧ (∀ j, c_net_joins j = 0) ∧ (∀ j, c_net_slots j = 0) ∧ (∀ j, c_net_routes j = 0) ∧ (∀ j, c_ranking_before j = 0) ∧ (∀ j, c_ranking_counts j = 0) ∧ (∀ j, c_ranking_kept j = 0) ∧ (∀ j, c_ranking_followed j = 0) ∧ (∀ j, c_writing_signs j = 0) ∧ (∀ j, c_images j = none))) := by
  refine zMv.of RX6 hE (by decide) rfl (by simp) ?_
  intro Z hP hav hwr B
  show Z 0 0 0 [some (.inr (some c_a))] [] _
  refine B.aload_n (pc := 0) (i := 0) dX6_init_0 rfl rfl ?_
  refine B.objInit (pc := 1) ml_X6_1 im_java_lang_Object__init_ co_objInit (by decide) (Nat.le_of_ble_eq_true rfl) dX6_init_1 ?_
  refine B.aload_n (pc := 4) (i := 0) dX6_init_4 rfl rfl ?_
  refine B.new (pc := 5) (ci := 3) tyX3 tyX3_ok rfl inX3z cl_X6_7 ia_X3 it_X3 [.inr none, .inl 0, .inl 0, .inl 0, .inl 0] (fun j hj => by rcases (show j = 0 ∨ j = 1 ∨ j = 2 ∨ j = 3 ∨ j = 4 by omega) with rfl | rfl | rfl | rfl | rfl <;> rfl) (by simp [zVr, zR]) (Nat.le_of_ble_eq_true rfl) (Nat.le_of_ble_eq_true rfl) dX6_init_5 (fun q5 => ?_)
  simp only [List.cons_append, List.nil_append]
  refine B.dup (pc := 8) dX6_init_8 ?_
  refine B.callIv (pc := 9) 0 (mX3_init hE _) ml_X6_9 im_X3_init it_X3 co_X3_init rfl (by decide +kernel) rfl rfl rfl ⟨by decide, by decide⟩ ⟨(Nat.le_of_ble_eq_true rfl), (Nat.le_of_ble_eq_true rfl)⟩ [1] rfl rfl rfl (Nat.le_of_ble_eq_true rfl) dX6_init_9 (fun _ => trivial) (fun uk9 ruk9 rak9 hqk9 => ?_)
  obtain ⟨p_signs_a_k9, p_signs_k9, rfl, hk9⟩ := hqk9
  simp only [zput, List.set_cons_zero, List.set_cons_succ, List.cons_append, List.nil_append]
  refine B.putfieldF (pc := 12) rfl 0 rfl rfl inX6z tyX6 tyX6_ok nmX6 0 (by decide) fl_X6_10 rfl rfl rfl rfl (Nat.le_of_ble_eq_true rfl) dX6_init_12 ?_
  simp only [List.set_cons_zero, List.set_cons_succ]
  refine B.aload_n (pc := 15) (i := 0) dX6_init_15 rfl rfl ?_
  refine B.new (pc := 16) (ci := 0) tyX0 tyX0_ok rfl inX0z cl_X6_16 ia_X0 it_X0 [.inr none, .inr none, .inr none, .inr none, .inl 0] (fun j hj => by rcases (show j = 0 ∨ j = 1 ∨ j = 2 ∨ j = 3 ∨ j = 4 by omega) with rfl | rfl | rfl | rfl | rfl <;> rfl) (by simp [zVr, zR]) (Nat.le_of_ble_eq_true rfl) (Nat.le_of_ble_eq_true rfl) dX6_init_16 (fun q16 => ?_)
  simp only [List.cons_append, List.nil_append]
  refine B.dup (pc := 19) dX6_init_19 ?_
  refine B.callIv (pc := 20) 0 (mX0_init hE _) ml_X6_18 im_X0_init it_X0 co_X0_init rfl (by decide +kernel) rfl rfl rfl ⟨by decide, by decide⟩ ⟨(Nat.le_of_ble_eq_true rfl), (Nat.le_of_ble_eq_true rfl)⟩ [3] rfl rfl rfl (Nat.le_of_ble_eq_true rfl) dX6_init_20 (fun _ => trivial) (fun uk20 ruk20 rak20 hqk20 => ?_)
  obtain ⟨b_dictionary_a_k20, b_dictionary_letters_a_k20, b_dictionary_lengths_a_k20, b_dictionary_kinds_a_k20, b_dictionary_costs_a_k20, b_joins_a_k20, b_rules_a_k20, b_line_a_k20, b_dictionary_letters_k20, b_dictionary_lengths_k20, b_dictionary_kinds_k20, b_dictionary_costs_k20, b_joins_k20, b_rules_k20, b_line_k20, rfl, hk20⟩ := hqk20
  simp only [zput, List.set_cons_zero, List.set_cons_succ, List.cons_append, List.nil_append]
  refine B.putfieldF (pc := 23) rfl 0 rfl rfl inX6z tyX6 tyX6_ok nmX6 1 (by decide) fl_X6_19 rfl rfl rfl rfl (Nat.le_of_ble_eq_true rfl) dX6_init_23 ?_
  simp only [List.set_cons_zero, List.set_cons_succ]
  refine B.aload_n (pc := 26) (i := 0) dX6_init_26 rfl rfl ?_
  refine B.iconst (pc := 27) dX6_init_27 ⟨by decide, by decide⟩ ?_
  refine B.anewarr (pc := 28) hEA cl_X6_16 (by decide) (by decide) (Nat.le_of_ble_eq_true rfl) (Nat.le_of_ble_eq_true rfl) dX6_init_28 (fun q28 => ?_)
  simp only [List.cons_append, List.nil_append]
  refine B.putfieldF (pc := 31) rfl 0 rfl rfl inX6z tyX6 tyX6_ok nmX6 2 (by decide) fl_X6_23 rfl rfl rfl rfl (Nat.le_of_ble_eq_true rfl) dX6_init_31 ?_
  simp only [List.set_cons_zero, List.set_cons_succ]
  refine B.aload_n (pc := 34) (i := 0) dX6_init_34 rfl rfl ?_
  refine B.new (pc := 35) (ci := 2) tyX2 tyX2_ok rfl inX2z cl_X6_27 ia_X2 it_X2 [.inl 0, .inl 0, .inr none, .inr none, .inr none, .inr none, .inr none, .inr none, .inr none, .inr none, .inr none] (fun j hj => by rcases (show j = 0 ∨ j = 1 ∨ j = 2 ∨ j = 3 ∨ j = 4 ∨ j = 5 ∨ j = 6 ∨ j = 7 ∨ j = 8 ∨ j = 9 ∨ j = 10 by omega) with rfl | rfl | rfl | rfl | rfl | rfl | rfl | rfl | rfl | rfl | rfl <;> rfl) (by simp [zVr, zR]) (Nat.le_of_ble_eq_true rfl) (Nat.le_of_ble_eq_true rfl) dX6_init_35 (fun q35 => ?_)
  simp only [List.cons_append, List.nil_append]
  refine B.dup (pc := 38) dX6_init_38 ?_
  refine B.callIv (pc := 39) 0 (mX2_init hE _) ml_X6_29 im_X2_init it_X2 co_X2_init rfl (by decide +kernel) rfl rfl rfl ⟨by decide, by decide⟩ ⟨(Nat.le_of_ble_eq_true rfl), (Nat.le_of_ble_eq_true rfl)⟩ [13] rfl rfl rfl (Nat.le_of_ble_eq_true rfl) dX6_init_39 (fun _ => trivial) (fun uk39 ruk39 rak39 hqk39 => ?_)
  obtain ⟨n_places_a_k39, n_lengths_a_k39, n_kinds_a_k39, n_costs_a_k39, n_words_a_k39, n_firsts_a_k39, n_joins_a_k39, n_slots_a_k39, n_routes_a_k39, n_places_k39, n_lengths_k39, n_kinds_k39, n_costs_k39, n_words_k39, n_firsts_k39, n_joins_k39, n_slots_k39, n_routes_k39, rfl, hk39⟩ := hqk39
  simp only [zput, List.set_cons_zero, List.set_cons_succ, List.cons_append, List.nil_append]
  refine B.putfieldF (pc := 42) rfl 0 rfl rfl inX6z tyX6 tyX6_ok nmX6 3 (by decide) fl_X6_30 rfl rfl rfl rfl (Nat.le_of_ble_eq_true rfl) dX6_init_42 ?_
  simp only [List.set_cons_zero, List.set_cons_succ]
  refine B.aload_n (pc := 45) (i := 0) dX6_init_45 rfl rfl ?_
  refine B.new (pc := 46) (ci := 4) tyX4 tyX4_ok rfl inX4z cl_X6_34 ia_X4 it_X4 [.inr none, .inr none, .inr none, .inr none] (fun j hj => by rcases (show j = 0 ∨ j = 1 ∨ j = 2 ∨ j = 3 by omega) with rfl | rfl | rfl | rfl <;> rfl) (by simp [zVr, zR]) (Nat.le_of_ble_eq_true rfl) (Nat.le_of_ble_eq_true rfl) dX6_init_46 (fun q46 => ?_)
  simp only [List.cons_append, List.nil_append]
  refine B.dup (pc := 49) dX6_init_49 ?_
  refine B.callIv (pc := 50) 0 (mX4_init hE _) ml_X6_36 im_X4_init it_X4 co_X4_init rfl (by decide +kernel) rfl rfl rfl ⟨by decide, by decide⟩ ⟨(Nat.le_of_ble_eq_true rfl), (Nat.le_of_ble_eq_true rfl)⟩ [23] rfl rfl rfl (Nat.le_of_ble_eq_true rfl) dX6_init_50 (fun _ => trivial) (fun uk50 ruk50 rak50 hqk50 => ?_)
  obtain ⟨k_before_a_k50, k_counts_a_k50, k_kept_a_k50, k_followed_a_k50, k_before_k50, k_counts_k50, k_kept_k50, k_followed_k50, rfl, hk50⟩ := hqk50
  simp only [zput, List.set_cons_zero, List.set_cons_succ, List.cons_append, List.nil_append]
  refine B.putfieldF (pc := 53) rfl 0 rfl rfl inX6z tyX6 tyX6_ok nmX6 4 (by decide) fl_X6_37 rfl rfl rfl rfl (Nat.le_of_ble_eq_true rfl) dX6_init_53 ?_
  simp only [List.set_cons_zero, List.set_cons_succ]
  refine B.aload_n (pc := 56) (i := 0) dX6_init_56 rfl rfl ?_
  refine B.new (pc := 57) (ci := 5) tyX5 tyX5_ok rfl inX5z cl_X6_41 ia_X5 it_X5 [.inr none, .inl 0] (fun j hj => by rcases (show j = 0 ∨ j = 1 by omega) with rfl | rfl <;> rfl) (by simp [zVr, zR]) (Nat.le_of_ble_eq_true rfl) (Nat.le_of_ble_eq_true rfl) dX6_init_57 (fun q57 => ?_)
  simp only [List.cons_append, List.nil_append]
  refine B.dup (pc := 60) dX6_init_60 ?_
  refine B.callIv (pc := 61) 0 (mX5_init hE _) ml_X6_43 im_X5_init it_X5 co_X5_init rfl (by decide +kernel) rfl rfl rfl ⟨by decide, by decide⟩ ⟨(Nat.le_of_ble_eq_true rfl), (Nat.le_of_ble_eq_true rfl)⟩ [28] rfl rfl rfl (Nat.le_of_ble_eq_true rfl) dX6_init_61 (fun _ => trivial) (fun uk61 ruk61 rak61 hqk61 => ?_)
  obtain ⟨w_signs_a_k61, w_signs_k61, rfl, hk61⟩ := hqk61
  simp only [zput, List.set_cons_zero, List.set_cons_succ, List.cons_append, List.nil_append]
  refine B.putfieldF (pc := 64) rfl 0 rfl rfl inX6z tyX6 tyX6_ok nmX6 5 (by decide) fl_X6_44 rfl rfl rfl rfl (Nat.le_of_ble_eq_true rfl) dX6_init_64 ?_
  simp only [List.set_cons_zero, List.set_cons_succ]
  refine B.vreturn (pc := 67) rfl dX6_init_67 (Nat.le_of_ble_eq_true rfl) (Nat.le_of_ble_eq_true rfl) (fun rw => ⟨_, _, _, _, _, _, _, _, _, _, _, _, _, _, _, _, _, _, _, _, _, _, _, _, _, _, _, _, _, _, _, _, _, _, _, _, _, _, _, _, _, _, _, _, _, _, _, _, _, _, _, _, rfl, ?_⟩)
  obtain ⟨b1, b2, b3, b4, b5, b6, b7, b8, b9, b10⟩ := hk20
  obtain ⟨n1, n2, n3, n4, n5, n6, n7, n8, n9⟩ := hk39
  obtain ⟨r1, r2, r3, r4⟩ := hk50
  exact ⟨hk9, b1, b2, b3, b4, b5, b6, b7, b8, b9, b10, n1, n2, n3, n4, n5, n6, n7, n8, n9, r1, r2, r3, r4, hk61, fun _ => rfl⟩
set_option maxHeartbeats 4000000 in
set_option maxRecDepth 100000 in
theorem mX7_init {l : Launch} {D : va_G} {k : zK} {E : zE} (hE : zEok E) (m_a : Nat) : zMv l D k E yX7_init cX7_init 1 { frames := 1, cells := 21, slots := 15631, locals := 20 } 21 15631 [.inr (some m_a)] [(m_a, .inr (.inr (7, [.inr none, .inr none, .inr none, .inr none, .inl 0, .inr none, .inr none, .inr none, .inl 0, .inl 0, .inr none, .inl 0, .inl 0, .inl 0, .inr none, .inr none, .inr none, .inr none, .inr none, .inr none, .inl 0, .inr none, .inr none, .inr none, .inr none, .inr none, .inr none, .inr none])))] True (fun z u => ∃ (m_letters_a m_size_a m_kind_a m_cost_a m_joins_a m_rules_a m_line_a m_pad_a m_place_a m_length_a m_sort_a m_price_a m_of_a m_begins_a m_rowCost_a m_rowNext_a m_rows_a m_ahead_a m_waysTo_a m_image_a m_isKept_a : Nat) (m_letters m_size m_kind m_cost m_joins m_rules m_line m_pad m_place m_length m_sort m_price m_of m_begins m_rowCost m_rowNext m_rows m_ahead m_waysTo m_image m_isKept : Nat → Int), u = [(m_a, .inr (.inr (7, [.inr (some m_letters_a), .inr (some m_size_a), .inr (some m_kind_a), .inr (some m_cost_a), .inl 0, .inr (some m_joins_a), .inr (some m_rules_a), .inr (some m_line_a), .inl 0, .inl 0, .inr (some m_pad_a), .inl 0, .inl 0, .inl 0, .inr (some m_place_a), .inr (some m_length_a), .inr (some m_sort_a), .inr (some m_price_a), .inr (some m_of_a), .inr (some m_begins_a), .inl 0, .inr (some m_rowCost_a), .inr (some m_rowNext_a), .inr (some m_rows_a), .inr (some m_ahead_a), .inr (some m_waysTo_a), .inr (some m_image_a), .inr (some m_isKept_a)]))), (m_letters_a, .inl (false, 96, m_letters)), (m_size_a, .inl (false, 16, m_size)), (m_kind_a, .inl (false, 16, m_kind)), (m_cost_a, .inl (false, 16, m_cost)), (m_joins_a, .inl (false, 25, m_joins)), (m_rules_a, .inl (false, 4, m_rules)), (m_line_a, .inl (false, 24, m_line)), (m_pad_a, .inl (false, 40, m_pad)), (m_place_a, .inl (false, 480, m_place)), (m_length_a, .inl (false, 480, m_length)), (m_sort_a, .inl (false, 480, m_sort)), (m_price_a, .inl (false, 480, m_price)), (m_of_a, .inl (false, 480, m_of)), (m_begins_a, .inl (false, 26, m_begins)), (m_rowCost_a, .inl (false, 5760, m_rowCost)), (m_rowNext_a, .inl (false, 5760, m_rowNext)), (m_rows_a, .inl (false, 480, m_rows)), (m_ahead_a, .inl (false, 480, m_ahead)), (m_waysTo_a, .inl (false, 26, m_waysTo)), (m_image_a, .inl (false, 460, m_image)), (m_isKept_a, .inl (true, 2, m_isKept))] ∧ ((∀ j, m_letters j = 0) ∧ (∀ j, m_size j = 0) ∧ (∀ j, m_kind j = 0) ∧ (∀ j, m_cost j = 0) ∧ (∀ j, m_joins j = 0) ∧ (∀ j, m_line j = 0) ∧ (∀ j, m_pad j = 0) ∧ (∀ j, m_place j = 0) ∧ (∀ j, m_length j = 0) ∧ (∀ j, m_sort j = 0) ∧ (∀ j, m_price j = 0) ∧ (∀ j, m_of j = 0) ∧ (∀ j, m_begins j = 0) ∧ (∀ j, m_rowCost j = 0) ∧ (∀ j, m_rowNext j = 0) ∧ (∀ j, m_rows j = 0) ∧ (∀ j, m_ahead j = 0) ∧ (∀ j, m_waysTo j = 0) ∧ (∀ j, m_image j = 0) ∧ (∀ j, m_isKept j = 0) ∧ m_rules 0 = 0 ∧ m_rules 1 = 50 ∧ m_rules 2 = 10 ∧ m_rules 3 = 1)) := by
  refine zMv.of RX7 hE (by decide) rfl (by simp) ?_
  intro Z hP hav hwr B
  show Z 0 0 0 [some (.inr (some m_a))] [] _
  refine B.aload_n (pc := 0) (i := 0) dX7_init_0 rfl rfl ?_
  refine B.objInit (pc := 1) ml_X7_1 im_java_lang_Object__init_ co_objInit (by decide) (Nat.le_of_ble_eq_true rfl) dX7_init_1 ?_
  refine B.aload_n (pc := 4) (i := 0) dX7_init_4 rfl rfl ?_
  refine B.bipush (pc := 5) dX7_init_5 ⟨by decide, by decide⟩ ?_
  refine B.newarrI (pc := 7) ac_Jvm_ClassFile_FieldType_int (by decide) (by decide) (Nat.le_of_ble_eq_true rfl) (Nat.le_of_ble_eq_true rfl) dX7_init_7 (fun q7 => ?_)
  simp only [List.cons_append, List.nil_append]
  refine B.putfieldF (pc := 9) rfl 0 rfl rfl inX7z tyX7 tyX7_ok nmX7 0 (by decide) fl_X7_7 rfl rfl rfl rfl (Nat.le_of_ble_eq_true rfl) dX7_init_9 ?_
  simp only [List.set_cons_zero, List.set_cons_succ]
  refine B.aload_n (pc := 12) (i := 0) dX7_init_12 rfl rfl ?_
  refine B.bipush (pc := 13) dX7_init_13 ⟨by decide, by decide⟩ ?_
  refine B.newarrI (pc := 15) ac_Jvm_ClassFile_FieldType_int (by decide) (by decide) (Nat.le_of_ble_eq_true rfl) (Nat.le_of_ble_eq_true rfl) dX7_init_15 (fun q15 => ?_)
  simp only [List.cons_append, List.nil_append]
  refine B.putfieldF (pc := 17) rfl 0 rfl rfl inX7z tyX7 tyX7_ok nmX7 1 (by decide) fl_X7_13 rfl rfl rfl rfl (Nat.le_of_ble_eq_true rfl) dX7_init_17 ?_
  simp only [List.set_cons_zero, List.set_cons_succ]
  refine B.aload_n (pc := 20) (i := 0) dX7_init_20 rfl rfl ?_
  refine B.bipush (pc := 21) dX7_init_21 ⟨by decide, by decide⟩ ?_
  refine B.newarrI (pc := 23) ac_Jvm_ClassFile_FieldType_int (by decide) (by decide) (Nat.le_of_ble_eq_true rfl) (Nat.le_of_ble_eq_true rfl) dX7_init_23 (fun q23 => ?_)
  simp only [List.cons_append, List.nil_append]
  refine B.putfieldF (pc := 25) rfl 0 rfl rfl inX7z tyX7 tyX7_ok nmX7 2 (by decide) fl_X7_16 rfl rfl rfl rfl (Nat.le_of_ble_eq_true rfl) dX7_init_25 ?_
  simp only [List.set_cons_zero, List.set_cons_succ]
  refine B.aload_n (pc := 28) (i := 0) dX7_init_28 rfl rfl ?_
  refine B.bipush (pc := 29) dX7_init_29 ⟨by decide, by decide⟩ ?_
  refine B.newarrI (pc := 31) ac_Jvm_ClassFile_FieldType_int (by decide) (by decide) (Nat.le_of_ble_eq_true rfl) (Nat.le_of_ble_eq_true rfl) dX7_init_31 (fun q31 => ?_)
  simp only [List.cons_append, List.nil_append]
  refine B.putfieldF (pc := 33) rfl 0 rfl rfl inX7z tyX7 tyX7_ok nmX7 3 (by decide) fl_X7_19 rfl rfl rfl rfl (Nat.le_of_ble_eq_true rfl) dX7_init_33 ?_
  simp only [List.set_cons_zero, List.set_cons_succ]
  refine B.aload_n (pc := 36) (i := 0) dX7_init_36 rfl rfl ?_
  refine B.bipush (pc := 37) dX7_init_37 ⟨by decide, by decide⟩ ?_
  refine B.newarrI (pc := 39) ac_Jvm_ClassFile_FieldType_int (by decide) (by decide) (Nat.le_of_ble_eq_true rfl) (Nat.le_of_ble_eq_true rfl) dX7_init_39 (fun q39 => ?_)
  simp only [List.cons_append, List.nil_append]
  refine B.putfieldF (pc := 41) rfl 0 rfl rfl inX7z tyX7 tyX7_ok nmX7 5 (by decide) fl_X7_22 rfl rfl rfl rfl (Nat.le_of_ble_eq_true rfl) dX7_init_41 ?_
  simp only [List.set_cons_zero, List.set_cons_succ]
  refine B.aload_n (pc := 44) (i := 0) dX7_init_44 rfl rfl ?_
  refine B.iconst (pc := 45) dX7_init_45 ⟨by decide, by decide⟩ ?_
  refine B.newarrI (pc := 46) ac_Jvm_ClassFile_FieldType_int (by decide) (by decide) (Nat.le_of_ble_eq_true rfl) (Nat.le_of_ble_eq_true rfl) dX7_init_46 (fun q46 => ?_)
  simp only [List.cons_append, List.nil_append]
  refine B.putfieldF (pc := 48) rfl 0 rfl rfl inX7z tyX7 tyX7_ok nmX7 6 (by decide) fl_X7_25 rfl rfl rfl rfl (Nat.le_of_ble_eq_true rfl) dX7_init_48 ?_
  simp only [List.set_cons_zero, List.set_cons_succ]
  refine B.aload_n (pc := 51) (i := 0) dX7_init_51 rfl rfl ?_
  refine B.bipush (pc := 52) dX7_init_52 ⟨by decide, by decide⟩ ?_
  refine B.newarrI (pc := 54) ac_Jvm_ClassFile_FieldType_int (by decide) (by decide) (Nat.le_of_ble_eq_true rfl) (Nat.le_of_ble_eq_true rfl) dX7_init_54 (fun q54 => ?_)
  simp only [List.cons_append, List.nil_append]
  refine B.putfieldF (pc := 56) rfl 0 rfl rfl inX7z tyX7 tyX7_ok nmX7 7 (by decide) fl_X7_28 rfl rfl rfl rfl (Nat.le_of_ble_eq_true rfl) dX7_init_56 ?_
  simp only [List.set_cons_zero, List.set_cons_succ]
  refine B.aload_n (pc := 59) (i := 0) dX7_init_59 rfl rfl ?_
  refine B.bipush (pc := 60) dX7_init_60 ⟨by decide, by decide⟩ ?_
  refine B.newarrI (pc := 62) ac_Jvm_ClassFile_FieldType_int (by decide) (by decide) (Nat.le_of_ble_eq_true rfl) (Nat.le_of_ble_eq_true rfl) dX7_init_62 (fun q62 => ?_)
  simp only [List.cons_append, List.nil_append]
  refine B.putfieldF (pc := 64) rfl 0 rfl rfl inX7z tyX7 tyX7_ok nmX7 10 (by decide) fl_X7_31 rfl rfl rfl rfl (Nat.le_of_ble_eq_true rfl) dX7_init_64 ?_
  simp only [List.set_cons_zero, List.set_cons_succ]
  refine B.aload_n (pc := 67) (i := 0) dX7_init_67 rfl rfl ?_
  refine B.sipush (pc := 68) dX7_init_68 ⟨by decide, by decide⟩ ?_
  refine B.newarrI (pc := 71) ac_Jvm_ClassFile_FieldType_int (by decide) (by decide) (Nat.le_of_ble_eq_true rfl) (Nat.le_of_ble_eq_true rfl) dX7_init_71 (fun q71 => ?_)
  simp only [List.cons_append, List.nil_append]
  refine B.putfieldF (pc := 73) rfl 0 rfl rfl inX7z tyX7 tyX7_ok nmX7 14 (by decide) fl_X7_34 rfl rfl rfl rfl (Nat.le_of_ble_eq_true rfl) dX7_init_73 ?_
  simp only [List.set_cons_zero, List.set_cons_succ]
  refine B.aload_n (pc := 76) (i := 0) dX7_init_76 rfl rfl ?_
  refine B.sipush (pc := 77) dX7_init_77 ⟨by decide, by decide⟩ ?_
  refine B.newarrI (pc := 80) ac_Jvm_ClassFile_FieldType_int (by decide) (by decide) (Nat.le_of_ble_eq_true rfl) (Nat.le_of_ble_eq_true rfl) dX7_init_80 (fun q80 => ?_)
  simp only [List.cons_append, List.nil_append]
  refine B.putfieldF (pc := 82) rfl 0 rfl rfl inX7z tyX7 tyX7_ok nmX7 15 (by decide) fl_X7_37 rfl rfl rfl rfl (Nat.le_of_ble_eq_true rfl) dX7_init_82 ?_
  simp only [List.set_cons_zero, List.set_cons_succ]
  refine B.aload_n (pc := 85) (i := 0) dX7_init_85 rfl rfl ?_
  refine B.sipush (pc := 86) dX7_init_86 ⟨by decide, by decide⟩ ?_
  refine B.newarrI (pc := 89) ac_Jvm_ClassFile_FieldType_int (by decide) (by decide) (Nat.le_of_ble_eq_true rfl) (Nat.le_of_ble_eq_true rfl) dX7_init_89 (fun q89 => ?_)
  simp only [List.cons_append, List.nil_append]
  refine B.putfieldF (pc := 91) rfl 0 rfl rfl inX7z tyX7 tyX7_ok nmX7 16 (by decide) fl_X7_40 rfl rfl rfl rfl (Nat.le_of_ble_eq_true rfl) dX7_init_91 ?_
  simp only [List.set_cons_zero, List.set_cons_succ]
  refine B.aload_n (pc := 94) (i := 0) dX7_init_94 rfl rfl ?_
  refine B.sipush (pc := 95) dX7_init_95 ⟨by decide, by decide⟩ ?_
  refine B.newarrI (pc := 98) ac_Jvm_ClassFile_FieldType_int (by decide) (by decide) (Nat.le_of_ble_eq_true rfl) (Nat.le_of_ble_eq_true rfl) dX7_init_98 (fun q98 => ?_)
  simp only [List.cons_append, List.nil_append]
  refine B.putfieldF (pc := 100) rfl 0 rfl rfl inX7z tyX7 tyX7_ok nmX7 17 (by decide) fl_X7_43 rfl rfl rfl rfl (Nat.le_of_ble_eq_true rfl) dX7_init_100 ?_
  simp only [List.set_cons_zero, List.set_cons_succ]
  refine B.aload_n (pc := 103) (i := 0) dX7_init_103 rfl rfl ?_
  refine B.sipush (pc := 104) dX7_init_104 ⟨by decide, by decide⟩ ?_
  refine B.newarrI (pc := 107) ac_Jvm_ClassFile_FieldType_int (by decide) (by decide) (Nat.le_of_ble_eq_true rfl) (Nat.le_of_ble_eq_true rfl) dX7_init_107 (fun q107 => ?_)
  simp only [List.cons_append, List.nil_append]
  refine B.putfieldF (pc := 109) rfl 0 rfl rfl inX7z tyX7 tyX7_ok nmX7 18 (by decide) fl_X7_46 rfl rfl rfl rfl (Nat.le_of_ble_eq_true rfl) dX7_init_109 ?_
  simp only [List.set_cons_zero, List.set_cons_succ]
  refine B.aload_n (pc := 112) (i := 0) dX7_init_112 rfl rfl ?_
  refine B.bipush (pc := 113) dX7_init_113 ⟨by decide, by decide⟩ ?_
  refine B.newarrI (pc := 115) ac_Jvm_ClassFile_FieldType_int (by decide) (by decide) (Nat.le_of_ble_eq_true rfl) (Nat.le_of_ble_eq_true rfl) dX7_init_115 (fun q115 => ?_)
  simp only [List.cons_append, List.nil_append]
  refine B.putfieldF (pc := 117) rfl 0 rfl rfl inX7z tyX7 tyX7_ok nmX7 19 (by decide) fl_X7_49 rfl rfl rfl rfl (Nat.le_of_ble_eq_true rfl) dX7_init_117 ?_
  simp only [List.set_cons_zero, List.set_cons_succ]
  refine B.aload_n (pc := 120) (i := 0) dX7_init_120 rfl rfl ?_
  refine B.sipush (pc := 121) dX7_init_121 ⟨by decide, by decide⟩ ?_
  refine B.newarrI (pc := 124) ac_Jvm_ClassFile_FieldType_int (by decide) (by decide) (Nat.le_of_ble_eq_true rfl) (Nat.le_of_ble_eq_true rfl) dX7_init_124 (fun q124 => ?_)
  simp only [List.cons_append, List.nil_append]
  refine B.putfieldF (pc := 126) rfl 0 rfl rfl inX7z tyX7 tyX7_ok nmX7 21 (by decide) fl_X7_52 rfl rfl rfl rfl (Nat.le_of_ble_eq_true rfl) dX7_init_126 ?_
  simp only [List.set_cons_zero, List.set_cons_succ]
  refine B.aload_n (pc := 129) (i := 0) dX7_init_129 rfl rfl ?_
  refine B.sipush (pc := 130) dX7_init_130 ⟨by decide, by decide⟩ ?_
  refine B.newarrI (pc := 133) ac_Jvm_ClassFile_FieldType_int (by decide) (by decide) (Nat.le_of_ble_eq_true rfl) (Nat.le_of_ble_eq_true rfl) dX7_init_133 (fun q133 => ?_)
  simp only [List.cons_append, List.nil_append]
  refine B.putfieldF (pc := 135) rfl 0 rfl rfl inX7z tyX7 tyX7_ok nmX7 22 (by decide) fl_X7_55 rfl rfl rfl rfl (Nat.le_of_ble_eq_true rfl) dX7_init_135 ?_
  simp only [List.set_cons_zero, List.set_cons_succ]
  refine B.aload_n (pc := 138) (i := 0) dX7_init_138 rfl rfl ?_
  refine B.sipush (pc := 139) dX7_init_139 ⟨by decide, by decide⟩ ?_
  refine B.newarrI (pc := 142) ac_Jvm_ClassFile_FieldType_int (by decide) (by decide) (Nat.le_of_ble_eq_true rfl) (Nat.le_of_ble_eq_true rfl) dX7_init_142 (fun q142 => ?_)
  simp only [List.cons_append, List.nil_append]
  refine B.putfieldF (pc := 144) rfl 0 rfl rfl inX7z tyX7 tyX7_ok nmX7 23 (by decide) fl_X7_58 rfl rfl rfl rfl (Nat.le_of_ble_eq_true rfl) dX7_init_144 ?_
  simp only [List.set_cons_zero, List.set_cons_succ]
  refine B.aload_n (pc := 147) (i := 0) dX7_init_147 rfl rfl ?_
  refine B.sipush (pc := 148) dX7_init_148 ⟨by decide, by decide⟩ ?_
  refine B.newarrI (pc := 151) ac_Jvm_ClassFile_FieldType_int (by decide) (by decide) (Nat.le_of_ble_eq_true rfl) (Nat.le_of_ble_eq_true rfl) dX7_init_151 (fun q151 => ?_)
  simp only [List.cons_append, List.nil_append]
  refine B.putfieldF (pc := 153) rfl 0 rfl rfl inX7z tyX7 tyX7_ok nmX7 24 (by decide) fl_X7_61 rfl rfl rfl rfl (Nat.le_of_ble_eq_true rfl) dX7_init_153 ?_
  simp only [List.set_cons_zero, List.set_cons_succ]
  refine B.aload_n (pc := 156) (i := 0) dX7_init_156 rfl rfl ?_
  refine B.bipush (pc := 157) dX7_init_157 ⟨by decide, by decide⟩ ?_
  refine B.newarrI (pc := 159) ac_Jvm_ClassFile_FieldType_int (by decide) (by decide) (Nat.le_of_ble_eq_true rfl) (Nat.le_of_ble_eq_true rfl) dX7_init_159 (fun q159 => ?_)
  simp only [List.cons_append, List.nil_append]
  refine B.putfieldF (pc := 161) rfl 0 rfl rfl inX7z tyX7 tyX7_ok nmX7 25 (by decide) fl_X7_64 rfl rfl rfl rfl (Nat.le_of_ble_eq_true rfl) dX7_init_161 ?_
  simp only [List.set_cons_zero, List.set_cons_succ]
  refine B.aload_n (pc := 164) (i := 0) dX7_init_164 rfl rfl ?_
  refine B.sipush (pc := 165) dX7_init_165 ⟨by decide, by decide⟩ ?_
  refine B.newarrI (pc := 168) ac_Jvm_ClassFile_FieldType_int (by decide) (by decide) (Nat.le_of_ble_eq_true rfl) (Nat.le_of_ble_eq_true rfl) dX7_init_168 (fun q168 => ?_)
  simp only [List.cons_append, List.nil_append]
  refine B.putfieldF (pc := 170) rfl 0 rfl rfl inX7z tyX7 tyX7_ok nmX7 26 (by decide) fl_X7_67 rfl rfl rfl rfl (Nat.le_of_ble_eq_true rfl) dX7_init_170 ?_
  simp only [List.set_cons_zero, List.set_cons_succ]
  refine B.aload_n (pc := 173) (i := 0) dX7_init_173 rfl rfl ?_
  refine B.iconst (pc := 174) dX7_init_174 ⟨by decide, by decide⟩ ?_
  refine B.newarrZ (pc := 175) ac_Jvm_ClassFile_FieldType_boolean (by decide) (by decide) (Nat.le_of_ble_eq_true rfl) (Nat.le_of_ble_eq_true rfl) dX7_init_175 (fun q175 => ?_)
  simp only [List.cons_append, List.nil_append]
  refine B.putfieldF (pc := 177) rfl 0 rfl rfl inX7z tyX7 tyX7_ok nmX7 27 (by decide) fl_X7_70 rfl rfl rfl rfl (Nat.le_of_ble_eq_true rfl) dX7_init_177 ?_
  simp only [List.set_cons_zero, List.set_cons_succ]
  refine B.aload_n (pc := 180) (i := 0) dX7_init_180 rfl rfl ?_
  refine B.getfield (pc := 181) 0 rfl rfl inX7z 6 (by decide) fl_X7_25 rfl dX7_init_181 ?_
  refine B.iconst (pc := 184) dX7_init_184 ⟨by decide, by decide⟩ ?_
  refine B.bipush (pc := 185) dX7_init_185 ⟨by decide, by decide⟩ ?_
  refine B.iastore (pc := 187) 6 rfl (by omega) (by omega) dX7_init_187 ?_
  simp only [List.set_cons_zero, List.set_cons_succ]
  refine B.aload_n (pc := 188) (i := 0) dX7_init_188 rfl rfl ?_
  refine B.getfield (pc := 189) 0 rfl rfl inX7z 6 (by decide) fl_X7_25 rfl dX7_init_189 ?_
  refine B.iconst (pc := 192) dX7_init_192 ⟨by decide, by decide⟩ ?_
  refine B.bipush (pc := 193) dX7_init_193 ⟨by decide, by decide⟩ ?_
  refine B.iastore (pc := 195) 6 rfl (by omega) (by omega) dX7_init_195 ?_
  simp only [List.set_cons_zero, List.set_cons_succ]
  refine B.aload_n (pc := 196) (i := 0) dX7_init_196 rfl rfl ?_
  refine B.getfield (pc := 197) 0 rfl rfl inX7z 6 (by decide) fl_X7_25 rfl dX7_init_197 ?_
  refine B.iconst (pc := 200) dX7_init_200 ⟨by decide, by decide⟩ ?_
  refine B.iconst (pc := 201) dX7_init_201 ⟨by decide, by decide⟩ ?_
  refine B.iastore (pc := 202) 6 rfl (by omega) (by omega) dX7_init_202 ?_
  simp only [List.set_cons_zero, List.set_cons_succ]
  refine B.vreturn (pc := 203) rfl dX7_init_203 (Nat.le_of_ble_eq_true rfl) (Nat.le_of_ble_eq_true rfl) (fun rw => ⟨_, _, _, _, _, _, _, _, _, _, _, _, _, _, _, _, _, _, _, _, _, _, _, _, _, _, _, _, _, _, _, _, _, _, _, _, _, _, _, _, _, _, rfl, ?_⟩)
  exact ⟨fun _ => rfl, fun _ => rfl, fun _ => rfl, fun _ => rfl, fun _ => rfl, fun _ => rfl, fun _ => rfl, fun _ => rfl, fun _ => rfl, fun _ => rfl, fun _ => rfl, fun _ => rfl, fun _ => rfl, fun _ => rfl, fun _ => rfl, fun _ => rfl, fun _ => rfl, fun _ => rfl, fun _ => rfl, fun _ => rfl, rfl, rfl, rfl, rfl⟩
