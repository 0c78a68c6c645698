theorem ru_same {a b : Nat → Int} (h0 : a 0 = 0) (h1 : a 1 = 50) (h2 : a 2 = 10) (h3 : a 3 = 1) (g0 : b 0 = 0) (g1 : b 1 = 50) (g2 : b 2 = 10) (g3 : b 3 = 1) : ∀ j : Nat, j < 4 → a j = b j := by
  intro j hj
  rcases (show j = 0 ∨ j = 1 ∨ j = 2 ∨ j = 3 by omega) with rfl | rfl | rfl | rfl <;> omega
theorem CI_init {dle1 dle dki dco bjo bru npl nle nki nco nfi njo kct kke kfo : Nat → Int} (_ : ∀ j : Nat, dle1 j = 0) (h2 : ∀ j : Nat, dle j = 0) (h3 : ∀ j : Nat, dki j = 0) (h4 : ∀ j : Nat, dco j = 0) (h5 : ∀ j : Nat, bjo j = 0) (r0 : bru 0 = 0) (r1 : bru 1 = 50) (r2 : bru 2 = 10) (r3 : bru 3 = 1) (h6 : ∀ j : Nat, npl j = 0) (h7 : ∀ j : Nat, nle j = 0) (h8 : ∀ j : Nat, nki j = 0) (h9 : ∀ j : Nat, nco j = 0) (h10 : ∀ j : Nat, nfi j = 0) (h11 : ∀ j : Nat, njo j = 0) (h12 : ∀ j : Nat, kct j = 0) (h13 : ∀ j : Nat, kke j = 0) (h14 : ∀ j : Nat, kfo j = 0) : CI 0 0 dle dki dco bjo bru 0 0 0 npl nle nki nco nfi njo kct kke kfo 0 0 := by
  refine ⟨by omega, ⟨by omega, by omega, fun j hj => by omega⟩, ⟨fun j hj => by rw [h5 j]; omega, ?_⟩, ⟨fun i hi => ?_, fun p hp => by rw [h10 p]; omega, fun j hj => by rw [h11 j]; omega, by omega, by omega, by omega, by omega⟩, ⟨fun j hj => by rw [h12 j]; omega, fun j hj => ?_, fun j hj => by rw [h14 j]; omega⟩, by omega, fun q => absurd rfl q⟩
  · rw [r0, r1, r2, r3]; omega
  · rw [h6 i, h7 i, h8 i, h9 i]; omega
  · rw [h13 j]; omega
theorem MI_init {sz kd co jo ru im kp : Nat → Int} (h1 : ∀ j : Nat, sz j = 0) (h2 : ∀ j : Nat, kd j = 0) (h3 : ∀ j : Nat, co j = 0) (h4 : ∀ j : Nat, jo j = 0) (h5 : ∀ j : Nat, im j = 0) (h6 : ∀ j : Nat, kp j = 0) (r0 : ru 0 = 0) (r1 : ru 1 = 50) (r2 : ru 2 = 10) (r3 : ru 3 = 1) : MI 0 sz kd co jo ru 0 0 im kp := by
  refine ⟨⟨by omega, by omega, fun j hj => by omega⟩, ⟨fun j hj => by rw [h4 j]; omega, ?_⟩, by omega, fun q => absurd (h6 0) q, fun q => absurd (h6 1) q⟩
  rw [r0, r1, r2, r3]; omega
set_option maxHeartbeats 8000000 in
set_option maxRecDepth 100000 in
theorem law_first {l : Launch} {D : va_G} {k : zK} {aR aS aV b L : Nat} {sx : Nat → Int} (hL : L ≤ 2048) (hs : ∀ j, zR (sx j)) {Z : zP} (B : zB l D k (zEL aR aS aV b L sx) cL_law RL 4 room_1 600000 7302250 (some .boolean) False [] (fun z _ => z = 1) Z) : Z 0 0 0 [some (.inr (some b)), none, none, none] [] [] := by
  have hE := zEL_ok aR aS aV b L sx
  have hEX := zEL_x aR aS aV b L sx
  have hEA : ∀ A U H, zEL aR aS aV b L sx A U H → va_AO RX0 U := fun A U H h => (hEX A U H h).1
  refine B.new (pc := 0) (ci := 6) tyX6 tyX6_ok rfl inX6z cl_L_7 ia_X6 it_X6 [.inr none, .inr none, .inr none, .inr none, .inr none, .inr none, .inl 0, .inl 0] (fun j hj => by rcases (show j = 0 ∨ j = 1 ∨ j = 2 ∨ j = 3 ∨ j = 4 ∨ j = 5 ∨ j = 6 ∨ j = 7 by omega) with rfl | rfl | rfl | rfl | rfl | rfl | rfl | rfl <;> rfl) (by simp [zVr, zR]) (Nat.le_of_ble_eq_true rfl) (Nat.le_of_ble_eq_true rfl) dL_law_0 (fun q0 => ?_)
  simp only [List.cons_append, List.nil_append]
  refine B.dup (pc := 3) dL_law_3 ?_
  refine B.callIv (pc := 4) 0 (mX6_init hE hEA _) ml_L_9 im_X6_init it_X6 co_X6_init rfl (by decide +kernel) rfl rfl rfl ⟨by decide, by decide⟩ ⟨by decide, by decide⟩ [0] rfl rfl rfl (Nat.le_of_ble_eq_true rfl) dL_law_4 (fun _ => trivial) (fun uk4 ruk4 rak4 hqk4 => ?_)
  obtain ⟨c_pad_a_k4, c_pad_signs_a_k4, c_book_a_k4, c_book_dictionary_a_k4, c_book_dictionary_letters_a_k4, c_book_dictionary_lengths_a_k4, c_book_dictionary_kinds_a_k4, c_book_dictionary_costs_a_k4, c_book_joins_a_k4, c_book_rules_a_k4, c_book_line_a_k4, c_images_a_k4, c_net_a_k4, c_net_places_a_k4, c_net_lengths_a_k4, c_net_kinds_a_k4, c_net_costs_a_k4, c_net_words_a_k4, c_net_firsts_a_k4, c_net_joins_a_k4, c_net_slots_a_k4, c_net_routes_a_k4, c_ranking_a_k4, c_ranking_before_a_k4, c_ranking_counts_a_k4, c_ranking_kept_a_k4, c_ranking_followed_a_k4, c_writing_a_k4, c_writing_signs_a_k4, c_pad_signs_k4, c_book_dictionary_letters_k4, c_book_dictionary_lengths_k4, c_book_dictionary_kinds_k4, c_book_dictionary_costs_k4, c_book_joins_k4, c_book_rules_k4, c_book_line_k4, c_net_places_k4, c_net_lengths_k4, c_net_kinds_k4, c_net_costs_k4, c_net_words_k4, c_net_firsts_k4, c_net_joins_k4, c_net_slots_k4, c_net_routes_k4, c_ranking_before_k4, c_ranking_counts_k4, c_ranking_kept_k4, c_ranking_followed_k4, c_writing_signs_k4, c_images_k4, rfl, hk4⟩ := hqk4
  simp only [zput, List.set_cons_zero, List.set_cons_succ, List.cons_append, List.nil_append]
  refine B.astore_n (pc := 7) (i := 1) dL_law_7 rfl (by decide) ?_
  simp only [List.set_cons_zero, List.set_cons_succ]
  refine B.new (pc := 8) (ci := 7) tyX7 tyX7_ok rfl inX7z cl_L_10 ia_X7 it_X7 [.inr none, .inr none, .inr none, .inr none, .inl 0, .inr none, .inr none, .inr none, .inl 0, .inl 0, .inr none, .inl 0, .inl 0, .inl 0, .inr none, .inr none, .inr none, .inr none, .inr none, .inr none, .inl 0, .inr none, .inr none, .inr none, .inr none, .inr none, .inr none, .inr none] (fun j hj => by rcases (show j = 0 ∨ j = 1 ∨ j = 2 ∨ j = 3 ∨ j = 4 ∨ j = 5 ∨ j = 6 ∨ j = 7 ∨ j = 8 ∨ j = 9 ∨ j = 10 ∨ j = 11 ∨ j = 12 ∨ j = 13 ∨ j = 14 ∨ j = 15 ∨ j = 16 ∨ j = 17 ∨ j = 18 ∨ j = 19 ∨ j = 20 ∨ j = 21 ∨ j = 22 ∨ j = 23 ∨ j = 24 ∨ j = 25 ∨ j = 26 ∨ j = 27 by omega) with rfl | rfl | rfl | rfl | rfl | rfl | rfl | rfl | rfl | rfl | rfl | rfl | rfl | rfl | rfl | rfl | rfl | rfl | rfl | rfl | rfl | rfl | rfl | rfl | rfl | rfl | rfl | rfl <;> rfl) (by simp [zVr, zR]) (Nat.le_of_ble_eq_true rfl) (Nat.le_of_ble_eq_true rfl) dL_law_8 (fun q8 => ?_)
  simp only [List.cons_append, List.nil_append]
  refine B.dup (pc := 11) dL_law_11 ?_
  refine B.callIv (pc := 12) 0 (mX7_init hE _) ml_L_12 im_X7_init it_X7 co_X7_init rfl (by decide +kernel) rfl rfl rfl ⟨by decide, by decide⟩ ⟨by decide, by decide⟩ [30] rfl rfl rfl (Nat.le_of_ble_eq_true rfl) dL_law_12 (fun _ => trivial) (fun uk12 ruk12 rak12 hqk12 => ?_)
  obtain ⟨m_letters_a_k12, m_size_a_k12, m_kind_a_k12, m_cost_a_k12, m_joins_a_k12, m_rules_a_k12, m_line_a_k12, m_pad_a_k12, m_place_a_k12, m_length_a_k12, m_sort_a_k12, m_price_a_k12, m_of_a_k12, m_begins_a_k12, m_rowCost_a_k12, m_rowNext_a_k12, m_rows_a_k12, m_ahead_a_k12, m_waysTo_a_k12, m_image_a_k12, m_isKept_a_k12, m_letters_k12, m_size_k12, m_kind_k12, m_cost_k12, m_joins_k12, m_rules_k12, m_line_k12, m_pad_k12, m_place_k12, m_length_k12, m_sort_k12, m_price_k12, m_of_k12, m_begins_k12, m_rowCost_k12, m_rowNext_k12, m_rows_k12, m_ahead_k12, m_waysTo_k12, m_image_k12, m_isKept_k12, rfl, hk12⟩ := hqk12
  simp only [zput, List.set_cons_zero, List.set_cons_succ, List.cons_append, List.nil_append]
  refine B.astore_n (pc := 15) (i := 2) dL_law_15 rfl (by decide) ?_
  simp only [List.set_cons_zero, List.set_cons_succ]
  refine B.iconst (pc := 16) dL_law_16 ⟨by decide, by decide⟩ ?_
  refine B.istore_n (pc := 17) (i := 3) dL_law_17 rfl (by decide) ?_
  simp only [List.set_cons_zero, List.set_cons_succ]
  refine B.widen (kc' := 52 + 9 * 0) (ks' := 20286 + 207 * 0) (by decide) (by decide) ?_
  obtain ⟨p0, p1, p2, p3, p4, p5, p6, p7, p8, p9, p10, p11, p12, p13, p14, p15, p16, p17, p18, p19, p20, p21, p22, p23, p24, p25⟩ := hk4
  obtain ⟨m0, m1, m2, m3, m4, m5, m6, m7, m8, m9, m10, m11, m12, m13, m14, m15, m16, m17, m18, m19, m20, m21, m22, m23⟩ := hk12
  exact law_loop hL hs B _ _ _ _ _ _ _ _ _ _ _ _ _ _ _ _ _ _ _ _ _ _ _ _ _ _ _ _ _ _ _ _ _ _ _ _ _ _ _ _ _ _ _ _ _ _ _ _ _ _ _ _ 600 0 rfl _ _ _ _ _ _ _ _ _ _ _ _ _ _ _ _ _ _ _ _ _ _ _ _ _ _ _ _ _ _ _ _ _ _ _ _ _ _ _ _ _ _ _ _ _ _ _ _ _ _ _ _ _ _ _ _ _ _ _ _ _ _ _ (by omega) (CI_init p1 p2 p3 p4 p5 p7 p8 p9 p10 p11 p12 p13 p14 p16 p17 p21 p22 p23) (MI_init m1 m2 m3 m4 m18 m19 m20 m21 m22 m23) rfl (fun j hj => by omega) ⟨rfl, fun w hw => by omega⟩ (fun v w hv _ _ _ _ => by omega) (fun j _ => by rw [p5 j, m4 j]) (ru_same p7 p8 p9 p10 m20 m21 m22 m23) rfl (fun j hj => by omega) ⟨fun _ => m19 0, fun _ => p25 0⟩ ⟨fun _ => m19 1, fun _ => p25 1⟩ (Or.inl ⟨p25 0, p25 1, rfl⟩)
