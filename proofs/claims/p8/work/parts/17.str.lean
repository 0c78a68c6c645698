set_option maxHeartbeats 4000000 in
set_option maxRecDepth 100000 in
theorem mJ3_checkIndex_8e157 {l : Launch} {D : va_G} {k : zK} {E : zE} (hE : zEok E) (r : Option Nat) (i n : Int) : zMi l D k E yJ3_checkIndex_8e157 cJ3_checkIndex_8e157 3 .int { frames := 0, cells := 0, slots := 0, locals := 0 } 0 0 [.inl i, .inl n, .inr r] [] (0 ≤ i ∧ i < n) (fun z u => u = [] ∧ (z = i)) := by
  refine zMi.of RJ3 hE (by decide) rfl (by simp) (fun _ _ _ _ => rfl) ?_
  intro Z hP hav hwr B
  obtain ⟨l_i, u_i⟩ : zR i := hav (.inl i) (by simp)
  obtain ⟨l_n, u_n⟩ : zR n := hav (.inl n) (by simp)
  show Z 0 0 0 [some (.inl i), some (.inl n), some (.inr r)] [] _
  refine B.iload_n (pc := 0) (i := 0) dJ3_checkIndex_8e157_0 rfl rfl ?_
  refine B.if_lt (pc := 1) (tgt := 9) dJ3_checkIndex_8e157_1 (by decide) (fun c1 => ?_) (fun c1 => ?_)
  · exfalso; omega
  · refine B.iload_n (pc := 4) (i := 0) dJ3_checkIndex_8e157_4 rfl rfl ?_
    refine B.iload_n (pc := 5) (i := 1) dJ3_checkIndex_8e157_5 rfl rfl ?_
    refine B.icmp_lt (pc := 6) (tgt := 16) dJ3_checkIndex_8e157_6 (by decide) (fun c6 => ?_) (fun c6 => ?_)
    · refine B.iload_n (pc := 16) (i := 0) dJ3_checkIndex_8e157_16 rfl rfl ?_
      refine B.ireturn (pc := 17) (by simp) dJ3_checkIndex_8e157_17 (Nat.le_refl _) (Nat.le_refl _) (fun rz rw => ⟨rfl, ?_⟩)
      first | rfl | omega
    · exfalso; omega
set_option maxHeartbeats 4000000 in
set_option maxRecDepth 100000 in
theorem mJ0_checkIndex_df160 {l : Launch} {D : va_G} {k : zK} {E : zE} (hE : zEok E) {aR aS aV : Nat} (hEX : zEx E aR aS aV) (i n : Int) : zMv l D k E yJ0_checkIndex_df160 cJ0_checkIndex_df160 2 { frames := 1, cells := 0, slots := 0, locals := 22 } 0 0 [.inl i, .inl n] [] (0 ≤ i ∧ i < n) (fun z u => u = [] ∧ (True)) := by
  refine zMv.of RJ0 hE (by decide) rfl (by simp) ?_
  intro Z hP hav hwr B
  obtain ⟨l_i, u_i⟩ : zR i := hav (.inl i) (by simp)
  obtain ⟨l_n, u_n⟩ : zR n := hav (.inl n) (by simp)
  show Z 0 0 0 [some (.inl i), some (.inl n)] [] _
  refine B.iload_n (pc := 0) (i := 0) dJ0_checkIndex_df160_0 rfl rfl ?_
  refine B.iload_n (pc := 1) (i := 1) dJ0_checkIndex_df160_1 rfl rfl ?_
  refine B.getsFmt (pc := 2) hEX fl_J0_1053 dJ0_checkIndex_df160_2 (fun fm => ?_)
  refine B.callSiX (pc := 5) 3 (mJ3_checkIndex_8e157 hE _ _ _) ml_J0_1059 sm_J3_checkIndex_8e157 it_J3 co_J3_checkIndex_8e157 (by decide +kernel) rfl rfl rfl ⟨by decide, by decide⟩ ⟨by decide, by decide⟩ [] rfl rfl rfl (Nat.le_of_ble_eq_true rfl) dJ0_checkIndex_df160_5 (fun _ => hP) (fun zk5 uk5 rzk5 ruk5 rak5 hqk5 => ?_)
  obtain ⟨lzk5, uzk5⟩ := rzk5
  obtain ⟨rfl, hk5⟩ := hqk5
  simp only [zput, List.append_nil, Nat.add_zero]
  refine B.pop (pc := 8) dJ0_checkIndex_df160_8 ?_
  refine B.vreturn (pc := 9) rfl dJ0_checkIndex_df160_9 (Nat.le_refl _) (Nat.le_refl _) (fun rw => ⟨rfl, ?_⟩)
  first | trivial | omega
set_option maxHeartbeats 4000000 in
set_option maxRecDepth 100000 in
theorem mJ1_charAt_3b067 {l : Launch} {D : va_G} {k : zK} {E : zE} (hE : zEok E) {aR aS aV : Nat} (hEX : zEx E aR aS aV) (i : Int) : zMi l D k E yJ1_charAt_3b067 cJ1_charAt_3b067 2 .char { frames := 2, cells := 0, slots := 0, locals := 43 } 0 0 [.inr (some aV), .inl i] [] (0 ≤ i ∧ i < 12) (fun z u => u = [] ∧ (0 ≤ z ∧ z < 65536 ∧ z = ztxt i.toNat)) := by
  refine zMi.of RJ1 hE (by decide) rfl (by simp) (fun z u hp hq => zchar hq.2.1 hq.2.2.1) ?_
  intro Z hP hav hwr B
  obtain ⟨l_i, u_i⟩ : zR i := hav (.inl i) (by simp)
  show Z 0 0 0 [some (.inr (some aV)), some (.inl i)] [] _
  refine B.iload_n (pc := 0) (i := 1) dJ1_charAt_3b067_0 rfl rfl ?_
  refine B.aload_n (pc := 1) (i := 0) dJ1_charAt_3b067_1 rfl rfl ?_
  refine B.strLen (pc := 2) hEX dJ1_charAt_3b067_2 ?_
  refine B.callSvX (pc := 3) 2 (mJ0_checkIndex_df160 hE hEX _ _) ml_J1_9 sm_J0_checkIndex_df160 it_J0 co_J0_checkIndex_df160 (by decide +kernel) rfl rfl rfl ⟨by decide, by decide⟩ ⟨by decide, by decide⟩ [] rfl rfl rfl (Nat.le_of_ble_eq_true rfl) dJ1_charAt_3b067_3 (fun _ => by omega) (fun uk3 ruk3 rak3 hqk3 => ?_)
  obtain ⟨rfl, hk3⟩ := hqk3
  simp only [zput, List.append_nil, Nat.add_zero]
  refine B.aload_n (pc := 6) (i := 0) dJ1_charAt_3b067_6 rfl rfl ?_
  refine B.iload_n (pc := 7) (i := 1) dJ1_charAt_3b067_7 rfl rfl ?_
  refine B.strByte (pc := 8) hEX (by omega) (by omega) dJ1_charAt_3b067_8 ?_
  refine B.sipush (pc := 9) dJ1_charAt_3b067_9 ⟨by decide, by decide⟩ ?_
  refine B.iand (pc := 12) dJ1_charAt_3b067_12 (fun w12 rw12 ew12 => ?_)
  refine B.i2cF (pc := 13) dJ1_charAt_3b067_13 (fun w13 rw13 aw13 bw13 fw13 => ?_)
  refine B.ireturn (pc := 14) (by simp) dJ1_charAt_3b067_14 (Nat.le_refl _) (Nat.le_refl _) (fun rz rw => ⟨rfl, ?_⟩)
  have e1 := ztxt_and i.toNat (by omega)
  have e2 := (ztxt_r i.toNat).2
  have e3 : w12 = ztxt i.toNat := ew12.trans e1
  exact ⟨aw13, bw13, (fw13 (by omega) (by omega)).trans e3⟩
set_option maxHeartbeats 4000000 in
set_option maxRecDepth 100000 in
theorem mJ0_isLatin1_aae02 {l : Launch} {D : va_G} {k : zK} {E : zE} (hE : zEok E) {aR aS aV : Nat} (hEX : zEx E aR aS aV) : zMi l D k E yJ0_isLatin1_aae02 cJ0_isLatin1_aae02 1 .boolean { frames := 0, cells := 0, slots := 0, locals := 0 } 0 0 [.inr (some aS)] [] (True) (fun z u => u = [] ∧ (z = 1)) := by
  refine zMi.of RJ0 hE (by decide) rfl (by simp) (fun z u hp hq => ?_) ?_
  · have hz : z = 0 ∨ z = 1 := by obtain ⟨_, hq⟩ := hq; first | exact hq | exact hq.1 | exact Or.inr hq
    rcases hz with rfl | rfl <;> decide
  intro Z hP hav hwr B
  show Z 0 0 0 [some (.inr (some aS))] [] _
  refine B.getsCompact (pc := 0) hEX fl_J0_38 dJ0_isLatin1_aae02_0 ?_
  refine B.if_eq (pc := 3) (tgt := 17) dJ0_isLatin1_aae02_3 (by decide) (fun c3 => ?_) (fun c3 => ?_)
  · exfalso; omega
  · refine B.aload_n (pc := 6) (i := 0) dJ0_isLatin1_aae02_6 rfl rfl ?_
    refine B.strCoder (pc := 7) hEX fl_J0_15 dJ0_isLatin1_aae02_7 ?_
    refine B.if_ne (pc := 10) (tgt := 17) dJ0_isLatin1_aae02_10 (by decide) (fun c10 => ?_) (fun c10 => ?_)
    · exfalso; omega
    · refine B.iconst (pc := 13) dJ0_isLatin1_aae02_13 ⟨by decide, by decide⟩ ?_
      refine B.goto (pc := 14) (tgt := 18) dJ0_isLatin1_aae02_14 (by decide) ?_
      refine B.ireturn (pc := 18) (by simp) dJ0_isLatin1_aae02_18 (Nat.le_refl _) (Nat.le_refl _) (fun rz rw => ⟨rfl, ?_⟩)
      rfl
set_option maxHeartbeats 4000000 in
set_option maxRecDepth 100000 in
theorem mJ0_charAt_5068e {l : Launch} {D : va_G} {k : zK} {E : zE} (hE : zEok E) {aR aS aV : Nat} (hEX : zEx E aR aS aV) (i : Int) : zMi l D k E yJ0_charAt_5068e cJ0_charAt_5068e 2 .char { frames := 3, cells := 0, slots := 0, locals := 64 } 0 0 [.inr (some aS), .inl i] [] (0 ≤ i ∧ i < 12) (fun z u => u = [] ∧ (0 ≤ z ∧ z < 65536 ∧ z = ztxt i.toNat)) := by
  refine zMi.of RJ0 hE (by decide) rfl (by simp) (fun z u hp hq => zchar hq.2.1 hq.2.2.1) ?_
  intro Z hP hav hwr B
  obtain ⟨l_i, u_i⟩ : zR i := hav (.inl i) (by simp)
  show Z 0 0 0 [some (.inr (some aS)), some (.inl i)] [] _
  refine B.aload_n (pc := 0) (i := 0) dJ0_charAt_5068e_0 rfl rfl ?_
  refine B.callViE (pc := 1) 0 (mJ0_isLatin1_aae02 hE hEX) (zrecS hEX) ml_J0_492 im_J0_isLatin1_aae02 se_J0_isLatin1_aae02 it_J0 co_J0_isLatin1_aae02 (by decide +kernel) rfl rfl rfl ⟨by decide, by decide⟩ ⟨by decide, by decide⟩ [] rfl rfl rfl (Nat.le_of_ble_eq_true rfl) dJ0_charAt_5068e_1 (fun _ => trivial) (fun zk1 uk1 rzk1 ruk1 rak1 hqk1 => ?_)
  obtain ⟨lzk1, uzk1⟩ := rzk1
  obtain ⟨rfl, hk1⟩ := hqk1
  simp only [zput, List.append_nil, Nat.add_zero]
  refine B.if_eq (pc := 4) (tgt := 16) dJ0_charAt_5068e_4 (by decide) (fun c4 => ?_) (fun c4 => ?_)
  · exfalso; omega
  · refine B.aload_n (pc := 7) (i := 0) dJ0_charAt_5068e_7 rfl rfl ?_
    refine B.strValue (pc := 8) hEX fl_J0_9 dJ0_charAt_5068e_8 ?_
    refine B.iload_n (pc := 11) (i := 1) dJ0_charAt_5068e_11 rfl rfl ?_
    refine B.callSiX (pc := 12) 2 (mJ1_charAt_3b067 hE hEX _) ml_J0_495 sm_J1_charAt_3b067 it_J1 co_J1_charAt_3b067 (by decide +kernel) rfl rfl rfl ⟨by decide, by decide⟩ ⟨by decide, by decide⟩ [] rfl rfl rfl (Nat.le_of_ble_eq_true rfl) dJ0_charAt_5068e_12 (fun _ => by omega) (fun zk12 uk12 rzk12 ruk12 rak12 hqk12 => ?_)
    obtain ⟨lzk12, uzk12⟩ := rzk12
    obtain ⟨rfl, hk12⟩ := hqk12
    simp only [zput, List.append_nil, Nat.add_zero]
    refine B.ireturn (pc := 15) (by simp) dJ0_charAt_5068e_15 (Nat.le_refl _) (Nat.le_refl _) (fun rz rw => ⟨rfl, ?_⟩)
    exact hk12
