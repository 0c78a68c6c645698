/-! what the launch has of its own: the limits of the rules, the text of the names -/
def zlim (j : Nat) : Int := match j with
  | 0 => 2
  | 3 => 3
  | _ => 99
def ztxt (j : Nat) : Int := match j with
  | 0 => 110
  | 1 => 111
  | 2 => 117
  | 3 => 110
  | 4 => 118
  | 5 => 101
  | 6 => 114
  | 7 => 98
  | 8 => 109
  | 9 => 97
  | 10 => 114
  | _ => 107
def zEE (aR aS aV : Nat) : zE := fun A U H => va_AO RX0 U ∧ va_Z "CutLetters" "RULE_LIMITS" "[I" (.ref aR) A U H ∧ va_T .int aR 4 (fun j => .int (iZ (zlim j))) A U H ∧ va_Z "java/lang/String" "COMPACT_STRINGS" "Z" (.int 1) A U H ∧ (∃ r : Option Nat, va_Z "jdk/internal/util/Preconditions" "SIOOBE_FORMATTER" "Ljava/util/function/BiFunction;" (va_rf r) A U H) ∧ va_O "java/lang/String" aS A U H ∧ va_OF "java/lang/String" "coder" "B" (.int 0) aS A U H ∧ va_OF "java/lang/String" "value" "[B" (.ref aV) aS A U H ∧ va_T .byte aV 12 (fun j => .int (iZ (ztxt j))) A U H ∧ vk_R RX3 52 "nounverbmark" aS U
def zEx (E : zE) (aR aS aV : Nat) : Prop := ∀ A U H, E A U H → zEE aR aS aV A U H
theorem zEE_ok (aR aS aV : Nat) : zEok (zEE aR aS aV) := by
  refine ⟨?_, ?_, ?_, ?_⟩
  · intro A u U H hW h
    obtain ⟨h1, h2, h3, h4, ⟨r, h5⟩, h6, h7, h8, h9, h10⟩ := h
    have ha := hW.alike
    exact ⟨h1.moved ha, h2.moved ha, h3.moved ha, h4.moved ha, ⟨r, h5.moved ha⟩, h6.moved ha, h7.moved ha, h8.moved ha, h9.moved ha, h10.warm hW⟩
  · intro A u U H hv h
    obtain ⟨h1, h2, h3, h4, ⟨r, h5⟩, h6, h7, h8, h9, h10⟩ := h
    have ha : u.vm.Alike U.vm := by rw [hv]; exact Vm.Alike.refl u.vm
    exact ⟨h1.moved ha, h2.moved ha, h3.moved ha, h4.moved ha, ⟨r, h5.moved ha⟩, h6.moved ha, h7.moved ha, h8.moved ha, h9.moved ha, h10.same hv⟩
  · intro A U H H1 h hk
    obtain ⟨h1, h2, h3, h4, ⟨r, h5⟩, h6, h7, h8, h9, h10⟩ := h
    exact ⟨h1, h2.kept hk, h3.kept hk, h4.kept hk, ⟨r, h5.kept hk⟩, h6.kept hk, h7.kept hk, h8.kept hk, h9.kept hk, h10⟩
  · intro A B U H h hAB
    obtain ⟨h1, h2, h3, h4, ⟨r, h5⟩, h6, h7, h8, h9, h10⟩ := h
    exact ⟨h1, h2.narrow hAB, h3.narrow hAB, h4.narrow hAB, ⟨r, h5.narrow hAB⟩, h6.narrow hAB, h7.narrow hAB, h8.narrow hAB, h9.narrow hAB, h10⟩
theorem zlim_r : ∀ j, zR (zlim j) := by
  intro j
  unfold zlim zR
  split <;> omega
theorem ztxt_r : ∀ j, zR (ztxt j) ∧ 0 ≤ ztxt j ∧ ztxt j ≤ 127 := by
  intro j
  unfold ztxt zR
  split <;> omega
section ZX
variable {l : Launch} {D : va_G} {k : zK} {E : zE} {cc : ByteArray} {own : String} {nL : Nat} {R : Room} {mc ms : Nat} {rt : Option FieldType} {ini : Prop} {a0 : List Nat} {PR : Int → zW → Prop} {Z : zP}
variable {kc ks pc : Nat} {lv : List (Option zV)} {st : List zV} {ws : zW} {x y : Int} {aR aS aV : Nat}
theorem zB.ldcS (B : zB l D k E cc RX3 nL R mc ms rt ini a0 PR Z) (hEX : zEx E aR aS aV) (hd : decode cc pc = .ok (.ldc 52, 2)) (h : Z kc ks (pc + 2) lv (.inr (some aS) :: st) ws) : Z kc ks pc lv st ws := by
  obtain ⟨p, e, s, m, args, below, meth, c, Q, A, hx, hb, hml, hown, hts, hK, hA, hE, hEs, hin, hri, hrv, rfl⟩ := B
  intro H locs ls r1 r2 r3 r4 hP hD hS hl
  obtain ⟨-, -, -, -, -, -, -, -, -, h10⟩ := hEX _ _ _ hEs
  exact va_ldcS hx hb hown h10 hd (h H locs ls r1 (List.forall_mem_cons.mpr ⟨trivial, r2⟩) r3 r4 hP hD hS hl)
theorem zB.getsLim (B : zB l D k E cc own nL R mc ms rt ini a0 PR Z) (hEX : zEx E aR aS aV) {index : Nat} (hlink : Cond.fieldLink own index "CutLetters" "RULE_LIMITS" "[I" ∈ zTs) (hd : decode cc pc = .ok (.getstatic index, 3)) (h : Z kc ks (pc + 3) lv (.inr (some aR) :: st) ws) : Z kc ks pc lv st ws := by
  obtain ⟨p, e, s, m, args, below, meth, c, Q, A, hx, hb, hml, hown, hts, hK, hA, hE, hEs, hin, hri, hrv, rfl⟩ := B
  intro H locs ls r1 r2 r3 r4 hP hD hS hl
  obtain ⟨-, h2, -⟩ := hEX _ _ _ hEs
  exact va_gets hx hb h2 hS hown (hts _ hlink) (fun _ q => q) hd (h H locs ls r1 (List.forall_mem_cons.mpr ⟨trivial, r2⟩) r3 r4 hP hD hS hl)
theorem zB.limload (B : zB l D k E cc own nL R mc ms rt ini a0 PR Z) (hEX : zEx E aR aS aV) (h0 : 0 ≤ x) (h1 : x < 4) (hd : decode cc pc = .ok (.iaload, 1)) (h : Z kc ks (pc + 1) lv (.inl (zlim x.toNat) :: st) ws) : Z kc ks pc lv (.inl x :: .inr (some aR) :: st) ws := by
  obtain ⟨p, e, s, m, args, below, meth, c, Q, A, hx, hb, hml, hown, hts, hK, hA, hE, hEs, hin, hri, hrv, rfl⟩ := B
  intro H locs ls r1 r2 r3 r4 hP hD hS hl
  obtain ⟨-, -, h3, -⟩ := hEX _ _ _ hEs
  obtain ⟨rx, rr⟩ := List.forall_mem_cons.mp r2
  have rx : zR x := rx
  refine va_ti hx hb h3 hS (i := iZ x) (iZ_in rx h0 (by omega)) (v := .int (iZ (zlim x.toNat))) (by rw [iZ_nat rx h0]) hd ?_
  exact h H locs ls r1 (List.forall_mem_cons.mpr ⟨zlim_r _, (List.forall_mem_cons.mp rr).2⟩) r3 r4 hP hD hS hl
theorem zB.getsCompact (B : zB l D k E cc own nL R mc ms rt ini a0 PR Z) (hEX : zEx E aR aS aV) {index : Nat} (hlink : Cond.fieldLink own index "java/lang/String" "COMPACT_STRINGS" "Z" ∈ zTs) (hd : decode cc pc = .ok (.getstatic index, 3)) (h : Z kc ks (pc + 3) lv (.inl 1 :: st) ws) : Z kc ks pc lv st ws := by
  obtain ⟨p, e, s, m, args, below, meth, c, Q, A, hx, hb, hml, hown, hts, hK, hA, hE, hEs, hin, hri, hrv, rfl⟩ := B
  intro H locs ls r1 r2 r3 r4 hP hD hS hl
  obtain ⟨-, -, -, h4, -⟩ := hEX _ _ _ hEs
  exact va_gets hx hb h4 hS hown (hts _ hlink) (fun _ q => q) hd (h H locs ls r1 (List.forall_mem_cons.mpr ⟨⟨by decide, by decide⟩, r2⟩) r3 r4 hP hD hS hl)
theorem zB.getsFmt (B : zB l D k E cc own nL R mc ms rt ini a0 PR Z) (hEX : zEx E aR aS aV) {index : Nat} (hlink : Cond.fieldLink own index "jdk/internal/util/Preconditions" "SIOOBE_FORMATTER" "Ljava/util/function/BiFunction;" ∈ zTs) (hd : decode cc pc = .ok (.getstatic index, 3)) (h : ∀ r : Option Nat, Z kc ks (pc + 3) lv (.inr r :: st) ws) : Z kc ks pc lv st ws := by
  obtain ⟨p, e, s, m, args, below, meth, c, Q, A, hx, hb, hml, hown, hts, hK, hA, hE, hEs, hin, hri, hrv, rfl⟩ := B
  intro H locs ls r1 r2 r3 r4 hP hD hS hl
  obtain ⟨-, -, -, -, ⟨r, h5⟩, -⟩ := hEX _ _ _ hEs
  exact va_gets hx hb h5 hS hown (hts _ hlink) (fun _ q => q) hd (h r H locs ls r1 (List.forall_mem_cons.mpr ⟨trivial, r2⟩) r3 r4 hP hD hS hl)
theorem zB.strCoder (B : zB l D k E cc own nL R mc ms rt ini a0 PR Z) (hEX : zEx E aR aS aV) {index : Nat} (hlink : Cond.fieldLink own index "java/lang/String" "coder" "B" ∈ zTs) (hd : decode cc pc = .ok (.getfield index, 3)) (h : Z kc ks (pc + 3) lv (.inl 0 :: st) ws) : Z kc ks pc lv (.inr (some aS) :: st) ws := by
  obtain ⟨p, e, s, m, args, below, meth, c, Q, A, hx, hb, hml, hown, hts, hK, hA, hE, hEs, hin, hri, hrv, rfl⟩ := B
  intro H locs ls r1 r2 r3 r4 hP hD hS hl
  obtain ⟨-, -, -, -, -, -, h7, -⟩ := hEX _ _ _ hEs
  exact vk_getf hx hb h7 hS hown (hts _ hlink) (fun _ q => q) hd (h H locs ls r1 (List.forall_mem_cons.mpr ⟨zR_0, (List.forall_mem_cons.mp r2).2⟩) r3 r4 hP hD hS hl)
theorem zB.strValue (B : zB l D k E cc own nL R mc ms rt ini a0 PR Z) (hEX : zEx E aR aS aV) {index : Nat} (hlink : Cond.fieldLink own index "java/lang/String" "value" "[B" ∈ zTs) (hd : decode cc pc = .ok (.getfield index, 3)) (h : Z kc ks (pc + 3) lv (.inr (some aV) :: st) ws) : Z kc ks pc lv (.inr (some aS) :: st) ws := by
  obtain ⟨p, e, s, m, args, below, meth, c, Q, A, hx, hb, hml, hown, hts, hK, hA, hE, hEs, hin, hri, hrv, rfl⟩ := B
  intro H locs ls r1 r2 r3 r4 hP hD hS hl
  obtain ⟨-, -, -, -, -, -, -, h8, -⟩ := hEX _ _ _ hEs
  exact vk_getf hx hb h8 hS hown (hts _ hlink) (fun _ q => q) hd (h H locs ls r1 (List.forall_mem_cons.mpr ⟨trivial, (List.forall_mem_cons.mp r2).2⟩) r3 r4 hP hD hS hl)
theorem zB.strLen (B : zB l D k E cc own nL R mc ms rt ini a0 PR Z) (hEX : zEx E aR aS aV) (hd : decode cc pc = .ok (.arraylength, 1)) (h : Z kc ks (pc + 1) lv (.inl 12 :: st) ws) : Z kc ks pc lv (.inr (some aV) :: st) ws := by
  obtain ⟨p, e, s, m, args, below, meth, c, Q, A, hx, hb, hml, hown, hts, hK, hA, hE, hEs, hin, hri, hrv, rfl⟩ := B
  intro H locs ls r1 r2 r3 r4 hP hD hS hl
  obtain ⟨-, -, -, -, -, -, -, -, h9, -⟩ := hEX _ _ _ hEs
  exact va_tlen hx hb h9 hS (v := iZ 12) rfl hd (h H locs ls r1 (List.forall_mem_cons.mpr ⟨⟨by decide, by decide⟩, (List.forall_mem_cons.mp r2).2⟩) r3 r4 hP hD hS hl)
theorem zB.strByte (B : zB l D k E cc own nL R mc ms rt ini a0 PR Z) (hEX : zEx E aR aS aV) (h0 : 0 ≤ x) (h1 : x < 12) (hd : decode cc pc = .ok (.baload, 1)) (h : Z kc ks (pc + 1) lv (.inl (ztxt x.toNat) :: st) ws) : Z kc ks pc lv (.inl x :: .inr (some aV) :: st) ws := by
  obtain ⟨p, e, s, m, args, below, meth, c, Q, A, hx, hb, hml, hown, hts, hK, hA, hE, hEs, hin, hri, hrv, rfl⟩ := B
  intro H locs ls r1 r2 r3 r4 hP hD hS hl
  obtain ⟨-, -, -, -, -, -, -, -, h9, -⟩ := hEX _ _ _ hEs
  obtain ⟨rx, rr⟩ := List.forall_mem_cons.mp r2
  have rx : zR x := rx
  refine va_tb hx hb h9 hS (i := iZ x) (iZ_in rx h0 (by omega)) (v := .int (iZ (ztxt x.toNat))) (by rw [iZ_nat rx h0]) hd ?_
  exact h H locs ls r1 (List.forall_mem_cons.mpr ⟨(ztxt_r _).1, (List.forall_mem_cons.mp rr).2⟩) r3 r4 hP hD hS hl
theorem zB.i2c (B : zB l D k E cc own nL R mc ms rt ini a0 PR Z) (hd : decode cc pc = .ok (.i2c, 1)) (h : ∀ r : Int, zR r → 0 ≤ r → r < 65536 → Z kc ks (pc + 1) lv (.inl r :: st) ws) : Z kc ks pc lv (.inl x :: st) ws := by
  obtain ⟨p, e, s, m, args, below, meth, c, Q, A, hx, hb, hml, hown, hts, hK, hA, hE, hEs, hin, hri, hrv, rfl⟩ := B
  intro H locs ls r1 r2 r3 r4 hP hD hS hl
  have e1 := pk_char (iZ x)
  have hlt : (iZ x).toBitVec.toNat % 65536 < 65536 := Nat.mod_lt _ (by decide)
  have e2 : nI ((iZ x).toBitVec.toNat % 65536) = iZ (((iZ x).toBitVec.toNat % 65536 : Nat) : Int) := Int32.ofInt_eq_ofNat.symm
  refine lv_i2c hx hb hd (x := iZ x) (v := iZ (((iZ x).toBitVec.toNat % 65536 : Nat) : Int)) (e1.trans e2) ?_
  have hr : zR (((iZ x).toBitVec.toNat % 65536 : Nat) : Int) := ⟨by omega, by omega⟩
  exact h _ hr (by omega) (by omega) H locs ls r1 (List.forall_mem_cons.mpr ⟨hr, (List.forall_mem_cons.mp r2).2⟩) r3 r4 hP hD hS hl
end ZX
theorem zgoodX {own : String} {idx n : Nat} {y : MethodName} {b : ByteArray} {r : Option FieldType} (h1 : Cond.methodLink own idx y ∈ zTs) (h2 : Cond.static y ∈ zTs) (h4 : Cond.initialized y.cls ∈ zTs) (h5 : Cond.code y b n r ∈ zTs) : GoodIn zTs (va_wsS own idx y (Cond.code y b n r :: zTs)) := by
  intro w hw
  have hm : w ∈ zTs := by
    rcases List.mem_append.mp hw with h | h
    · simp only [List.mem_cons, List.not_mem_nil, or_false] at h
      rcases h with rfl | rfl | rfl
      · exact h1
      · exact h2
      · exact h4
    · rcases List.mem_cons.mp h with rfl | h
      · exact h5
      · exact h
  exact ⟨hm, good_of_word (zTs_good hm)⟩
section ZY
variable {l : Launch} {D : va_G} {k : zK} {E : zE} {cc : ByteArray} {own : String} {nL : Nat} {R : Room} {mc ms : Nat} {rt : Option FieldType} {ini : Prop} {a0 : List Nat} {PR : Int → zW → Prop} {Z : zP}
variable {kc ks pc : Nat} {lv : List (Option zV)} {st stk : List zV} {ws wc : zW} {x y : Int}
theorem zB.callViE (B : zB l D k E cc own nL R mc ms rt ini a0 PR Z) {y : MethodName} {b : ByteArray} {n index mc' ms' : Nat} {rr : FieldType} {rm : Room} {P : Prop} {Po : Int → zW → Prop} {a : Nat} {As : List zV} (na : Nat) (M : zMi l D k E y b n rr rm mc' ms' (.inr (some a) :: As) wc P Po) {C : String} (hrecv : ∀ (A : Nat → Prop) (s : State) (H : Heap) (locs : List Loc), E A s s.heap → va_S A s.heap H locs → ∃ cell : Cell, H[a]? = some cell ∧ cell.vm.isStatics = false ∧ s.vm.findClass C = some cell.cls) (h1 : Cond.methodLink own index y ∈ zTs) (h2 : Cond.instanceMethod y ∈ zTs) (h3 : Cond.selects C y y ∈ zTs) (h4 : Cond.initialized C ∈ zTs) (h5 : Cond.code y b n (some rr) ∈ zTs) (hdn : y.cls = C ∧ y.cls ≠ "java/lang/invoke/MethodHandle" ∧ y.cls ≠ "java/lang/invoke/VarHandle" ∧ (parseMethodDescriptor y.desc).map (fun d => d.parameters.length) = some na) (hna : As.length = na) (hrc : rm.cells = mc') (hrs : rm.slots = ms') (hR : rm.frames + 1 ≤ R.frames ∧ 8 + (n + 11) + rm.locals ≤ R.locals) (hf : kc + mc' ≤ R.cells ∧ ks + ms' ≤ R.slots) (is : List Nat) (hsub : is.map (fun i => ws[i]?) = wc.map some) (hnd : va_nd is = true) (hstk : stk = As.reverse ++ .inr (some a) :: st) (hst : st.length ≤ 8) (hd : decode cc pc = .ok (.invokevirtual index, 3)) (hpre : (∀ v ∈ As, zVr v) → P)
    (h : ∀ (z : Int) (u : zW), zR z → zWr u → wc.map Prod.fst <+: u.map Prod.fst → Po z u → Z (kc + mc') (ks + ms') (pc + 3) lv (.inl z :: st) (zput ws is u)) : Z kc ks pc lv stk ws := by
  obtain ⟨p, e, s, m, args, below, meth, c, Q, A, hx, hb, hml, hown, hts, hK, hA, hE, hEs, hin0, hri, hrv, rfl⟩ := B
  intro H locs ls r1 r2 r3 r4 hP hD hS hl
  subst hstk
  have hAs : ∀ v ∈ As, zVr v := fun v hv => r2 v (List.mem_append_left _ (List.mem_reverse.mpr hv))
  have hav0 : ∀ v ∈ (.inr (some a) :: As : List zV), zVr v := List.forall_mem_cons.mpr ⟨trivial, hAs⟩
  have rst : ∀ v ∈ st, zVr v := fun v hv => r2 v (List.mem_append_right _ (List.mem_cons_of_mem _ hv))
  have hpre0 := hpre hAs
  have hrc0 : zWr wc := by
    intro q hq
    obtain ⟨r, hr⟩ := List.getElem?_of_mem hq
    obtain ⟨i, -, hwi⟩ := zsub_at hsub hr
    exact r1 q (List.mem_of_getElem? hwi)
  have hsz := zsub_zw (k := k) hsub
  have hPc : va_P D vwCl (zw k wc) H := by
    intro r q hr
    obtain ⟨x, hx1, he⟩ := zw_get hr
    obtain ⟨i, -, hwi⟩ := zsub_at hsub hx1
    have := hP i _ (zw_at hwi)
    obtain ⟨qa, qe⟩ := q
    simp only at he
    subst he
    exact this
  have hDc : va_D A (zw k wc) := hD.sub is hnd hsz
  have hFc := va_free hD hS hA is hsz
  have hPRE : ∀ U : State, U.heap = H → s.WarmedH U.vm → zPre D k E (.inr (some a) :: As) wc H.size (((.inr (some a) :: As : List zV)).map zv).toArray U := by
    intro U hU hW
    refine ⟨rfl, by rw [hU], by rw [hU]; exact hPc, va_K.moved hW.alike hK, hDc.weaken (fun _ _ _ _ => trivial), ?_⟩
    rw [hU]
    exact hE.1 _ _ _ _ hW (hE.2.2.2 _ _ _ _ (hE.2.2.1 _ _ _ _ hEs (fun q h1 h2 => hS.2.1 q h1 h2)) hFc)
  refine va_calli (va_runV (As := As.map zv) (rest := st.map zv) ⟨hx, hb, hml, hown, hts⟩ (M H.size hrc0 hav0 hpre0) (cwV na hts (zgoodV h1 h2 h3 h4 h5) rfl hrc hrs hdn hR) ⟨zpre_blind hE _ _ _, hrecv A s H locs hEs hS, hPRE⟩ rfl (by rw [List.length_map]; exact hna) hl.choose_spec.1.1 (by simp [zv, va_rf]) (lv_room (by rw [zcat_sum]; exact hst)) hd hf) hS (fun q _ h => hFc q h) hFc (fun r u t H1 locs1 ht hvm hw hB hz1 hk1 hS1 => ?_)
  obtain ⟨z, rfl, rz, ru, ra, hPo⟩ := hw
  obtain ⟨hP1, hD1⟩ := hB
  rw [ht] at hP1
  obtain ⟨g1, g2, g3⟩ := zjoin hP hD hsub hnd hk1 hFc hP1 hD1 ra
  exact h z u rz ru ra hPo H1 locs1 ls (zput_r is ws u r1 ru) (List.forall_mem_cons.mpr ⟨rz, rst⟩) r3 (by rw [g3]; exact List.IsPrefix.trans r4 (List.prefix_append _ _)) g1 g2 hS1 hl
theorem zB.callSiX (B : zB l D k E cc own nL R mc ms rt ini a0 PR Z) {y : MethodName} {b : ByteArray} {n index mc' ms' : Nat} {rr : FieldType} {rm : Room} {P : Prop} {Po : Int → zW → Prop} {As : List zV} (na : Nat) (M : zMi l D k E y b n rr rm mc' ms' As wc P Po) (h1 : Cond.methodLink own index y ∈ zTs) (h2 : Cond.static y ∈ zTs) (h4 : Cond.initialized y.cls ∈ zTs) (h5 : Cond.code y b n (some rr) ∈ zTs) (hdn : y.cls ≠ "java/lang/invoke/MethodHandle" ∧ y.cls ≠ "java/lang/invoke/VarHandle" ∧ (parseMethodDescriptor y.desc).map (fun d => d.parameters.length) = some na) (hna : As.length = na) (hrc : rm.cells = mc') (hrs : rm.slots = ms') (hR : rm.frames + 1 ≤ R.frames ∧ 8 + (n + 11) + rm.locals ≤ R.locals) (hf : kc + mc' ≤ R.cells ∧ ks + ms' ≤ R.slots) (is : List Nat) (hsub : is.map (fun i => ws[i]?) = wc.map some) (hnd : va_nd is = true) (hstk : stk = As.reverse ++ st) (hst : st.length ≤ 8) (hd : decode cc pc = .ok (.invokestatic index, 3)) (hpre : (∀ v ∈ As, zVr v) → P)
    (h : ∀ (z : Int) (u : zW), zR z → zWr u → wc.map Prod.fst <+: u.map Prod.fst → Po z u → Z (kc + mc') (ks + ms') (pc + 3) lv (.inl z :: st) (zput ws is u)) : Z kc ks pc lv stk ws := by
  obtain ⟨p, e, s, m, args, below, meth, c, Q, A, hx, hb, hml, hown, hts, hK, hA, hE, hEs, hin0, hri, hrv, rfl⟩ := B
  intro H locs ls r1 r2 r3 r4 hP hD hS hl
  subst hstk
  have hav0 : ∀ v ∈ As, zVr v := fun v hv => r2 v (List.mem_append_left _ (List.mem_reverse.mpr hv))
  have rst : ∀ v ∈ st, zVr v := fun v hv => r2 v (List.mem_append_right _ hv)
  have hpre0 := hpre hav0
  have hrc0 : zWr wc := by
    intro q hq
    obtain ⟨r, hr⟩ := List.getElem?_of_mem hq
    obtain ⟨i, -, hwi⟩ := zsub_at hsub hr
    exact r1 q (List.mem_of_getElem? hwi)
  have hsz := zsub_zw (k := k) hsub
  have hPc : va_P D vwCl (zw k wc) H := by
    intro r q hr
    obtain ⟨x, hx1, he⟩ := zw_get hr
    obtain ⟨i, -, hwi⟩ := zsub_at hsub hx1
    have := hP i _ (zw_at hwi)
    obtain ⟨qa, qe⟩ := q
    simp only at he
    subst he
    exact this
  have hDc : va_D A (zw k wc) := hD.sub is hnd hsz
  have hFc := va_free hD hS hA is hsz
  have hPRE : ∀ U : State, U.heap = H → s.WarmedH U.vm → zPre D k E (As) wc H.size (((As : List zV)).map zv).toArray U := by
    intro U hU hW
    refine ⟨rfl, by rw [hU], by rw [hU]; exact hPc, va_K.moved hW.alike hK, hDc.weaken (fun _ _ _ _ => trivial), ?_⟩
    rw [hU]
    exact hE.1 _ _ _ _ hW (hE.2.2.2 _ _ _ _ (hE.2.2.1 _ _ _ _ hEs (fun q h1 h2 => hS.2.1 q h1 h2)) hFc)
  refine va_calli (va_runS (As := As.map zv) (rest := st.map zv) ⟨hx, hb, hml, hown, hts⟩ (M H.size hrc0 hav0 hpre0) (va_cwS na hts (zgoodX h1 h2 h4 h5) rfl hrc hrs hdn hR) ⟨zpre_blind hE _ _ _, hPRE⟩ rfl (by rw [List.length_map]; exact hna) hl.choose_spec.1.1 (by simp) (lv_room (by rw [zcat_sum]; exact hst)) hd hf) hS (fun q _ h => hFc q h) hFc (fun r u t H1 locs1 ht hvm hw hB hz1 hk1 hS1 => ?_)
  obtain ⟨z, rfl, rz, ru, ra, hPo⟩ := hw
  obtain ⟨hP1, hD1⟩ := hB
  rw [ht] at hP1
  obtain ⟨g1, g2, g3⟩ := zjoin hP hD hsub hnd hk1 hFc hP1 hD1 ra
  exact h z u rz ru ra hPo H1 locs1 ls (zput_r is ws u r1 ru) (List.forall_mem_cons.mpr ⟨rz, rst⟩) r3 (by rw [g3]; exact List.IsPrefix.trans r4 (List.prefix_append _ _)) g1 g2 hS1 hl
theorem zB.callSvX (B : zB l D k E cc own nL R mc ms rt ini a0 PR Z) {y : MethodName} {b : ByteArray} {n index mc' ms' : Nat} {rm : Room} {P : Prop} {Po : Int → zW → Prop} {As : List zV} (na : Nat) (M : zMv l D k E y b n rm mc' ms' As wc P Po) (h1 : Cond.methodLink own index y ∈ zTs) (h2 : Cond.static y ∈ zTs) (h4 : Cond.initialized y.cls ∈ zTs) (h5 : Cond.code y b n none ∈ zTs) (hdn : y.cls ≠ "java/lang/invoke/MethodHandle" ∧ y.cls ≠ "java/lang/invoke/VarHandle" ∧ (parseMethodDescriptor y.desc).map (fun d => d.parameters.length) = some na) (hna : As.length = na) (hrc : rm.cells = mc') (hrs : rm.slots = ms') (hR : rm.frames + 1 ≤ R.frames ∧ 8 + (n + 11) + rm.locals ≤ R.locals) (hf : kc + mc' ≤ R.cells ∧ ks + ms' ≤ R.slots) (is : List Nat) (hsub : is.map (fun i => ws[i]?) = wc.map some) (hnd : va_nd is = true) (hstk : stk = As.reverse ++ st) (hst : st.length ≤ 8) (hd : decode cc pc = .ok (.invokestatic index, 3)) (hpre : (∀ v ∈ As, zVr v) → P)
    (h : ∀ (u : zW), zWr u → wc.map Prod.fst <+: u.map Prod.fst → Po 0 u → Z (kc + mc') (ks + ms') (pc + 3) lv st (zput ws is u)) : Z kc ks pc lv stk ws := by
  obtain ⟨p, e, s, m, args, below, meth, c, Q, A, hx, hb, hml, hown, hts, hK, hA, hE, hEs, hin0, hri, hrv, rfl⟩ := B
  intro H locs ls r1 r2 r3 r4 hP hD hS hl
  subst hstk
  have hav0 : ∀ v ∈ As, zVr v := fun v hv => r2 v (List.mem_append_left _ (List.mem_reverse.mpr hv))
  have rst : ∀ v ∈ st, zVr v := fun v hv => r2 v (List.mem_append_right _ hv)
  have hpre0 := hpre hav0
  have hrc0 : zWr wc := by
    intro q hq
    obtain ⟨r, hr⟩ := List.getElem?_of_mem hq
    obtain ⟨i, -, hwi⟩ := zsub_at hsub hr
    exact r1 q (List.mem_of_getElem? hwi)
  have hsz := zsub_zw (k := k) hsub
  have hPc : va_P D vwCl (zw k wc) H := by
    intro r q hr
    obtain ⟨x, hx1, he⟩ := zw_get hr
    obtain ⟨i, -, hwi⟩ := zsub_at hsub hx1
    have := hP i _ (zw_at hwi)
    obtain ⟨qa, qe⟩ := q
    simp only at he
    subst he
    exact this
  have hDc : va_D A (zw k wc) := hD.sub is hnd hsz
  have hFc := va_free hD hS hA is hsz
  have hPRE : ∀ U : State, U.heap = H → s.WarmedH U.vm → zPre D k E (As) wc H.size (((As : List zV)).map zv).toArray U := by
    intro U hU hW
    refine ⟨rfl, by rw [hU], by rw [hU]; exact hPc, va_K.moved hW.alike hK, hDc.weaken (fun _ _ _ _ => trivial), ?_⟩
    rw [hU]
    exact hE.1 _ _ _ _ hW (hE.2.2.2 _ _ _ _ (hE.2.2.1 _ _ _ _ hEs (fun q h1 h2 => hS.2.1 q h1 h2)) hFc)
  refine va_callv (va_runS (As := As.map zv) (rest := st.map zv) ⟨hx, hb, hml, hown, hts⟩ (M H.size hrc0 hav0 hpre0) (va_cwS na hts (zgoodX h1 h2 h4 h5) rfl hrc hrs hdn hR) ⟨zpre_blind hE _ _ _, hPRE⟩ rfl (by rw [List.length_map]; exact hna) hl.choose_spec.1.1 (by simp) (lv_room (by rw [zcat_sum]; exact hst)) hd hf) hS (fun q _ h => hFc q h) hFc (fun u t H1 locs1 ht hvm hw hB hz1 hk1 hS1 => ?_)
  obtain ⟨ru, ra, hPo⟩ := hw
  obtain ⟨hP1, hD1⟩ := hB
  rw [ht] at hP1
  obtain ⟨g1, g2, g3⟩ := zjoin hP hD hsub hnd hk1 hFc hP1 hD1 ra
  exact h u ru ra hPo H1 locs1 ls (zput_r is ws u r1 ru) rst r3 (by rw [g3]; exact List.IsPrefix.trans r4 (List.prefix_append _ _)) g1 g2 hS1 hl
end ZY
theorem zchar {z : Int} (h0 : 0 ≤ z) (h1 : z < 65536) : narrow .char (.int (iZ z)) = .int (iZ z) := by
  have e : iZ z = nI z.toNat := by
    have : z = (z.toNat : Int) := by omega
    rw [this]
    exact Int32.ofInt_eq_ofNat
  rw [e]
  exact (pk_charN (q := z.toNat) (by omega)).1
theorem zrecS {E : zE} {aR aS aV : Nat} (hEX : zEx E aR aS aV) : ∀ (A : Nat → Prop) (s : State) (H : Heap) (locs : List Loc), E A s s.heap → va_S A s.heap H locs → ∃ cell : Cell, H[aS]? = some cell ∧ cell.vm.isStatics = false ∧ s.vm.findClass RJ0 = some cell.cls := by
  intro A s H locs h1 h2
  obtain ⟨-, -, -, -, -, h6, -⟩ := hEX _ _ _ h1
  obtain ⟨cell, a, b, c, -⟩ := h6.kept h2.2.1
  exact ⟨cell, a, b, c⟩
