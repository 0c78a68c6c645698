section ZC
variable {l : Launch} {D : va_G} {k : zK} {E : zE} {cc : ByteArray} {own : String} {nL : Nat} {R : Room} {mc ms : Nat} {rt : Option FieldType} {ini : Prop} {a0 : List Nat} {PR : Int → zW → Prop} {Z : zP}
variable {kc ks pc : Nat} {lv : List (Option zV)} {st stk : List zV} {ws wc : zW} {x y : Int}
theorem zB.callVi (B : zB l D k E cc own nL R mc ms rt ini a0 PR Z) {y : MethodName} {b : ByteArray} {n index mc' ms' : Nat} {rr : FieldType} {rm : Room} {P : Prop} {Po : Int → zW → Prop} {a : Nat} {As : List zV} (na : Nat) (M : zMi l D k E y b n rr rm mc' ms' (.inr (some a) :: As) wc P Po) {ci N : Nat} {C : String} {T : u_T} {fs : List zV} (i : Nat) (hi : ws[i]? = some (a, .inr (.inr (ci, fs)))) (hc : vwCl[ci]? = some (C, T, N)) (h1 : Cond.methodLink own index y ∈ zTs) (h2 : Cond.instanceMethod y ∈ zTs) (h3 : Cond.selects C y y ∈ zTs) (h4 : Cond.initialized C ∈ zTs) (h5 : Cond.code y b n (some rr) ∈ zTs) (hdn : y.cls = C ∧ y.cls ≠ "java/lang/invoke/MethodHandle" ∧ y.cls ≠ "java/lang/invoke/VarHandle" ∧ (parseMethodDescriptor y.desc).map (fun d => d.parameters.length) = some na) (hna : As.length = na) (hrc : rm.cells = mc') (hrs : rm.slots = ms') (hR : rm.frames + 1 ≤ R.frames ∧ 8 + (n + 11) + rm.locals ≤ R.locals) (hf : kc + mc' ≤ R.cells ∧ ks + ms' ≤ R.slots) (is : List Nat) (hsub : is.map (fun i => ws[i]?) = wc.map some) (hnd : va_nd is = true) (hstk : stk = As.reverse ++ .inr (some a) :: st) (hst : st.length ≤ 8) (hd : decode cc pc = .ok (.invokevirtual index, 3)) (hpre : (∀ v ∈ As, zVr v) → P)
    (h : ∀ (z : Int) (u : zW), zR z → zWr u → wc.map Prod.fst <+: u.map Prod.fst → Po z u → Z (kc + mc') (ks + ms') (pc + 3) lv (.inl z :: st) (zput ws is u)) : Z kc ks pc lv stk ws := by
  obtain ⟨p, e, s, m, args, below, meth, c, Q, A, hx, hb, hml, hown, hts, hK, hA, hE, hEs, hin0, hri, hrv, rfl⟩ := B
  intro H locs ls r1 r2 r3 r4 hP hD hS hl
  subst hstk
  have hAs : ∀ v ∈ As, zVr v := fun v hv => r2 v (List.mem_append_left _ (List.mem_reverse.mpr hv))
  have hav0 : ∀ v ∈ (.inr (some a) :: As : List zV), zVr v := List.forall_mem_cons.mpr ⟨trivial, hAs⟩
  have rst : ∀ v ∈ st, zVr v := fun v hv => r2 v (List.mem_append_right _ (List.mem_cons_of_mem _ hv))
  have hpre0 := hpre hAs
  have hrc0 : zWr wc := by
    intro q hq
    obtain ⟨r, hr⟩ := List.getElem?_of_mem hq
    obtain ⟨i, -, hwi⟩ := zsub_at hsub hr
    exact r1 q (List.mem_of_getElem? hwi)
  have hsz := zsub_zw (k := k) hsub
  have hPc : va_P D vwCl (zw k wc) H := by
    intro r q hr
    obtain ⟨x, hx1, he⟩ := zw_get hr
    obtain ⟨i, -, hwi⟩ := zsub_at hsub hx1
    have := hP i _ (zw_at hwi)
    obtain ⟨qa, qe⟩ := q
    simp only at he
    subst he
    exact this
  have hDc : va_D A (zw k wc) := hD.sub is hnd hsz
  have hFc := va_free hD hS hA is hsz
  have hPRE : ∀ U : State, U.heap = H → s.WarmedH U.vm → zPre D k E (.inr (some a) :: As) wc H.size (((.inr (some a) :: As : List zV)).map zv).toArray U := by
    intro U hU hW
    refine ⟨rfl, by rw [hU], by rw [hU]; exact hPc, va_K.moved hW.alike hK, hDc.weaken (fun _ _ _ _ => trivial), ?_⟩
    rw [hU]
    exact hE.1 _ _ _ _ hW (hE.2.2.2 _ _ _ _ (hE.2.2.1 _ _ _ _ hEs (fun q h1 h2 => hS.2.1 q h1 h2)) hFc)
  refine va_calli (va_runV (As := As.map zv) (rest := st.map zv) ⟨hx, hb, hml, hown, hts⟩ (M H.size hrc0 hav0 hpre0) (cwV na hts (zgoodV h1 h2 h3 h4 h5) rfl hrc hrs hdn hR) ⟨zpre_blind hE _ _ _, va_recv hK hP hc (zw_at hi), hPRE⟩ rfl (by rw [List.length_map]; exact hna) hl.choose_spec.1.1 (by simp [zv, va_rf]) (lv_room (by rw [zcat_sum]; exact hst)) hd hf) hS (fun q _ h => hFc q h) hFc (fun r u t H1 locs1 ht hvm hw hB hz1 hk1 hS1 => ?_)
  obtain ⟨z, rfl, rz, ru, ra, hPo⟩ := hw
  obtain ⟨hP1, hD1⟩ := hB
  rw [ht] at hP1
  obtain ⟨g1, g2, g3⟩ := zjoin hP hD hsub hnd hk1 hFc hP1 hD1 ra
  exact h z u rz ru ra hPo H1 locs1 ls (zput_r is ws u r1 ru) (List.forall_mem_cons.mpr ⟨rz, rst⟩) r3 (by rw [g3]; exact List.IsPrefix.trans r4 (List.prefix_append _ _)) g1 g2 hS1 hl
theorem zB.callVv (B : zB l D k E cc own nL R mc ms rt ini a0 PR Z) {y : MethodName} {b : ByteArray} {n index mc' ms' : Nat} {rm : Room} {P : Prop} {Po : Int → zW → Prop} {a : Nat} {As : List zV} (na : Nat) (M : zMv l D k E y b n rm mc' ms' (.inr (some a) :: As) wc P Po) {ci N : Nat} {C : String} {T : u_T} {fs : List zV} (i : Nat) (hi : ws[i]? = some (a, .inr (.inr (ci, fs)))) (hc : vwCl[ci]? = some (C, T, N)) (h1 : Cond.methodLink own index y ∈ zTs) (h2 : Cond.instanceMethod y ∈ zTs) (h3 : Cond.selects C y y ∈ zTs) (h4 : Cond.initialized C ∈ zTs) (h5 : Cond.code y b n none ∈ zTs) (hdn : y.cls = C ∧ y.cls ≠ "java/lang/invoke/MethodHandle" ∧ y.cls ≠ "java/lang/invoke/VarHandle" ∧ (parseMethodDescriptor y.desc).map (fun d => d.parameters.length) = some na) (hna : As.length = na) (hrc : rm.cells = mc') (hrs : rm.slots = ms') (hR : rm.frames + 1 ≤ R.frames ∧ 8 + (n + 11) + rm.locals ≤ R.locals) (hf : kc + mc' ≤ R.cells ∧ ks + ms' ≤ R.slots) (is : List Nat) (hsub : is.map (fun i => ws[i]?) = wc.map some) (hnd : va_nd is = true) (hstk : stk = As.reverse ++ .inr (some a) :: st) (hst : st.length ≤ 8) (hd : decode cc pc = .ok (.invokevirtual index, 3)) (hpre : (∀ v ∈ As, zVr v) → P)
    (h : ∀ (u : zW), zWr u → wc.map Prod.fst <+: u.map Prod.fst → Po 0 u → Z (kc + mc') (ks + ms') (pc + 3) lv st (zput ws is u)) : Z kc ks pc lv stk ws := by
  obtain ⟨p, e, s, m, args, below, meth, c, Q, A, hx, hb, hml, hown, hts, hK, hA, hE, hEs, hin0, hri, hrv, rfl⟩ := B
  intro H locs ls r1 r2 r3 r4 hP hD hS hl
  subst hstk
  have hAs : ∀ v ∈ As, zVr v := fun v hv => r2 v (List.mem_append_left _ (List.mem_reverse.mpr hv))
  have hav0 : ∀ v ∈ (.inr (some a) :: As : List zV), zVr v := List.forall_mem_cons.mpr ⟨trivial, hAs⟩
  have rst : ∀ v ∈ st, zVr v := fun v hv => r2 v (List.mem_append_right _ (List.mem_cons_of_mem _ hv))
  have hpre0 := hpre hAs
  have hrc0 : zWr wc := by
    intro q hq
    obtain ⟨r, hr⟩ := List.getElem?_of_mem hq
    obtain ⟨i, -, hwi⟩ := zsub_at hsub hr
    exact r1 q (List.mem_of_getElem? hwi)
  have hsz := zsub_zw (k := k) hsub
  have hPc : va_P D vwCl (zw k wc) H := by
    intro r q hr
    obtain ⟨x, hx1, he⟩ := zw_get hr
    obtain ⟨i, -, hwi⟩ := zsub_at hsub hx1
    have := hP i _ (zw_at hwi)
    obtain ⟨qa, qe⟩ := q
    simp only at he
    subst he
    exact this
  have hDc : va_D A (zw k wc) := hD.sub is hnd hsz
  have hFc := va_free hD hS hA is hsz
  have hPRE : ∀ U : State, U.heap = H → s.WarmedH U.vm → zPre D k E (.inr (some a) :: As) wc H.size (((.inr (some a) :: As : List zV)).map zv).toArray U := by
    intro U hU hW
    refine ⟨rfl, by rw [hU], by rw [hU]; exact hPc, va_K.moved hW.alike hK, hDc.weaken (fun _ _ _ _ => trivial), ?_⟩
    rw [hU]
    exact hE.1 _ _ _ _ hW (hE.2.2.2 _ _ _ _ (hE.2.2.1 _ _ _ _ hEs (fun q h1 h2 => hS.2.1 q h1 h2)) hFc)
  refine va_callv (va_runV (As := As.map zv) (rest := st.map zv) ⟨hx, hb, hml, hown, hts⟩ (M H.size hrc0 hav0 hpre0) (cwV na hts (zgoodV h1 h2 h3 h4 h5) rfl hrc hrs hdn hR) ⟨zpre_blind hE _ _ _, va_recv hK hP hc (zw_at hi), hPRE⟩ rfl (by rw [List.length_map]; exact hna) hl.choose_spec.1.1 (by simp [zv, va_rf]) (lv_room (by rw [zcat_sum]; exact hst)) hd hf) hS (fun q _ h => hFc q h) hFc (fun u t H1 locs1 ht hvm hw hB hz1 hk1 hS1 => ?_)
  obtain ⟨ru, ra, hPo⟩ := hw
  obtain ⟨hP1, hD1⟩ := hB
  rw [ht] at hP1
  obtain ⟨g1, g2, g3⟩ := zjoin hP hD hsub hnd hk1 hFc hP1 hD1 ra
  exact h u ru ra hPo H1 locs1 ls (zput_r is ws u r1 ru) rst r3 (by rw [g3]; exact List.IsPrefix.trans r4 (List.prefix_append _ _)) g1 g2 hS1 hl
theorem zB.callSi (B : zB l D k E cc own nL R mc ms rt ini a0 PR Z) {y : MethodName} {b : ByteArray} {n index mc' ms' : Nat} {rr : FieldType} {rm : Room} {P : Prop} {Po : Int → zW → Prop} {As : List zV} (na : Nat) (M : zMi l D k E y b n rr rm mc' ms' As wc P Po) (h1 : Cond.methodLink own index y ∈ zTs) (h2 : Cond.static y ∈ zTs) (h4 : Cond.initialized own ∈ zTs) (h5 : Cond.code y b n (some rr) ∈ zTs) (hdn : y.cls = own ∧ y.cls ≠ "java/lang/invoke/MethodHandle" ∧ y.cls ≠ "java/lang/invoke/VarHandle" ∧ (parseMethodDescriptor y.desc).map (fun d => d.parameters.length) = some na) (hna : As.length = na) (hrc : rm.cells = mc') (hrs : rm.slots = ms') (hR : rm.frames + 1 ≤ R.frames ∧ 8 + (n + 11) + rm.locals ≤ R.locals) (hf : kc + mc' ≤ R.cells ∧ ks + ms' ≤ R.slots) (is : List Nat) (hsub : is.map (fun i => ws[i]?) = wc.map some) (hnd : va_nd is = true) (hstk : stk = As.reverse ++ st) (hst : st.length ≤ 8) (hd : decode cc pc = .ok (.invokestatic index, 3)) (hpre : (∀ v ∈ As, zVr v) → P)
    (h : ∀ (z : Int) (u : zW), zR z → zWr u → wc.map Prod.fst <+: u.map Prod.fst → Po z u → Z (kc + mc') (ks + ms') (pc + 3) lv (.inl z :: st) (zput ws is u)) : Z kc ks pc lv stk ws := by
  obtain ⟨p, e, s, m, args, below, meth, c, Q, A, hx, hb, hml, hown, hts, hK, hA, hE, hEs, hin0, hri, hrv, rfl⟩ := B
  intro H locs ls r1 r2 r3 r4 hP hD hS hl
  subst hstk
  have hav0 : ∀ v ∈ As, zVr v := fun v hv => r2 v (List.mem_append_left _ (List.mem_reverse.mpr hv))
  have rst : ∀ v ∈ st, zVr v := fun v hv => r2 v (List.mem_append_right _ hv)
  have hpre0 := hpre hav0
  have hrc0 : zWr wc := by
    intro q hq
    obtain ⟨r, hr⟩ := List.getElem?_of_mem hq
    obtain ⟨i, -, hwi⟩ := zsub_at hsub hr
    exact r1 q (List.mem_of_getElem? hwi)
  have hsz := zsub_zw (k := k) hsub
  have hPc : va_P D vwCl (zw k wc) H := by
    intro r q hr
    obtain ⟨x, hx1, he⟩ := zw_get hr
    obtain ⟨i, -, hwi⟩ := zsub_at hsub hx1
    have := hP i _ (zw_at hwi)
    obtain ⟨qa, qe⟩ := q
    simp only at he
    subst he
    exact this
  have hDc : va_D A (zw k wc) := hD.sub is hnd hsz
  have hFc := va_free hD hS hA is hsz
  have hPRE : ∀ U : State, U.heap = H → s.WarmedH U.vm → zPre D k E (As) wc H.size (((As : List zV)).map zv).toArray U := by
    intro U hU hW
    refine ⟨rfl, by rw [hU], by rw [hU]; exact hPc, va_K.moved hW.alike hK, hDc.weaken (fun _ _ _ _ => trivial), ?_⟩
    rw [hU]
    exact hE.1 _ _ _ _ hW (hE.2.2.2 _ _ _ _ (hE.2.2.1 _ _ _ _ hEs (fun q h1 h2 => hS.2.1 q h1 h2)) hFc)
  refine va_calli (va_runS (As := As.map zv) (rest := st.map zv) ⟨hx, hb, hml, hown, hts⟩ (M H.size hrc0 hav0 hpre0) (cwS na hts (zgoodS h1 h2 h4 h5) rfl hrc hrs hdn hR) ⟨zpre_blind hE _ _ _, hPRE⟩ rfl (by rw [List.length_map]; exact hna) hl.choose_spec.1.1 (by simp) (lv_room (by rw [zcat_sum]; exact hst)) hd hf) hS (fun q _ h => hFc q h) hFc (fun r u t H1 locs1 ht hvm hw hB hz1 hk1 hS1 => ?_)
  obtain ⟨z, rfl, rz, ru, ra, hPo⟩ := hw
  obtain ⟨hP1, hD1⟩ := hB
  rw [ht] at hP1
  obtain ⟨g1, g2, g3⟩ := zjoin hP hD hsub hnd hk1 hFc hP1 hD1 ra
  exact h z u rz ru ra hPo H1 locs1 ls (zput_r is ws u r1 ru) (List.forall_mem_cons.mpr ⟨rz, rst⟩) r3 (by rw [g3]; exact List.IsPrefix.trans r4 (List.prefix_append _ _)) g1 g2 hS1 hl
theorem zB.callIv (B : zB l D k E cc own nL R mc ms rt ini a0 PR Z) {y : MethodName} {b : ByteArray} {n index mc' ms' : Nat} {rm : Room} {P : Prop} {Po : Int → zW → Prop} {a : Nat} {As : List zV} (na : Nat) (M : zMv l D k E y b n rm mc' ms' (.inr (some a) :: As) wc P Po) (h1 : Cond.methodLink own index y ∈ zTs) (h2 : Cond.instanceMethod y ∈ zTs) (h4 : Cond.initialized y.cls ∈ zTs) (h5 : Cond.code y b n none ∈ zTs) (hnm : y.name = "<init>") (hdn : y.cls ≠ "java/lang/invoke/MethodHandle" ∧ y.cls ≠ "java/lang/invoke/VarHandle" ∧ (parseMethodDescriptor y.desc).map (fun d => d.parameters.length) = some na) (hna : As.length = na) (hrc : rm.cells = mc') (hrs : rm.slots = ms') (hR : rm.frames + 1 ≤ R.frames ∧ 8 + (n + 11) + rm.locals ≤ R.locals) (hf : kc + mc' ≤ R.cells ∧ ks + ms' ≤ R.slots) (is : List Nat) (hsub : is.map (fun i => ws[i]?) = wc.map some) (hnd : va_nd is = true) (hstk : stk = As.reverse ++ .inr (some a) :: st) (hst : st.length ≤ 8) (hd : decode cc pc = .ok (.invokespecial index, 3)) (hpre : (∀ v ∈ As, zVr v) → P)
    (h : ∀ (u : zW), zWr u → wc.map Prod.fst <+: u.map Prod.fst → Po 0 u → Z (kc + mc') (ks + ms') (pc + 3) lv st (zput ws is u)) : Z kc ks pc lv stk ws := by
  obtain ⟨p, e, s, m, args, below, meth, c, Q, A, hx, hb, hml, hown, hts, hK, hA, hE, hEs, hin0, hri, hrv, rfl⟩ := B
  intro H locs ls r1 r2 r3 r4 hP hD hS hl
  subst hstk
  have hAs : ∀ v ∈ As, zVr v := fun v hv => r2 v (List.mem_append_left _ (List.mem_reverse.mpr hv))
  have hav0 : ∀ v ∈ (.inr (some a) :: As : List zV), zVr v := List.forall_mem_cons.mpr ⟨trivial, hAs⟩
  have rst : ∀ v ∈ st, zVr v := fun v hv => r2 v (List.mem_append_right _ (List.mem_cons_of_mem _ hv))
  have hpre0 := hpre hAs
  have hrc0 : zWr wc := by
    intro q hq
    obtain ⟨r, hr⟩ := List.getElem?_of_mem hq
    obtain ⟨i, -, hwi⟩ := zsub_at hsub hr
    exact r1 q (List.mem_of_getElem? hwi)
  have hsz := zsub_zw (k := k) hsub
  have hPc : va_P D vwCl (zw k wc) H := by
    intro r q hr
    obtain ⟨x, hx1, he⟩ := zw_get hr
    obtain ⟨i, -, hwi⟩ := zsub_at hsub hx1
    have := hP i _ (zw_at hwi)
    obtain ⟨qa, qe⟩ := q
    simp only at he
    subst he
    exact this
  have hDc : va_D A (zw k wc) := hD.sub is hnd hsz
  have hFc := va_free hD hS hA is hsz
  have hPRE : ∀ U : State, U.heap = H → s.WarmedH U.vm → zPre D k E (.inr (some a) :: As) wc H.size (((.inr (some a) :: As : List zV)).map zv).toArray U := by
    intro U hU hW
    refine ⟨rfl, by rw [hU], by rw [hU]; exact hPc, va_K.moved hW.alike hK, hDc.weaken (fun _ _ _ _ => trivial), ?_⟩
    rw [hU]
    exact hE.1 _ _ _ _ hW (hE.2.2.2 _ _ _ _ (hE.2.2.1 _ _ _ _ hEs (fun q h1 h2 => hS.2.1 q h1 h2)) hFc)
  refine va_callv (va_runI (As := As.map zv) (rest := st.map zv) ⟨hx, hb, hml, hown, hts⟩ (M H.size hrc0 hav0 hpre0) (cwI na hts (zgoodI h5) rfl hrc hrs (hts _ h4) (hts _ h1) (hts _ h2) hnm hdn hR) ⟨zpre_blind hE _ _ _, hPRE⟩ rfl (by rw [List.length_map]; exact hna) hl.choose_spec.1.1 (by simp [zv, va_rf]) (lv_room (by rw [zcat_sum]; exact hst)) hd hf) hS (fun q _ h => hFc q h) hFc (fun u t H1 locs1 ht hvm hw hB hz1 hk1 hS1 => ?_)
  obtain ⟨ru, ra, hPo⟩ := hw
  obtain ⟨hP1, hD1⟩ := hB
  rw [ht] at hP1
  obtain ⟨g1, g2, g3⟩ := zjoin hP hD hsub hnd hk1 hFc hP1 hD1 ra
  exact h u ru ra hPo H1 locs1 ls (zput_r is ws u r1 ru) rst r3 (by rw [g3]; exact List.IsPrefix.trans r4 (List.prefix_append _ _)) g1 g2 hS1 hl
end ZC
