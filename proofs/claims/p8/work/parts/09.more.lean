section ZM
variable {l : Launch} {D : va_G} {k : zK} {E : zE} {cc : ByteArray} {own : String} {nL : Nat} {R : Room} {mc ms : Nat} {rt : Option FieldType} {ini : Prop} {a0 : List Nat} {PR : Int → zW → Prop} {Z : zP}
variable {kc ks pc : Nat} {lv : List (Option zV)} {st : List zV} {ws : zW} {x y : Int}
theorem zsplit (v : Int) {X : Int → Prop} (h1 : X v) (h2 : x ≠ v → X x) : X x := by
  by_cases h : x = v
  · rw [h]; exact h1
  · exact h2 h
theorem zB.tsOut (B : zB l D k E cc own nL R mc ms rt ini a0 PR Z) {dflt lo hi : Int} {offs : Array Int} {len tgt : Nat} (hd : decode cc pc = .ok (.tableswitch dflt lo hi offs, len)) (h : x < lo ∨ hi < x) (ht : (pc : Int) + dflt = (tgt : Int)) (kk : Z kc ks tgt lv st ws) : Z kc ks pc lv (.inl x :: st) ws := by
  obtain ⟨p, e, s, m, args, below, meth, c, Q, A, hx, hb, hml, hown, hts, hK, hA, hE, hEs, hin, hri, hrv, rfl⟩ := B
  intro H locs ls r1 r2 r3 r4 hP hD hS hl
  obtain ⟨rx, rr⟩ := List.forall_mem_cons.mp r2
  exact lv_tableOut (x := iZ x) hx hb hd (by rw [iZ_toInt rx]; exact h) ht (kk H locs ls r1 rr r3 r4 hP hD hS hl)
theorem zB.tsIn (B : zB l D k E cc own nL R mc ms rt ini a0 PR Z) {dflt lo hi off : Int} {offs : Array Int} {len tgt : Nat} (hd : decode cc pc = .ok (.tableswitch dflt lo hi offs, len)) (h1 : ¬ x < lo) (h2 : ¬ hi < x) (ho : offs[(x - lo).toNat]? = some off) (ht : (pc : Int) + off = (tgt : Int)) (kk : Z kc ks tgt lv st ws) : Z kc ks pc lv (.inl x :: st) ws := by
  obtain ⟨p, e, s, m, args, below, meth, c, Q, A, hx, hb, hml, hown, hts, hK, hA, hE, hEs, hin, hri, hrv, rfl⟩ := B
  intro H locs ls r1 r2 r3 r4 hP hD hS hl
  obtain ⟨rx, rr⟩ := List.forall_mem_cons.mp r2
  have rx : zR x := rx
  exact lv_tableIn (x := iZ x) hx hb hd (by rw [iZ_toInt rx]; exact h1) (by rw [iZ_toInt rx]; exact h2) (by rw [iZ_toInt rx]; exact ho) ht (kk H locs ls r1 rr r3 r4 hP hD hS hl)
theorem zB.mmin (B : zB l D k E cc own nL R mc ms rt ini a0 PR Z) {index : Nat} (h1 : Cond.methodLink own index Lib.Math.min.name ∈ zTs) (h2 : Cond.static Lib.Math.min.name ∈ zTs) (h3 : Cond.initialized "java/lang/Math" ∈ zTs) (h4 : Cond.code Lib.Math.min.name Lib.Math.min.code 2 (some .int) ∈ zTs) (hfr : 1 ≤ R.frames) (hlo : st.length + 13 ≤ R.locals) (hcc : kc ≤ R.cells) (hss : ks ≤ R.slots) (hd : decode cc pc = .ok (.invokestatic index, 3))
    (h : ∀ r : Int, zR r → r ≤ x → r ≤ y → (r = x ∨ r = y) → Z kc ks (pc + 3) lv (.inl r :: st) ws) : Z kc ks pc lv (.inl y :: .inl x :: st) ws := by
  obtain ⟨p, e, s, m, args, below, meth, c, Q, A, hx, hb, hml, hown, hts, hK, hA, hE, hEs, hin, hri, hrv, rfl⟩ := B
  intro H locs ls r1 r2 r3 r4 hP hD hS hl
  obtain ⟨ry, rr⟩ := List.forall_mem_cons.mp r2
  obtain ⟨rx, rr⟩ := List.forall_mem_cons.mp rr
  have rx : zR x := rx
  have ry : zR y := ry
  refine va_mmin (x := iZ x) (y := iZ y) hx hb (hml.trans hl.choose_spec.1.1.symm) hown (hts _ h1) (hts _ h2) (hts _ h3) (hts _ h4) hfr (by rw [zcat_sum]; exact hlo) hcc hss hd ?_
  by_cases hlt : y < x
  · rw [if_pos ((iZ_lt ry rx).mpr hlt)]
    exact h y ry (by omega) (by omega) (Or.inr rfl) H locs ls r1 (List.forall_mem_cons.mpr ⟨ry, rr⟩) r3 r4 hP hD hS hl
  · rw [if_neg (fun z => hlt ((iZ_lt ry rx).mp z))]
    exact h x rx (by omega) (by omega) (Or.inl rfl) H locs ls r1 (List.forall_mem_cons.mpr ⟨rx, rr⟩) r3 r4 hP hD hS hl
theorem zB.acopy (B : zB l D k E cc own nL R mc ms rt ini a0 PR Z) {index a b n0 n1 : Nat} {f g : Nat → Int} {sp dp n : Int} (h1 : Cond.methodLink own index arraycopyName ∈ zTs) (h2 : Cond.native arraycopyName ∈ zTs) (h3 : Cond.static arraycopyName ∈ zTs) (h4 : Cond.initialized "java/lang/System" ∈ zTs) (i0 i1 : Nat) (hi0 : ws[i0]? = some (a, .inl (false, n0, f))) (hi1 : ws[i1]? = some (b, .inl (false, n1, g))) (g1 : 0 ≤ sp) (g2 : 0 ≤ dp) (g3 : 0 ≤ n) (g4 : sp + n ≤ n0) (g5 : dp + n ≤ n1) (hfr : 1 ≤ R.frames) (hlo : st.length + 18 ≤ R.locals) (hd : decode cc pc = .ok (.invokestatic index, 3))
    (h : Z kc ks (pc + 3) lv st (ws.set i1 (b, .inl (false, n1, zcp f g sp.toNat dp.toNat n.toNat)))) : Z kc ks pc lv (.inl n :: .inl dp :: .inr (some b) :: .inl sp :: .inr (some a) :: st) ws := by
  obtain ⟨p, e, s, m, args, below, meth, c, Q, A, hx, hb, hml, hown, hts, hK, hA, hE, hEs, hin, hri, hrv, rfl⟩ := B
  intro H locs ls r1 r2 r3 r4 hP hD hS hl
  obtain ⟨rn, rr⟩ := List.forall_mem_cons.mp r2
  obtain ⟨rd, rr⟩ := List.forall_mem_cons.mp rr
  obtain ⟨-, rr⟩ := List.forall_mem_cons.mp rr
  obtain ⟨rs, rr⟩ := List.forall_mem_cons.mp rr
  obtain ⟨-, rr⟩ := List.forall_mem_cons.mp rr
  have rn : zR n := rn
  have rd : zR dp := rd
  have rs : zR sp := rs
  refine va_copyi (D := D) (sp := iZ sp) (dp := iZ dp) (n := iZ n) hx hb (hml.trans hl.choose_spec.1.1.symm) hown (hts _ h1) (hts _ h2) (hts _ h3) (hts _ h4) hK hP hD hS i0 i1 0 0 (zw_at hi0) (zw_at hi1) (ty := .int) rfl rfl rfl ?_ ?_ ?_ ?_ ?_ (fun _ _ => rfl) hfr (by rw [zcat_sum]; exact hlo) hd (fun H1 locs1 hP1 hD1 hS1 => ?_)
  · rw [← iZ_0, iZ_lt rs zR_0]; omega
  · rw [← iZ_0, iZ_lt rd zR_0]; omega
  · rw [← iZ_0, iZ_lt rn zR_0]; omega
  · rw [iZ_nat rs g1, iZ_nat rn g3]; omega
  · rw [iZ_nat rd g2, iZ_nat rn g3]; omega
  · rw [iZ_nat rs g1, iZ_nat rn g3, iZ_nat rd g2, iZ_cpy] at hP1 hD1
    have e2 : (zw k ws).set i1 (b, zc k (.inl (false, n1, zcp f g sp.toNat dp.toNat n.toNat))) = zw k (ws.set i1 (b, .inl (false, n1, zcp f g sp.toNat dp.toNat n.toNat))) := zw_set
    exact h H1 locs1 ls (zWr_set r1 (zcp_r (zWr_at r1 hi0) (zWr_at r1 hi1))) rr r3 (by rw [zfst_set hi1]; exact r4) (by rw [← e2]; exact hP1) (by rw [← e2]; exact hD1) hS1 hl
theorem zWr_app {c : Nat × zC} (h : zWr ws) (hc : zCr c.2) : zWr (ws ++ [c]) := by
  intro q hq
  rcases List.mem_append.mp hq with h1 | h1
  · exact h q h1
  · rw [List.mem_singleton.mp h1]; exact hc
theorem zpfx_app {c : Nat × zC} (h : a0 <+: ws.map Prod.fst) : a0 <+: (ws ++ [c]).map Prod.fst := by
  rw [List.map_append]
  exact List.IsPrefix.trans h (List.prefix_append _ _)
theorem zB.newarrI (B : zB l D k E cc own nL R mc ms rt ini a0 PR Z) {n : Int} (hw : Cond.arrayClass .int ∈ zTs) (h0 : 0 ≤ n) (hn : n ≤ 100000) (hcc : kc + 1 ≤ R.cells) (hss : ks + n.toNat ≤ R.slots) (hd : decode cc pc = .ok (.newarray .int, 2))
    (h : ∀ q : Nat, Z (kc + 1) (ks + n.toNat) (pc + 2) lv (.inr (some q) :: st) (ws ++ [(q, .inl (false, n.toNat, fun _ => 0))])) : Z kc ks pc lv (.inl n :: st) ws := by
  obtain ⟨p, e, s, m, args, below, meth, c, Q, A, hx, hb, hml, hown, hts, hK, hA, hE, hEs, hin, hri, hrv, rfl⟩ := B
  intro H locs ls r1 r2 r3 r4 hP hD hS hl
  obtain ⟨rn, rr⟩ := List.forall_mem_cons.mp r2
  have rn : zR n := rn
  refine va_newa (D := D) (atype := .int) (n := iZ n) (N' := n.toNat) (a0 := (n.toNat, .inl (fun _ => iZ 0))) hx hb (hts _ hw) rfl hK hP hD hS hA (fun cA => by rw [vp_cell_i, iZ_0]; rfl) (by rw [← iZ_0, iZ_lt rn zR_0]; omega) (iZ_nat rn h0) (by show n.toNat * 4 ≤ _; omega) hcc hss hd (fun q cA H1 hK1 hP1 hD1 hS1 => ?_)
  have e1 : cA = k.1 := by
    have a1 := (hK1.2 3 (cA, .int) rfl).2
    have a2 := (hK.2 0 (k.1, .int) rfl).2
    exact Option.some.inj (a1.symm.trans a2)
  subst e1
  have e2 : zw k ws ++ [(q, zc k (.inl (false, n.toNat, fun _ => 0)))] = zw k (ws ++ [(q, .inl (false, n.toNat, fun _ => 0))]) := by rw [zw_app]; rfl
  exact h q H1 locs ls (zWr_app r1 (fun _ => zR_0)) (List.forall_mem_cons.mpr ⟨trivial, rr⟩) r3 (zpfx_app r4) (by rw [← e2]; exact hP1) (by rw [← e2]; exact hD1) hS1 hl
theorem zB.newarrZ (B : zB l D k E cc own nL R mc ms rt ini a0 PR Z) {n : Int} (hw : Cond.arrayClass .boolean ∈ zTs) (h0 : 0 ≤ n) (hn : n ≤ 100000) (hcc : kc + 1 ≤ R.cells) (hss : ks + n.toNat ≤ R.slots) (hd : decode cc pc = .ok (.newarray .boolean, 2))
    (h : ∀ q : Nat, Z (kc + 1) (ks + n.toNat) (pc + 2) lv (.inr (some q) :: st) (ws ++ [(q, .inl (true, n.toNat, fun _ => 0))])) : Z kc ks pc lv (.inl n :: st) ws := by
  obtain ⟨p, e, s, m, args, below, meth, c, Q, A, hx, hb, hml, hown, hts, hK, hA, hE, hEs, hin, hri, hrv, rfl⟩ := B
  intro H locs ls r1 r2 r3 r4 hP hD hS hl
  obtain ⟨rn, rr⟩ := List.forall_mem_cons.mp r2
  have rn : zR n := rn
  refine va_newa (D := D) (atype := .boolean) (n := iZ n) (N' := n.toNat) (a0 := (n.toNat, .inl (fun _ => iZ 0))) hx hb (hts _ hw) rfl hK hP hD hS hA (fun cA => by rw [vp_cell_i, iZ_0]; rfl) (by rw [← iZ_0, iZ_lt rn zR_0]; omega) (iZ_nat rn h0) (by show n.toNat * 1 ≤ _; omega) hcc hss hd (fun q cA H1 hK1 hP1 hD1 hS1 => ?_)
  have e1 : cA = k.2.1 := by
    have a1 := (hK1.2 3 (cA, .boolean) rfl).2
    have a2 := (hK.2 1 (k.2.1, .boolean) rfl).2
    exact Option.some.inj (a1.symm.trans a2)
  subst e1
  have e2 : zw k ws ++ [(q, zc k (.inl (true, n.toNat, fun _ => 0)))] = zw k (ws ++ [(q, .inl (true, n.toNat, fun _ => 0))]) := by rw [zw_app]; rfl
  exact h q H1 locs ls (zWr_app r1 (fun _ => zR_0)) (List.forall_mem_cons.mpr ⟨trivial, rr⟩) r3 (zpfx_app r4) (by rw [← e2]; exact hP1) (by rw [← e2]; exact hD1) hS1 hl
theorem zB.new (B : zB l D k E cc own nL R mc ms rt ini a0 PR Z) {index ci N : Nat} {C : String} {T : u_T} (ty : Nat → FieldType) (hty : ∀ k, k < N → parseFieldDescriptor (T k).2.2.1 = some (ty k)) (hc : vwCl[ci]? = some (C, T, N)) (hin : ∀ w ∈ u_ws C T N, w ∈ zTs) (h1 : Cond.classLink own index C ∈ zTs) (h2 : Cond.instantiable C N ∈ zTs) (h3 : Cond.initialized C ∈ zTs) (fs : List zV) (hfs : ∀ j, j < N → defaultValue (ty j) = vp_V (fs.map zv) j) (hfr : ∀ v ∈ fs, zVr v) (hcc : kc + 1 ≤ R.cells) (hss : ks + N ≤ R.slots) (hd : decode cc pc = .ok (.new index, 3))
    (h : ∀ q : Nat, Z (kc + 1) (ks + N) (pc + 3) lv (.inr (some q) :: st) (ws ++ [(q, .inr (.inr (ci, fs)))])) : Z kc ks pc lv st ws := by
  obtain ⟨p, e, s, m, args, below, meth, c, Q, A, hx, hb, hml, hown, hts, hK, hA, hE, hEs, hin0, hri, hrv, rfl⟩ := B
  intro H locs ls r1 r2 r3 r4 hP hD hS hl
  refine va_new (D := D) (ci := ci) (fs := fs.map zv) hx hb hts hin ty hty hown (hts _ h1) (hts _ h2) (hts _ h3) hK hP hD hS hA hc hfs hcc hss hd (fun q H1 hP1 hD1 hS1 => ?_)
  have e2 : zw k ws ++ [(q, zc k (.inr (.inr (ci, fs))))] = zw k (ws ++ [(q, .inr (.inr (ci, fs)))]) := by rw [zw_app]; rfl
  exact h q H1 locs ls (zWr_app r1 hfr) (List.forall_mem_cons.mpr ⟨trivial, r2⟩) r3 (zpfx_app r4) (by rw [← e2]; exact hP1) (by rw [← e2]; exact hD1) hS1 hl
theorem zB.objInit (B : zB l D k E cc own nL R mc ms rt ini a0 PR Z) {index a : Nat} (h1 : Cond.methodLink own index Lib.objectInit ∈ zTs) (h2 : Cond.instanceMethod Lib.objectInit ∈ zTs) (h3 : Cond.code Lib.objectInit ⟨#[0xb1]⟩ 1 none ∈ zTs) (hfr : 1 ≤ R.frames) (hlo : st.length + 12 ≤ R.locals) (hd : decode cc pc = .ok (.invokespecial index, 3))
    (h : Z kc ks (pc + 3) lv st ws) : Z kc ks pc lv (.inr (some a) :: st) ws := by
  obtain ⟨p, e, s, m, args, below, meth, c, Q, A, hx, hb, hml, hown, hts, hK, hA, hE, hEs, hin0, hri, hrv, rfl⟩ := B
  intro H locs ls r1 r2 r3 r4 hP hD hS hl
  refine W.objInit hx hb hown (hts _ h1) (hts _ h2) (hts _ h3) rfl (hl.choose_spec.1.1.trans hml.symm) (a := a) (rest := st.map zv) rfl hd hfr ?_ ?_
  · have : 2 * (F0 m pc ls ((.inr (some a) :: st : List zV).map zv)).monitorRoom = 0 := by rfl
    rw [this, zcat_sum]; omega
  · exact h H locs ls r1 (List.forall_mem_cons.mp r2).2 r3 r4 hP hD hS hl
theorem zB.ifnonnull (B : zB l D k E cc own nL R mc ms rt ini a0 PR Z) {a tgt : Nat} {off : Int} (hd : decode cc pc = .ok (.ifnonnull off, 3)) (ht : (pc : Int) + off = (tgt : Int)) (h : Z kc ks tgt lv st ws) : Z kc ks pc lv (.inr (some a) :: st) ws := by
  obtain ⟨p, e, s, m, args, below, meth, c, Q, A, hx, hb, hml, hown, hts, hK, hA, hE, hEs, hin0, hri, hrv, rfl⟩ := B
  intro H locs ls r1 r2 r3 r4 hP hD hS hl
  exact lv_ifnonnull (x := a) hx hb hd ht (h H locs ls r1 (List.forall_mem_cons.mp r2).2 r3 r4 hP hD hS hl)
theorem zB.ifnonnullN (B : zB l D k E cc own nL R mc ms rt ini a0 PR Z) {off : Int} (hd : decode cc pc = .ok (.ifnonnull off, 3)) (h : Z kc ks (pc + 3) lv st ws) : Z kc ks pc lv (.inr none :: st) ws := by
  obtain ⟨p, e, s, m, args, below, meth, c, Q, A, hx, hb, hml, hown, hts, hK, hA, hE, hEs, hin0, hri, hrv, rfl⟩ := B
  intro H locs ls r1 r2 r3 r4 hP hD hS hl
  exact lv_ifnonnullN hx hb hd (h H locs ls r1 (List.forall_mem_cons.mp r2).2 r3 r4 hP hD hS hl)
theorem zB.aaload (B : zB l D k E cc own nL R mc ms rt ini a0 PR Z) {a n : Nat} {f : Nat → Option Nat} {r : Option Nat} (i : Nat) (hi : ws[i]? = some (a, .inr (.inl (n, f)))) (h0 : 0 ≤ x) (h1 : x < n) (hr : f x.toNat = r) (hd : decode cc pc = .ok (.aaload, 1))
    (h : Z kc ks (pc + 1) lv (.inr r :: st) ws) : Z kc ks pc lv (.inl x :: .inr (some a) :: st) ws := by
  obtain ⟨p, e, s, m, args, below, meth, c, Q, A, hx, hb, hml, hown, hts, hK, hA, hE, hEs, hin0, hri, hrv, rfl⟩ := B
  intro H locs ls r1 r2 r3 r4 hP hD hS hl
  obtain ⟨rx, rr⟩ := List.forall_mem_cons.mp r2
  have rx : zR x := rx
  refine va_aldq (D := D) hx hb hK hP i 2 (zw_at hi) rfl (iZ_in rx h0 h1) hd ?_
  rw [iZ_nat rx h0, hr]
  exact h H locs ls r1 (List.forall_mem_cons.mpr ⟨trivial, (List.forall_mem_cons.mp rr).2⟩) r3 r4 hP hD hS hl
theorem zB.aastore (B : zB l D k E cc own nL R mc ms rt ini a0 PR Z) {a n v : Nat} {f : Nat → Option Nat} {fs : List zV} (i j : Nat) (hi : ws[i]? = some (a, .inr (.inl (n, f)))) (hj : ws[j]? = some (v, .inr (.inr (0, fs)))) (h0 : 0 ≤ x) (h1 : x < n) (hd : decode cc pc = .ok (.aastore, 1))
    (h : Z kc ks (pc + 1) lv st (ws.set i (a, .inr (.inl (n, va_up f x.toNat (some v)))))) : Z kc ks pc lv (.inr (some v) :: .inl x :: .inr (some a) :: st) ws := by
  obtain ⟨p, e, s, m, args, below, meth, c, Q, A, hx, hb, hml, hown, hts, hK, hA, hE, hEs, hin0, hri, hrv, rfl⟩ := B
  intro H locs ls r1 r2 r3 r4 hP hD hS hl
  obtain ⟨-, rr⟩ := List.forall_mem_cons.mp r2
  obtain ⟨rx, rr⟩ := List.forall_mem_cons.mp rr
  have rx : zR x := rx
  refine va_astq (D := D) (r := (RX0, TX0, 5)) hx hb hK hP hD hS i 2 j 0 (zw_at hi) rfl (zw_at hj) rfl (iZ_in rx h0 h1) hd (fun H1 locs1 hP1 hD1 hS1 => ?_)
  rw [iZ_nat rx h0] at hP1 hD1
  have e2 : (zw k ws).set i (a, zc k (.inr (.inl (n, va_up f x.toNat (some v))))) = zw k (ws.set i (a, .inr (.inl (n, va_up f x.toNat (some v))))) := zw_set
  exact h H1 locs1 ls (zWr_set r1 trivial) (List.forall_mem_cons.mp rr).2 r3 (by rw [zfst_set hi]; exact r4) (by rw [← e2]; exact hP1) (by rw [← e2]; exact hD1) hS1 hl
theorem zB.anewarr (B : zB l D k E cc own nL R mc ms rt ini a0 PR Z) {n : Int} {index : Nat} (hEA : ∀ A U H, E A U H → va_AO RX0 U) (h1 : Cond.classLink own index RX0 ∈ zTs) (h0 : 0 ≤ n) (hn : n ≤ 100000) (hcc : kc + 1 ≤ R.cells) (hss : ks + n.toNat ≤ R.slots) (hd : decode cc pc = .ok (.anewarray index, 3))
    (h : ∀ q : Nat, Z (kc + 1) (ks + n.toNat) (pc + 3) lv (.inr (some q) :: st) (ws ++ [(q, .inr (.inl (n.toNat, fun _ => none)))])) : Z kc ks pc lv (.inl n :: st) ws := by
  obtain ⟨p, e, s, m, args, below, meth, c, Q, A, hx, hb, hml, hown, hts, hK, hA, hE, hEs, hin, hri, hrv, rfl⟩ := B
  intro H locs ls r1 r2 r3 r4 hP hD hS hl
  obtain ⟨rn, rr⟩ := List.forall_mem_cons.mp r2
  have rn : zR n := rn
  refine va_newq (D := D) (C := RX0) (n := iZ n) (N' := n.toNat) hx hb hown (hts _ h1) (hEA _ _ _ hEs) hK hP hD hS hA (by rw [← iZ_0, iZ_lt rn zR_0]; omega) (iZ_nat rn h0) (by omega) hcc hss hd (fun q cA H1 hK1 hP1 hD1 hS1 => ?_)
  have e1 : cA = k.2.2 := by
    obtain ⟨kA, comp, -, -, -, a1⟩ := (hK1.2 3 (cA, .object RX0) rfl).2
    obtain ⟨kA', comp', -, -, -, a2⟩ := (hK.2 2 (k.2.2, .object "CutLetters$Book") rfl).2
    exact Option.some.inj (a1.symm.trans a2)
  subst e1
  have e2 : zw k ws ++ [(q, zc k (.inr (.inl (n.toNat, fun _ => none))))] = zw k (ws ++ [(q, .inr (.inl (n.toNat, fun _ => none)))]) := by rw [zw_app]; rfl
  exact h q H1 locs ls (zWr_app r1 trivial) (List.forall_mem_cons.mpr ⟨trivial, rr⟩) r3 (zpfx_app r4) (by rw [← e2]; exact hP1) (by rw [← e2]; exact hD1) hS1 hl
end ZM
