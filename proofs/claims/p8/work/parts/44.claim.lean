/-! THE CLAIM OUT OF ONE WALK OF THE LAW'S BODY. Your part is whole_start (and what it stands on); all else here is the same for every law, but numbers. -/
def R_law : String := "CutLettersLaw"
def lw_P (b : Addr) (xs : List Int32) (args : Array Value) (s : State) : Prop := args = #[.ref b] ∧ s.IntsAt b xs ∧ xs.length ≤ 2048 ∧ (Jvm.Cond.and given_1 narrow_1).before args s = true
def lw_Q (_ : Array Value) (s : State) (o : Outcome) (t : State) : Prop := o = .returned (some (.int 1)) ∧ Framed s o t [] 600000 7302250
def lw_Z (below : List Frame) (a : Array Value) (s : State) : State → Prop := fun t => ∃ o, t.status = .running ∧ Ended t below o ∧ lw_Q a s o t
/-- the law's own end, with 1 on the stack, nothing written that was there before, its room as the claim has it -/
theorem lw_ret {p : Program} {l : Launch} {e : Env} {s : State} {m : MethodId} {below : List Frame} {meth : Method} {c : Code} {b : Nat} (hx : p.tables.exec = Jvm.exec) (hb : c.code = code) (hr : meth.sig.returnType = ret) (hlocks : meth.locks = false) {pc : Nat} {H : Heap} {ls : Array Slot} (hdg : decode code pc = .ok (.ireturn, 1)) : W p l e room_1 s m #[Value.ref b] below meth c H [] 600000 7302250 (lw_Z below #[Value.ref b] s) (F0 m pc ls [.int 1]) := by
  intro T hT X
  obtain ⟨fs, hret, hrun, hended, hW, hframe⟩ := X.leave (v := some (.int 1)) (hlocks := hlocks) (fun h => by rw [hr] at h; cases h)
  have hmeth' : T.vm.method? m = some meth := X.method'
  refine ⟨T.setFrames fs, ?_, .returned (some (.int 1)), hrun, hended, rfl, ⟨_, rfl⟩, hW, hframe⟩
  jvm_step X.here [X.here.top, hx, hb, hdg, hmeth', hr, ret, narrow_b1]
  (try refine ⟨rfl, ?_⟩); (try refine ⟨rfl, ?_⟩)
  first | (intro acts; rw [hret _ acts rfl rfl rfl]) | rw [hret _ _ rfl rfl rfl]
  exact Steps.refl _
/-- what holds at the law's entry: the machine, the code, the tables' words (any of lw_tbl by 'hts w (by decide +kernel)'), the script of L ints xs at the cell b, what the Statement gives of the start (any of its parts by flat_of_before) -/
def lw_At (p : Program) (s : State) (m : MethodId) (meth : Method) (c : Code) (b L : Nat) (xs : Nat → Int32) : Prop :=
  p.tables.exec = Jvm.exec ∧ c.code = code ∧ meth.sig.returnType = ret ∧ c.maxLocals = 4 ∧ s.vm.findClass R_law = some m.cls ∧ (∀ w ∈ lw_tbl, w.before #[Value.ref b] s = true) ∧ va_X b L xs s s.heap ∧ b < s.heap.size ∧ meth.locks = false ∧ (Jvm.Cond.and given_1 narrow_1).before #[Value.ref b] s = true

set_option maxHeartbeats 8000000 in
set_option maxRecDepth 100000 in
/-- what the launch gives of its own cells -/
theorem law_ext {s : State} {b L : Nat} {xs : Nat → Int32} (hts : ∀ w ∈ lw_tbl, w.before #[Value.ref b] s = true) (hX : va_X b L xs s s.heap) (hbl : b < s.heap.size) (hgv : (Jvm.Cond.and given_1 narrow_1).before #[Value.ref b] s = true) : ∃ aR aS aV : Nat, zEL aR aS aV b L (fun j => (xs j).toInt) (fun q : Nat => s.heap.size ≤ q) s s.heap := by
  have hs := flat_of_before _ hgv
  have hA : ∀ a : Nat, a < s.heap.size → ¬ (fun q : Nat => s.heap.size ≤ q) a := fun a h => Nat.not_le.mpr h
  have hzt : ∀ w ∈ zTs, w.before #[Value.ref b] s = true := fun w h => hts w (zTs_tbl h)
  obtain ⟨aR, hR1, hR2⟩ := va_Tof (args := #[Value.ref b]) (s := s) (tm := .static "CutLetters" "RULE_LIMITS" "[I") (ty := .int) (N := 4) (f := fun j => .int (iZ (zlim j))) (A := fun q : Nat => s.heap.size ≤ q) (by decide) (hs _ (by decide +kernel)) (va_eqt (z := 4) (hs _ (by decide +kernel))) (fun j hj => match j, hj with
    | 0, _ => va_eqt (z := 2) (hs _ (by decide +kernel))
    | 1, _ => va_eqt (z := 99) (hs _ (by decide +kernel))
    | 2, _ => va_eqt (z := 99) (hs _ (by decide +kernel))
    | 3, _ => va_eqt (z := 3) (hs _ (by decide +kernel))
    | j + 4, h => absurd h (by omega)) hA
  obtain ⟨adK, adV, hV, hev⟩ := vk_Sof (args := #[Value.ref b]) (s := s) (N := 1) (tm := fun _ => .string "CutLetters$Pad" 52) (len := [12]) (byt := [[110, 111, 117, 110, 118, 101, 114, 98, 109, 97, 114, 107]]) (A := fun q : Nat => s.heap.size ≤ q) (by decide) (fun _ _ => hs _ (by decide +kernel)) (fun _ _ => hs _ (by decide +kernel)) (fun _ _ => hs _ (by decide +kernel)) (fun i hi => match i, hi with
    | 0, _ => hs _ (by decide +kernel)
    | i + 1, h => absurd h (by omega)) (fun i hi => match i, hi with
    | 0, _ => fun j hj => match j, hj with
      | 0, _ => hs _ (by decide +kernel)
      | 1, _ => hs _ (by decide +kernel)
      | 2, _ => hs _ (by decide +kernel)
      | 3, _ => hs _ (by decide +kernel)
      | 4, _ => hs _ (by decide +kernel)
      | 5, _ => hs _ (by decide +kernel)
      | 6, _ => hs _ (by decide +kernel)
      | 7, _ => hs _ (by decide +kernel)
      | 8, _ => hs _ (by decide +kernel)
      | 9, _ => hs _ (by decide +kernel)
      | 10, _ => hs _ (by decide +kernel)
      | 11, _ => hs _ (by decide +kernel)
      | j + 12, h => absurd h (by show ¬ (j + 12 < 12); omega)
    | i + 1, h => absurd h (by omega)) (fun i j hi hj hn => absurd (show i = j by omega) hn) hA
  obtain ⟨v1, v2, v3, v4⟩ := hV.1 0 (by decide)
  refine ⟨aR, adK 0, adV 0, ⟨va_AO.of (hts _ (List.mem_of_getElem? (i := 148) (by decide +kernel))), va_Zref (hts _ (List.mem_of_getElem? (i := 429) (by decide +kernel))) (hzt _ it_X6) hR1 hA, hR2, va_Zof (hts _ (List.mem_of_getElem? (i := 315) (by decide +kernel))) (hzt _ it_J0) (va_eqi (hs _ (by decide +kernel))) hA, ?_, v1, v2, v3, ?_, vk_R.of (hts _ (List.mem_of_getElem? (i := 305) (by decide +kernel))) (hev 0 (by decide))⟩, ?_, hbl, Nat.not_le.mpr hbl⟩
  · rcases va_Zqof (args := #[Value.ref b]) (hts (Cond.laysStatic "jdk/internal/util/Preconditions" "SIOOBE_FORMATTER" "Ljava/util/function/BiFunction;") (List.mem_of_getElem? (i := 323) (by decide +kernel))) (hzt _ it_J3) (hs _ (by decide +kernel)) hA with h | ⟨t, h⟩
    · exact ⟨none, h⟩
    · exact ⟨some t, h⟩
  · obtain ⟨cell, h1, h2, h3, h4, h5, h6, h7⟩ := v4
    have hbt : ∀ j : Nat, j < 12 → (([[110, 111, 117, 110, 118, 101, 114, 98, 109, 97, 114, 107]].getD 0 []).getD j 0 : Int32) = iZ (ztxt j) := by decide +kernel
    exact ⟨cell, h1, h2, h3, h4, h5, fun j hj => (h6 j hj).trans (congrArg (fun v => some (Value.int v)) (hbt j hj)), h7⟩
  · have he : (fun j => iZ ((fun j => (xs j).toInt) j)) = xs := by funext j; exact iZ_of (xs j)
    rw [he]
    exact hX
set_option maxHeartbeats 8000000 in
set_option maxRecDepth 100000 in
theorem whole_start {p : Program} {e : Env} {s : State} {m : MethodId} {below : List Frame} {meth : Method} {c : Code} (l : Launch) (hflags : l.flags = flags0) {b L : Nat} {xs : Nat → Int32} (hL : L ≤ 2048) (C0 : lw_At p s m meth c b L xs) : W p l e room_1 s m #[Value.ref b] below meth c s.heap [] 0 0 (lw_Z below #[Value.ref b] s) (entryFrame m ([Value.ref b] : List Value).toArray 4) := by
  obtain ⟨hx, hb, hr, hml, hown, hts, hX, hbl, hlocks, hgv⟩ := id C0
  have hzt : ∀ w ∈ zTs, w.before #[Value.ref b] s = true := fun w h => hts w (zTs_tbl h)
  obtain ⟨aR, aS, aV, hEs⟩ := law_ext hts hX hbl hgv
  obtain ⟨c0, i0, k0⟩ := u_known (C := RX0) (T := TX0) (N := 5) (n := 5) hzt inX0z (hzt _ ia_X0)
  obtain ⟨c1, i1, k1⟩ := u_known (C := RX1) (T := TX1) (N := 5) (n := 5) hzt inX1z (hzt _ ia_X1)
  obtain ⟨c2, i2, k2⟩ := u_known (C := RX2) (T := TX2) (N := 11) (n := 11) hzt inX2z (hzt _ ia_X2)
  obtain ⟨c3, i3, k3⟩ := u_known (C := RX3) (T := TX3) (N := 5) (n := 5) hzt inX3z (hzt _ ia_X3)
  obtain ⟨c4, i4, k4⟩ := u_known (C := RX4) (T := TX4) (N := 4) (n := 4) hzt inX4z (hzt _ ia_X4)
  obtain ⟨c5, i5, k5⟩ := u_known (C := RX5) (T := TX5) (N := 2) (n := 2) hzt inX5z (hzt _ ia_X5)
  obtain ⟨c6, i6, k6⟩ := u_known (C := RX6) (T := TX6) (N := 8) (n := 8) hzt inX6z (hzt _ ia_X6)
  obtain ⟨c7, i7, k7⟩ := u_known (C := RX7) (T := TX7) (N := 28) (n := 28) hzt inX7z (hzt _ ia_X7)
  obtain ⟨D, hKc⟩ : ∃ D : va_G, ∀ (k : Nat) (q : vw_C), vwCl[k]? = some q → u_Kn s q.1 q.2.1 q.2.2 (D.1 k) (D.2 k) := by
    refine ⟨(fun k => [c0, c1, c2, c3, c4, c5, c6, c7].getD k c0, fun k => [i0, i1, i2, i3, i4, i5, i6, i7].getD k i0), ?_⟩
    intro k q hq
    match k, hq with
    | 0, hq => cases hq; exact k0
    | 1, hq => cases hq; exact k1
    | 2, hq => cases hq; exact k2
    | 3, hq => cases hq; exact k3
    | 4, hq => cases hq; exact k4
    | 5, hq => cases hq; exact k5
    | 6, hq => cases hq; exact k6
    | 7, hq => cases hq; exact k7
    | k + 8, hq => simp [vwCl] at hq
  obtain ⟨cI, kI, pI, eI1, eI2, eI3⟩ := Cond.arrayClass_spec (hzt _ ac_Jvm_ClassFile_FieldType_int)
  obtain ⟨cZ, kZ, pZ, eZ1, eZ2, eZ3⟩ := Cond.arrayClass_spec (hzt _ ac_Jvm_ClassFile_FieldType_boolean)
  obtain ⟨pO, cO, kO, eO1, eO2, eO3, eO4, eO5⟩ := Cond.arrayOver_spec (hts (Cond.arrayOver (.object "CutLetters$Book")) (List.mem_of_getElem? (i := 148) (by decide +kernel)))
  have hK : va_K D vwCl (zty (cI, cZ, cO)) s := by
    refine ⟨hKc, fun k q hq => ?_⟩
    match k, hq with
    | 0, hq => cases hq; exact ⟨fun n z => ⟨fun k h => (by cases h), kI, eI2, pI, eI3⟩, eI1⟩
    | 1, hq => cases hq; exact ⟨fun n z => ⟨fun k h => (by cases h), kZ, eZ2, pZ, eZ3⟩, eZ1⟩
    | 2, hq => cases hq; exact ⟨fun n z => ⟨fun k h => (by cases h), kO, eO3, pO, eO4⟩, kO, pO, eO3, eO4, eO1, eO5⟩
    | k + 3, hq => simp [zty] at hq
  rw [lg_entry_eq]
  refine law_first (D := D) (k := (cI, cZ, cO)) hL (fun j => zR_of (xs j)) (Z := zS p l e room_1 s m #[Value.ref b] below meth c (lw_Z below #[Value.ref b] s) (fun q : Nat => s.heap.size ≤ q) D (cI, cZ, cO) 4 [])
    ⟨p, e, s, m, #[Value.ref b], below, meth, c, lw_Z below #[Value.ref b] s, fun q : Nat => s.heap.size ≤ q, hx, hb, hml, hown, hzt, hK, fun q h => h, zEL_ok aR aS aV b L _, hEs, fun h => h.elim, ?_, fun _ _ _ _ _ h => absurd h (Option.some_ne_none _), rfl⟩ s.heap [] _ (fun _ h => by cases h) (fun _ h => by cases h) (fun i v hi => ?_) (List.nil_prefix) (fun k q h => by simp [zw] at h) ⟨fun i j p q h => by simp [zw] at h, fun k q h => by simp [zw] at h⟩ va_S.rf (zL_entry (n := 4) [.inr (some b)] (Nat.le_of_ble_eq_true rfl))
  · intro H locs ls pc z ws _ hd rz rw0 ra hPR hP1 hD1 hS1
    subst hPR
    rw [show iZ 1 = 1 by decide +kernel]
    refine va_forget (fun q hq => hS1.2.2 q hq) ?_
    exact lw_ret hx hb hr hlocks hd
  · have h2 : ([.inr (some b)] : List zV)[i]? = some v := zlv_at (n := 4) hi
    have h3 := List.mem_of_getElem? h2
    rw [List.mem_singleton.mp h3]
    trivial
set_option maxHeartbeats 4000000 in
theorem lw_walk (l : Launch) (hflags : l.flags = flags0) (b : Addr) (xs : List Int32) : MetFree l x (headSpec (Jvm.Cond.code x code maxLocals ret :: tables_1) room_1) (lw_P b xs) (fun _ _ _ _ _ => True) lw_Q := by
  refine MetFree.of_bodyS (code := code) (maxLocals := maxLocals) (ret := ret) (by decide) ?_ ?_
  · intro args s m h hn
    obtain ⟨meth, c, h1, h2, h3, h4, h5, h6, -, -⟩ := Cond.code_spec hn (atoms_spec (ws := Jvm.Cond.code x code maxLocals ret :: tables_1) h _ List.mem_cons_self)
    exact ⟨meth, c, h1, h2, h3, h4, h5, h6⟩
  · intro p e s m args below meth c s₁ B hml0 hP _
    obtain ⟨rfl, hx, hbd, hgv⟩ := hP
    obtain ⟨scr, harrAt, hlist, hof, hsmall⟩ := hx
    obtain ⟨hcb, hkn, -, -⟩ := State.arrayAt?_spec harrAt
    have hown : s.vm.findClass R_law = some m.cls := findClass_of_methodNamed B.named
    have hts0 : ∀ c ∈ (Jvm.Cond.code x code maxLocals ret :: tables_1), c.before #[Value.ref b] s = true := atoms_spec (ws := Jvm.Cond.code x code maxLocals ret :: tables_1) B.pre
    have hts : ∀ w ∈ lw_tbl, w.before #[Value.ref b] s = true := k2_hts_sels lw_privs (fun w hw => hts0 w (List.mem_cons_of_mem _ hw)) lw_privs_ok
    have hml : c.maxLocals = 4 := B.maxLocals_eq (hts0 _ List.mem_cons_self)
    have X₀ : Stand p l e room_1 s m #[Value.ref b] below meth c s₁ [] 0 0 := Stand.of_body B
    have hh0 : s₁.heap = s.heap := by rw [B.state]; rfl
    have hsz : scr.slots.size = xs.length := by rw [← Array.length_toList, hlist, List.length_map]
    have hval : ∀ j : Nat, j < xs.length → scr.slots[j]? = some (.int (xs.getD j 0)) := fun j hj => by
      rw [← Array.getElem?_toList, hlist]
      simp [hj]
    have hbl : b < s.heap.size := (Array.getElem?_eq_some_iff.mp hcb).1
    have hX : va_X b xs.length (fun j => xs.getD j 0) s s.heap := ⟨scr, hcb, hof, hkn, hsz, hval⟩
    have K : W p l e room_1 s m #[Value.ref b] below meth c s₁.heap [] 0 0 (lw_Z below #[Value.ref b] s) (entryFrame m ([Value.ref b] : List Value).toArray 4) := by
      rw [hh0]
      exact whole_start l hflags hbd ⟨B.exec, B.bytes, B.returns, hml, hown, hts, hX, hbl, B.notSynchronized, hgv⟩
    obtain ⟨t, a1, o, b1, b2, b3⟩ := K s₁ rfl X₀
    exact ⟨t, o, a1, b1, b2, b3⟩
theorem lw_pre_spec {args : Array Value} {s : State} (h : (Jvm.Cond.and given_1 narrow_1).before args s = true) (hr : rest_1_c.before args s = true) : ∃ (b : Addr) (xs : List Int32), lw_P b xs args s := by
  have hs := flat_of_before _ h
  have hq := flat_of_before _ hr
  have hc : (Cond.count 1).before args s = true := hs _ (by decide +kernel)
  have harr : (Cond.arrayOf (.arg 0) .int).before args s = true := hs _ (by decide +kernel)
  have hle : (Cond.le (.length (.arg 0)) (.int 2048)).before args s = true := hs _ (by decide +kernel)
  have hlen : (Cond.isInt (.length (.arg 0))).before args s = true := hq _ (by decide +kernel)
  have hall : (Cond.all (.arg 0) (.isInt (.elem (.arg 0) (.index 0)))).before args s = true := hq _ (by decide +kernel)
  obtain ⟨b, xs, hb, hx⟩ := State.ints_of_pre rfl harr hlen hall
  have hsm : xs.length < 2 ^ 31 := hx.choose_spec.2.2.2
  have hev : (Term.length (.arg 0)).eval args s none [] s = some (.int xs.length.toInt32) := hx.length_eval hb
  have hv := Cond.le_ints hev (show (Term.int 2048).eval args s none [] s = some (.int 2048) from rfl)
  have hd : xs.length.toInt32 ≤ 2048 := by
    simpa [Cond.before, Cond.holds, hv] using hle
  have hN : xs.length ≤ 2048 := (Int32.ofNat_le_ofNat hsm (by decide)).mp (show Int32.ofNat xs.length ≤ Int32.ofNat 2048 from hd)
  exact ⟨b, xs, Cond.one_arg hc (show args[0]? = some (.ref b) from hb), hx, hN, h⟩
theorem lw_comes (l : Launch) (hflags : l.flags = flags0) : Comes l x (Jvm.Cond.code x code maxLocals ret :: tables_1) room_1 (fun tb e args s => Calls_1 tb e args s ∧ rest_1 tb e args s ∧ Pre_1 tb e args s)
    (fun _ _ args s o t => lw_Q args s o t) := by
  intro p e ha hc hk s m args below hf hfit hheap happ hpre
  obtain ⟨b, xs, hP⟩ := lw_pre_spec hpre.2.2 hpre.2.1
  obtain ⟨k, o, h1, h2, h3, hQ⟩ := lw_walk l hflags b xs p e ha hc hk s m args below hf ((Spec.applies_iff_loose hf).mp happ).1 hP trivial
  exact ⟨k, o, h1, h2, h3, hQ⟩
theorem lw_frame {s t : State} {o : Outcome} {args : Array Value} (h : Framed s o t [] 600000 7302250) :
    Framed s o t (fieldLocs frame_1_writes args s ++ arrayLocs frame_1_arrays args s ++ staticLocs frame_1_statics s) 600000 7302250 := h
theorem lw_limb (L : Cond) (hL : ∀ (args : Array Value) (s t : State), L.after args s (.returned (some (.int 1))) t = true) :
    ArmFor flags0 classFile x code maxLocals ret World_1 tables_1 room_1 Calls_1 rest_1 Pre_1
      (fun tb e a s o t => postC L tb e a s o t ∧ Framed s o t (fieldLocs frame_1_writes a s ++ arrayLocs frame_1_arrays a s ++ staticLocs frame_1_statics s) 600000 7302250) := by
  intro l hflags _ _ p e ha hc hk s m args below hf hfit hheap happ hpre
  obtain ⟨k, o, h1, h2, h3, rfl, hF⟩ := lw_comes l hflags p e ha hc hk s m args below hf hfit hheap happ hpre
  exact ⟨k, _, h1, h2, h3, hL args s _, lw_frame hF⟩
theorem i_vc : Claimed_1_1 ∧ Claimed_1_2 := ⟨lw_limb limb_1_1 (fun args s t => by simp [limb_1_1, Cond.after, Cond.holds, Cond.value]), lw_limb limb_1_2 (fun args s t => Cond.after_iff.mpr (by
  first | (rw [show limb_1_2 = Cond.eq .result (.int 1) from rfl, Cond.eq_ints (x := 1) (y := 1) rfl rfl]; simp; done) | (simp [limb_1_2, Cond.value, Term.eval]; done)))⟩
