/-! both sides' answers over the net are the same -/
def AE (ll cnt : Int) (pl ln kd cs fi jo pl2 ln2 kd2 cs2 fi2 jo2 : Nat → Int) : Prop := (∀ i : Nat, (i : Int) < cnt → pl i = pl2 i ∧ ln i = ln2 i ∧ kd i = kd2 i ∧ cs i = cs2 i) ∧ (∀ p : Nat, (p : Int) ≤ ll → fi p = fi2 p) ∧ ∀ j : Nat, j < 25 → jo j = jo2 j
theorem RW.arr {ll cnt : Int} {pl ln kd cs fi jo pl2 ln2 kd2 cs2 fi2 jo2 rw rc rn : Nat → Int} (hG : GN ll cnt pl ln kd cs fi) (e : AE ll cnt pl ln kd cs fi jo pl2 ln2 kd2 cs2 fi2 jo2) (h : RW ll cnt pl2 ln2 kd2 cs2 fi2 jo2 rw rc rn 0) : RW ll cnt pl ln kd cs fi jo rw rc rn 0 := by
  obtain ⟨ea, ef, ej⟩ := e
  intro x h1 h2
  obtain ⟨a1, a2, a3⟩ := h x h1 h2
  obtain ⟨e1, e2, e3, e4⟩ := ea x h2
  have hx := hG.2.1 x h2
  refine ⟨a1, fun r hr => by rw [e1]; exact a2 r hr, ?_⟩
  rcases a3 with ⟨b1, b2, b3, b4⟩ | ⟨b1, b2, b3, b4⟩
  · refine Or.inl ⟨by omega, b2, ?_, b4⟩
    rw [b3, e3, e4, ej _ (by omega)]
  · refine Or.inr ⟨by omega, b2, ?_⟩
    have hcm : ∀ v, CM kd2 jo2 rw rc (5 * kd2 x) (fi2 (pl2 x + ln2 x).toNat) (fi2 (pl2 x + ln2 x + 1).toNat) 0 v ↔ CM kd jo rw rc (5 * kd x) (fi (pl x + ln x).toNat) (fi (pl x + ln x + 1).toNat) 0 v := by
      intro v
      rw [← e1, ← e2, ← e3, ← ef (pl x + ln x).toNat (by omega), ← ef (pl x + ln x + 1).toNat (by omega)]
      constructor
      · rintro ⟨i, s, i1, i2, i3, i4⟩
        obtain ⟨g1, g2, g3⟩ := hG.next h2 (by omega) i1 (by omega)
        have hi := hG.2.1 i g1
        have hk := (ea i g1).2.2.1
        exact ⟨i, s, i1, i2, i3, by rw [hk, ej _ (by omega)]; exact i4⟩
      · rintro ⟨i, s, i1, i2, i3, i4⟩
        obtain ⟨g1, g2, g3⟩ := hG.next h2 (by omega) i1 (by omega)
        have hi := hG.2.1 i g1
        have hk := (ea i g1).2.2.1
        exact ⟨i, s, i1, i2, i3, by rw [← hk, ← ej _ (by omega)]; exact i4⟩
    have hc := TP.cast ⟨b3, b4⟩ hcm
    exact hc.1.ext hc.2 rfl (fun r hr => by unfold rf; rw [e4])
theorem AH.arr {ll cnt : Int} {pl ln kd cs fi jo pl2 ln2 kd2 cs2 fi2 jo2 A : Nat → Int} (hG : GN ll cnt pl ln kd cs fi) (e : AE ll cnt pl ln kd cs fi jo pl2 ln2 kd2 cs2 fi2 jo2) {y : Nat} (hy : (y : Int) < cnt) (h : AH pl2 ln2 kd2 cs2 jo2 A y y) : AH pl ln kd cs jo A y y := by
  obtain ⟨ea, ef, ej⟩ := e
  obtain ⟨e1, e2, e3, e4⟩ := ea y hy
  have hg := hG.2.1 y hy
  have hs : ∀ c, AS pl2 ln2 kd2 cs2 jo2 A y y c ↔ AS pl ln kd cs jo A y y c := by
    intro c
    constructor
    · rintro (⟨q1, q2⟩ | ⟨z, z1, z2, z3, z4⟩)
      · exact Or.inl ⟨by omega, by rw [q2, e3, e4, ej _ (by omega)]⟩
      · obtain ⟨d1, d2, d3, d4⟩ := ea z (by omega)
        have hz := hG.2.1 z (by omega)
        exact Or.inr ⟨z, z1, by omega, z3, by rw [z4, e3, e4, d3, ej _ (by omega)]⟩
    · rintro (⟨q1, q2⟩ | ⟨z, z1, z2, z3, z4⟩)
      · exact Or.inl ⟨by omega, by rw [q2, ← e3, ← e4, ej _ (by omega)]⟩
      · obtain ⟨d1, d2, d3, d4⟩ := ea z (by omega)
        have hz := hG.2.1 z (by omega)
        exact Or.inr ⟨z, z1, by omega, z3, by rw [z4, ← e3, ← e4, ← d3, ej _ (by omega)]⟩
  rcases h with ⟨h1, h2⟩ | ⟨h1, h2, h3, h4⟩
  · exact Or.inl ⟨h1, fun c hc => h2 c ((hs c).mpr hc)⟩
  · exact Or.inr ⟨h1, (hs _).mp h2, fun c hc => h3 c ((hs c).mpr hc), by omega⟩
theorem CM.arr {ll cnt : Int} {pl ln kd cs fi jo pl2 ln2 kd2 cs2 fi2 jo2 rw rc : Nat → Int} (hG : GN ll cnt pl ln kd cs fi) (e : AE ll cnt pl ln kd cs fi jo pl2 ln2 kd2 cs2 fi2 jo2) (hl : 1 ≤ ll) : CM kd2 jo2 rw rc 20 (fi2 0) (fi2 1) 0 = CM kd jo rw rc 20 (fi 0) (fi 1) 0 := by
  obtain ⟨ea, ef, ej⟩ := e
  funext v
  rw [← ef 0 (by omega), ← ef 1 (by omega)]
  refine propext ⟨?_, ?_⟩
  · rintro ⟨i, s, i1, i2, i3, i4⟩
    obtain ⟨g1, g2⟩ := hG.in_ (p := 0) (by omega) i1 (by show (i : Int) < fi 1; omega)
    have hi := hG.2.1 i g1
    have hk := (ea i g1).2.2.1
    exact ⟨i, s, i1, i2, i3, by rw [hk, ej _ (by omega)]; exact i4⟩
  · rintro ⟨i, s, i1, i2, i3, i4⟩
    obtain ⟨g1, g2⟩ := hG.in_ (p := 0) (by omega) i1 (by show (i : Int) < fi 1; omega)
    have hi := hG.2.1 i g1
    have hk := (ea i g1).2.2.1
    exact ⟨i, s, i1, i2, i3, by rw [← hk, ← ej _ (by omega)]; exact i4⟩
theorem WX.arr {ll cnt : Int} {pl ln pl2 ln2 X : Nat → Int} (e : ∀ i : Nat, (i : Int) < cnt → pl i = pl2 i ∧ ln i = ln2 i) (h : WX ll cnt pl2 ln2 X) : WX ll cnt pl ln X := by
  intro q hq
  rw [sm_eq (g := fun i => if pl2 i + ln2 i = (q : Int) then X (pl2 i).toNat else 0) cnt.toNat (fun i hi => by rw [(e i (by omega)).1, (e i (by omega)).2])]
  exact h q hq
section NSAME
variable {pco dc bll nll ncn wct ns rs wd ln1 my : Int} {dle dki dco bjo bru npl nle nki nco nfi njo kct kke kfo dlt bli nwd kbf : Nat → Int} {mle msz mkd mco mjo mru mli mpl mln mso mpr mof mbg mrw mrc mrn : Nat → Int}
theorem net_same (hC : CI pco dc dle dki dco bjo bru bll nll ncn npl nle nki nco nfi njo kct kke kfo wct ns dlt bli nwd kbf rs) (hn : ns ≠ 0) (hM : NS (PK wd mle msz mkd mco mru mli ln1) ln1 my mpl mln mso mpr mof mbg) (d : DQ dc dlt dle dki dco wd mle msz mkd mco) (hj : ∀ j : Nat, j < 25 → bjo j = mjo j) (hr : ∀ j : Nat, j < 4 → bru j = mru j) (l1 : bll = ln1) (l2 : ∀ j : Nat, (j : Int) < bll → bli j = mli j) : GN bll ncn npl nle nki nco nfi ∧ JB njo ∧ ncn = my ∧ AE bll ncn npl nle nki nco nfi njo mpl mln mso mpr mbg mjo ∧ ∀ i : Nat, (i : Int) < ncn → nwd i = mof i := by
  obtain ⟨h1, h2, h3, h4, h5, h6, h7, h8⟩ := hC
  obtain ⟨g1, g2, g3, g4⟩ := h7 hn
  have hq : PK dc dlt dle dki dco bru bli bll = PK wd mle msz mkd mco mru mli ln1 := BS.q ⟨d, hr, l1, l2⟩
  subst l1
  rw [← hq] at hM
  obtain ⟨s1, s2, s3⟩ := g3.same hM
  refine ⟨NS.gn h2 h3 g3, h4.2.2.1, s1, ⟨fun i hi => ?_, s3, fun j hjj => by rw [g4 j hjj, hj j hjj]⟩, fun i hi => (s2 i hi).2.2.2.2⟩
  obtain ⟨a, b, c, d, -⟩ := s2 i hi
  exact ⟨a, b, c, d⟩
theorem pieces_same {z z2 : Int} (hC : CI pco dc dle dki dco bjo bru bll nll ncn npl nle nki nco nfi njo kct kke kfo wct ns dlt bli nwd kbf rs) (h : zPC bll ncn z ∧ (0 < bll → ns ≠ 0)) (g : zPC ln1 my z2 ∧ (0 < ln1 → NS (PK wd mle msz mkd mco mru mli ln1) ln1 my mpl mln mso mpr mof mbg)) (d : DQ dc dlt dle dki dco wd mle msz mkd mco) (hj : ∀ j : Nat, j < 25 → bjo j = mjo j) (hr : ∀ j : Nat, j < 4 → bru j = mru j) (l1 : bll = ln1) (l2 : ∀ j : Nat, (j : Int) < bll → bli j = mli j) : z = z2 := by
  obtain ⟨h1, h2⟩ := h
  obtain ⟨g1, g2⟩ := g
  unfold zPC at h1 g1
  by_cases e : 0 < bll
  · have := (net_same hC (h2 e) (g2 (by omega)) d hj hr l1 l2).2.2.1
    omega
  · omega
theorem ways_eq {z z2 : Int} (hC : CI pco dc dle dki dco bjo bru bll nll ncn npl nle nki nco nfi njo kct kke kfo wct ns dlt bli nwd kbf rs) (h : zWY bll z (fun z => (0 ≤ z ∧ z < 1000003) ∧ ∃ Y : Nat → Int, z = Y 0 ∧ WY bll ncn npl nle Y) ∧ (0 < bll → ns ≠ 0)) (g : zWY ln1 z2 (fun z => (0 ≤ z ∧ z < 1000003) ∧ ∃ X : Nat → Int, z = X ln1.toNat ∧ WX ln1 my mpl mln X) ∧ (0 < ln1 → NS (PK wd mle msz mkd mco mru mli ln1) ln1 my mpl mln mso mpr mof mbg)) (d : DQ dc dlt dle dki dco wd mle msz mkd mco) (hj : ∀ j : Nat, j < 25 → bjo j = mjo j) (hr : ∀ j : Nat, j < 4 → bru j = mru j) (l1 : bll = ln1) (l2 : ∀ j : Nat, (j : Int) < bll → bli j = mli j) : z = z2 := by
  obtain ⟨h1, h2⟩ := h
  obtain ⟨g1, g2⟩ := g
  rcases h1 with ⟨a1, a2⟩ | ⟨a1, a2, Y, a3, a4⟩ <;> rcases g1 with ⟨b1, b2⟩ | ⟨b1, b2, X, b3, b4⟩
  · omega
  · omega
  · omega
  · obtain ⟨k1, k2, k3, k4, k5⟩ := net_same hC (h2 a1) (g2 b1) d hj hr l1 l2
    subst l1
    subst k3
    have hw := WX.arr (fun i hi => ⟨(k4.1 i hi).1, (k4.1 i hi).2.1⟩) b4
    have := ways_same (by omega) (fun i hi => by have := k1.2.1 i hi; omega) hw a4 (by omega) (by omega)
    omega
theorem piece_same {i what z z2 : Int} (hC : CI pco dc dle dki dco bjo bru bll nll ncn npl nle nki nco nfi njo kct kke kfo wct ns dlt bli nwd kbf rs) (h : zPI bll ncn npl nle nki nco nwd (LEc npl nle nki nco njo kbf kct kke i.toNat) i what z ∧ (0 < bll → ns ≠ 0) ∧ (0 < bll → 0 ≤ i → i < ncn → what = 5 → rs ≠ 0)) (g : zPI ln1 my mpl mln mso mpr mof (LEm mpl mln mso mpr mjo mrw mrc i.toNat) i what z2 ∧ (0 < ln1 → NS (PK wd mle msz mkd mco mru mli ln1) ln1 my mpl mln mso mpr mof mbg ∧ RW ln1 my mpl mln mso mpr mbg mjo mrw mrc mrn 0)) (d : DQ dc dlt dle dki dco wd mle msz mkd mco) (hj : ∀ j : Nat, j < 25 → bjo j = mjo j) (hr : ∀ j : Nat, j < 4 → bru j = mru j) (l1 : bll = ln1) (l2 : ∀ j : Nat, (j : Int) < bll → bli j = mli j) : z = z2 := by
  obtain ⟨h1, h2, h3⟩ := h
  obtain ⟨g1, g2⟩ := g
  have hk := fun e : 0 < bll => net_same hC (h2 e) (g2 (by omega)).1 d hj hr l1 l2
  have hR := fun e : 0 < bll => (g2 (by omega)).2
  subst l1
  refine h1.same g1 (fun e => ?_) (fun e e1 e2 e3 a b => ?_)
  · obtain ⟨k1, k2, k3, k4, k5⟩ := hk e
    refine ⟨k3, fun j hj => ?_⟩
    obtain ⟨a, b, c, d⟩ := k4.1 j hj
    exact ⟨a, b, c, d, k5 j hj⟩
  · obtain ⟨k1, k2, k3, k4, k5⟩ := hk e
    have hr0 := hR e
    subst k3
    have hKW := (hC.2.2.2.2.2.2.2 (h3 e e1 e2 e3)).2
    refine LE.same k1 k2 hKW (RW.arr k1 k4 hr0) (y := i.toNat) (by omega) a ?_
    obtain ⟨A, b0, b1, b2⟩ := b
    exact ⟨A, fun x hx => (b0 x hx).arr k1 k4 (by omega), b1, fun q1 q2 => by rw [b2 q1 q2, (k4.1 i.toNat (by omega)).2.2.2]⟩
/-- what both sides know of a cutting's number -/
theorem code_same {i code : Int} (hC : CI pco dc dle dki dco bjo bru bll nll ncn npl nle nki nco nfi njo kct kke kfo wct ns dlt bli nwd kbf rs) (e : 0 < bll) (hi : 0 ≤ i) (hi2 : i ≤ 11) (hrs : rs ≠ 0) (hM : NS (PK wd mle msz mkd mco mru mli ln1) ln1 my mpl mln mso mpr mof mbg) (hR0 : RW ln1 my mpl mln mso mpr mbg mjo mrw mrc mrn 0) (hct : CT (CM mso mjo mrw mrc 20 (mbg 0) (mbg 1) 0) i code) (d : DQ dc dlt dle dki dco wd mle msz mkd mco) (hj : ∀ j : Nat, j < 25 → bjo j = mjo j) (hr : ∀ j : Nat, j < 4 → bru j = mru j) (l1 : bll = ln1) (l2 : ∀ j : Nat, (j : Int) < bll → bli j = mli j) : (i < kct 4 ↔ 0 ≤ code) ∧ (i < kct 4 → code = kke (48 + i).toNat % 8192 ∧ kke (48 + i).toNat / 8192 = mjo (20 + mso (code / 16).toNat).toNat + mrc (12 * (code / 16) + code % 16).toNat ∧ ∀ n m : Nat, PA (nC bll npl nle nki kke) code n → PA (nM mrn) code m → n = m ∧ ∀ j : Nat, j < n → wk (nC bll npl nle nki kke) code j = wk (nM mrn) code j ∧ VC ncn npl nle nki kbf mrw (wk (nC bll npl nle nki kke) code j)) := by
  obtain ⟨hns, hKW⟩ := hC.2.2.2.2.2.2.2 hrs
  obtain ⟨k1, k2, k3, k4, k5⟩ := net_same hC hns hM d hj hr l1 l2
  have hCB := hC.2.2.2.2.1.1
  subst l1
  subst k3
  have hR := RW.arr k1 k4 hR0
  rw [CM.arr k1 k4 (by omega)] at hct
  obtain ⟨t1, t2⟩ := AG.start (by omega) k1 k2 hKW hR
  obtain ⟨c1, c2⟩ := hct.same hi t1 t2
  have h4 := hCB 4 (by omega)
  refine ⟨⟨fun q => c1.mpr q, fun q => c1.mp q⟩, fun q => ?_⟩
  have e1 : kl kke 4 i.toNat = kke (48 + i).toNat := by
    show kke (12 * 4 + i.toNat) = _
    congr 1; omega
  have ec := c2 q
  have hm := t1.2.2.1 i.toNat (by omega)
  have hf := k1.fi_ (p := 0) (by omega) (by omega)
  have hrw : ∀ x : Nat, (x : Int) < ncn → mrw x ≤ 12 := fun x hx => (hR x (by omega) hx).1.2
  have hat := CM.at hm (fun x h1 h2 => hrw x (by have := hf.2.2; simp at this; omega)) (by have := k1.1; have := hf.2.2; simp at this; omega) (by have := hf.1; simp at this; omega)
  rw [← ec, e1] at hat
  obtain ⟨q1, q2, q3, q4⟩ := hat
  have hvc := CM.vc (q := 0) (k := 4) k1 k2 hKW.1 hrw (by omega) (by omega) (by rw [show 0 * 5 + 4 = 4 from rfl, hKW.1.1]; decide) hm
  rw [← ec] at hvc
  have hy := k1.2.1 (code / 16).toNat (by have := hvc.2.1; have := hvc.1; omega)
  have hkd := (k4.1 (code / 16).toNat (by have := hvc.2.1; have := hvc.1; omega)).2.2.1
  refine ⟨by rw [ec, e1], by rw [q4, ← hkd, k4.2.2 _ (by omega)], fun n m p1 p2 => ?_⟩
  obtain ⟨s1, s2⟩ := PA.same k1 k2 hKW hR hvc p1 p2
  refine ⟨s1, fun j hjn => ⟨s2 j (by omega), ?_⟩⟩
  have := wk_same k1 k2 hKW hR hvc j (fun x hx => p1.1 x (by omega))
  rw [← this.1] at this
  exact this.2 (p1.1 j hjn)
theorem cutting_same {i j z z2 code : Int} (hC : CI pco dc dle dki dco bjo bru bll nll ncn npl nle nki nco nfi njo kct kke kfo wct ns dlt bli nwd kbf rs) (h : zCU bll i j z (i < kct 4) (kke (48 + i).toNat / 8192) (nC bll npl nle nki kke) (kke (48 + i).toNat % 8192) ∧ (0 < bll → 0 ≤ i → i ≤ 11 → -2 ≤ j → rs ≠ 0)) (g : zCU ln1 i j z2 (0 ≤ code) (mjo (20 + mso (code / 16).toNat).toNat + mrc (12 * (code / 16) + code % 16).toNat) (nM mrn) code ∧ (0 < ln1 → 0 ≤ i → i ≤ 11 → -2 ≤ j → NS (PK wd mle msz mkd mco mru mli ln1) ln1 my mpl mln mso mpr mof mbg ∧ RW ln1 my mpl mln mso mpr mbg mjo mrw mrc mrn 0 ∧ CT (CM mso mjo mrw mrc 20 (mbg 0) (mbg 1) 0) i code)) (d : DQ dc dlt dle dki dco wd mle msz mkd mco) (hj : ∀ j : Nat, j < 25 → bjo j = mjo j) (hr : ∀ j : Nat, j < 4 → bru j = mru j) (l1 : bll = ln1) (l2 : ∀ j : Nat, (j : Int) < bll → bli j = mli j) : z = z2 := by
  obtain ⟨h1, h2⟩ := h
  obtain ⟨g1, g2⟩ := g
  rw [← l1] at g1
  refine h1.same g1 (fun e i0 i1 j0 => ?_)
  obtain ⟨g3, g4, g5⟩ := g2 (by omega) i0 i1 j0
  obtain ⟨c1, c2⟩ := code_same hC e i0 i1 (h2 e i0 i1 j0) g3 g4 g5 d hj hr l1 l2
  refine ⟨c1, fun q => ?_⟩
  obtain ⟨d1, d2, d3⟩ := c2 q
  rw [← d1]
  refine ⟨d2, fun n m p1 p2 => ?_⟩
  obtain ⟨f1, f2⟩ := d3 n m p1 p2
  exact ⟨f1, fun k hk => (f2 k hk).1⟩
theorem sign_same {i j z z2 code : Int} (hC : CI pco dc dle dki dco bjo bru bll nll ncn npl nle nki nco nfi njo kct kke kfo wct ns dlt bli nwd kbf rs) (h : zSI bll i j z (i < kct 4) bli npl nle nki (nC bll npl nle nki kke) (kke (48 + i).toNat % 8192) ∧ (0 < bll → 0 ≤ i → i ≤ 11 → rs ≠ 0)) (g : zSI ln1 i j z2 (0 ≤ code) mli mpl mln mso (nM mrn) code ∧ (0 < ln1 → 0 ≤ i → i ≤ 11 → NS (PK wd mle msz mkd mco mru mli ln1) ln1 my mpl mln mso mpr mof mbg ∧ RW ln1 my mpl mln mso mpr mbg mjo mrw mrc mrn 0 ∧ CT (CM mso mjo mrw mrc 20 (mbg 0) (mbg 1) 0) i code)) (d : DQ dc dlt dle dki dco wd mle msz mkd mco) (hj : ∀ j : Nat, j < 25 → bjo j = mjo j) (hr : ∀ j : Nat, j < 4 → bru j = mru j) (l1 : bll = ln1) (l2 : ∀ j : Nat, (j : Int) < bll → bli j = mli j) : z = z2 := by
  obtain ⟨h1, h2⟩ := h
  obtain ⟨g1, g2⟩ := g
  rw [← l1] at g1
  refine h1.same g1 (fun e i0 i1 => ?_)
  obtain ⟨g3, g4, g5⟩ := g2 (by omega) i0 i1
  have hns := (hC.2.2.2.2.2.2.2 (h2 e i0 i1)).1
  obtain ⟨k1, k2, k3, k4, k5⟩ := net_same hC hns g3 d hj hr l1 l2
  obtain ⟨c1, c2⟩ := code_same hC e i0 i1 (h2 e i0 i1) g3 g4 g5 d hj hr l1 l2
  refine ⟨c1, fun q => ?_⟩
  obtain ⟨d1, d2, d3⟩ := c2 q
  rw [← d1]
  intro n m p1 p2
  obtain ⟨f1, f2⟩ := d3 n m p1 p2
  refine ⟨f1, fun k hk => ?_⟩
  obtain ⟨v1, v2⟩ := f2 k hk
  obtain ⟨u1, u2, u3, u4⟩ := v2
  have hy : (((wk (nC bll npl nle nki kke) code k / 16).toNat : Nat) : Int) < ncn := by omega
  have hg := k1.2.1 _ hy
  obtain ⟨a1, a2, a3, a4⟩ := k4.1 _ hy
  exact ⟨v1, a2, a3, a1, hg.2.1, fun t t0 t1 => l2 _ (by omega)⟩
end NSAME
