/-! the reference's rows, one by one -/
theorem RW.keep {ll cnt lo : Int} {pl ln kd cs fi jo rw rc rn rw2 rc2 rn2 : Nat → Int} (hG : GN ll cnt pl ln kd cs fi) (h : RW ll cnt pl ln kd cs fi jo rw rc rn lo) (e : ∀ i : Nat, lo ≤ (i : Int) → rw2 i = rw i ∧ ∀ s : Nat, s < 12 → rc2 (12 * i + s) = rc (12 * i + s) ∧ rn2 (12 * i + s) = rn (12 * i + s)) : RW ll cnt pl ln kd cs fi jo rw2 rc2 rn2 lo := by
  intro x h1 h2
  obtain ⟨a1, a2, a3⟩ := h x h1 h2
  obtain ⟨e1, e2⟩ := e x h1
  refine ⟨by omega, fun r hr => by rw [(e2 r (by omega)).1]; exact a2 r (by omega), ?_⟩
  have e20 := e2 0 (by omega)
  rw [Nat.add_zero] at e20
  rcases a3 with ⟨b1, b2, b3, b4⟩ | ⟨b1, b2, b3, b4⟩
  · exact Or.inl ⟨b1, by omega, by omega, by omega⟩
  · refine Or.inr ⟨b1, fun r hr => by rw [(e2 r (by omega)).2]; exact b2 r (by omega), ?_⟩
    have hx := hG.2.1 x h2
    have hf := hG.fi_ (p := pl x + ln x) (by omega) b1
    have hcm : ∀ v, CM kd jo rw rc (5 * kd x) (fi (pl x + ln x).toNat) (fi (pl x + ln x + 1).toNat) 0 v ↔ CM kd jo rw2 rc2 (5 * kd x) (fi (pl x + ln x).toNat) (fi (pl x + ln x + 1).toNat) 0 v := by
      intro v
      constructor
      · rintro ⟨i, s, i1, i2, i3, i4⟩
        obtain ⟨g1, g2, g3⟩ := hG.next h2 b1 i1 (by omega)
        have := (h i (by omega) g1).1
        obtain ⟨f1, f2⟩ := e i (by omega)
        exact ⟨i, s, i1, i2, by omega, by rw [(f2 s (by omega)).1]; exact i4⟩
      · rintro ⟨i, s, i1, i2, i3, i4⟩
        obtain ⟨g1, g2, g3⟩ := hG.next h2 b1 i1 (by omega)
        have := (h i (by omega) g1).1
        obtain ⟨f1, f2⟩ := e i (by omega)
        exact ⟨i, s, i1, i2, by omega, by rw [← (f2 s (by omega)).1]; exact i4⟩
    have hc := TP.cast ⟨b3, b4⟩ hcm
    refine hc.1.ext hc.2 e1.symm (fun r hr => ?_)
    unfold rf
    rw [(e2 r (by omega)).1, (e2 r (by omega)).2]
/-- the rows of a piece, as far as they have been found -/
def RX (ll : Int) (pl ln kd cs fi jo rw rc rn : Nat → Int) (x : Nat) (lc la : Int) : Prop := TP (CM kd jo rw rc (5 * kd x) (fi (pl x + ln x).toNat) (fi (pl x + ln x + 1).toNat) 0) (rw x) (rf cs rc rn x) ∧ LL (CM kd jo rw rc (5 * kd x) (fi (pl x + ln x).toNat) (fi (pl x + ln x + 1).toNat) 0) (rw x) (rf cs rc rn x) ((lc - cs x) * 8192 + la) ∧ (∀ r : Nat, (r : Int) < rw x → (0 ≤ rc (12 * x + r) ∧ rc (12 * x + r) ≤ 792 * (ll - pl x)) ∧ 0 ≤ rn (12 * x + r) ∧ rn (12 * x + r) < 8192) ∧ -1 ≤ la ∧ la < 8192 ∧ -1 ≤ lc
theorem RX.zero {ll cnt : Int} {pl ln kd cs fi jo rw rc rn : Nat → Int} {x : Nat} (hG : GN ll cnt pl ln kd cs fi) (hJ : JB jo) (hx : (x : Int) < cnt) (he : pl x + ln x < ll) (h : RW ll cnt pl ln kd cs fi jo rw rc rn (x + 1)) : RX ll pl ln kd cs fi jo (zup rw x 0) rc rn x (-1) (-1) := by
  have hx0 := hG.2.1 x hx
  unfold RX
  rw [zup_eq]
  refine ⟨⟨by omega, by omega, fun r hr => by omega, fun r s _ hs => by omega, fun v hv => Or.inr (fun r hr => by omega)⟩, Or.inl ⟨rfl, fun v hv => ?_⟩, fun r hr => by omega, by omega, by omega, by omega⟩
  obtain ⟨i, s, i1, i2, i3, i4⟩ := hv
  obtain ⟨g1, g2, g3⟩ := hG.next hx he i1 (by omega)
  rw [zup_ne (by omega)] at i3
  have hi := (h i (by omega) g1).2.1 s i3
  have hi0 := hG.2.1 i g1
  have hj := hJ (5 * kd x + kd i).toNat (by omega)
  omega
theorem RX.push {ll cnt lc la bc be : Int} {pl ln kd cs fi jo rw rc rn : Nat → Int} {x : Nat} (hG : GN ll cnt pl ln kd cs fi) (hJ : JB jo) (hx : (x : Int) < cnt) (he : pl x + ln x < ll) (hR : RW ll cnt pl ln kd cs fi jo rw rc rn (x + 1)) (h : RX ll pl ln kd cs fi jo rw rc rn x lc la) (hn : rw x < 12) (hb0 : 0 ≤ be) (hb1 : be < 8192) (hs : SL (CM kd jo rw rc (5 * kd x) (fi (pl x + ln x).toNat) (fi (pl x + ln x + 1).toNat) 0) ((lc - cs x) * 8192 + la) be ((bc - cs x) * 8192 + be)) : RX ll pl ln kd cs fi jo (zup rw x (rw x + 1)) (zup rc (12 * x + (rw x).toNat) bc) (zup rn (12 * x + (rw x).toNat) be) x bc be := by
  obtain ⟨a1, a2, a3, a4, a5, a6⟩ := h
  have hx0 := hG.2.1 x hx
  have hrw := a1.1
  rcases hs with ⟨s1, -⟩ | ⟨-, s2, s3, s4⟩
  · omega
  have hbc : 0 ≤ bc ∧ bc ≤ 792 * (ll - pl x) := by
    obtain ⟨i, s, i1, i2, i3, i4⟩ := s2
    obtain ⟨g1, g2, g3⟩ := hG.next hx he i1 (by omega)
    have hi := hR i (by omega) g1
    have hi1 := hi.2.1 s i3
    have hi2 := hi.1
    have hi0 := hG.2.1 i g1
    have hj := hJ (5 * kd x + kd i).toNat (by omega)
    have hc := hG.1
    omega
  have hrc : ∀ r : Nat, (r : Int) < rw x → zup rc (12 * x + (rw x).toNat) bc (12 * x + r) = rc (12 * x + r) := fun r hr => zup_ne (by omega)
  have hrn : ∀ r : Nat, (r : Int) < rw x → zup rn (12 * x + (rw x).toNat) be (12 * x + r) = rn (12 * x + r) := fun r hr => zup_ne (by omega)
  have hcm : ∀ v, CM kd jo rw rc (5 * kd x) (fi (pl x + ln x).toNat) (fi (pl x + ln x + 1).toNat) 0 v ↔ CM kd jo (zup rw x (rw x + 1)) (zup rc (12 * x + (rw x).toNat) bc) (5 * kd x) (fi (pl x + ln x).toNat) (fi (pl x + ln x + 1).toNat) 0 v := by
    intro v
    constructor
    · rintro ⟨i, s, i1, i2, i3, i4⟩
      obtain ⟨g1, g2, g3⟩ := hG.next hx he i1 (by omega)
      have := (hR i (by omega) g1).1
      exact ⟨i, s, i1, i2, by rw [zup_ne (by omega)]; exact i3, by rw [zup_ne (by omega)]; exact i4⟩
    · rintro ⟨i, s, i1, i2, i3, i4⟩
      obtain ⟨g1, g2, g3⟩ := hG.next hx he i1 (by omega)
      have := (hR i (by omega) g1).1
      rw [zup_ne (by omega)] at i3
      rw [zup_ne (by omega)] at i4
      exact ⟨i, s, i1, i2, i3, i4⟩
  have hp := a1.push (g := rf cs (zup rc (12 * x + (rw x).toNat) bc) (zup rn (12 * x + (rw x).toNat) be) x) hn a2 s2 s3 s4 (fun r hr => by unfold rf; rw [hrc r hr, hrn r hr]) (by unfold rf; rw [zup_eq, zup_eq])
  have hcf : CM kd jo rw rc (5 * kd x) (fi (pl x + ln x).toNat) (fi (pl x + ln x + 1).toNat) 0 = CM kd jo (zup rw x (rw x + 1)) (zup rc (12 * x + (rw x).toNat) bc) (5 * kd x) (fi (pl x + ln x).toNat) (fi (pl x + ln x + 1).toNat) 0 := funext (fun v => propext (hcm v))
  rw [hcf] at hp
  unfold RX
  rw [zup_eq]
  refine ⟨hp.1, hp.2, fun r hr => ?_, by omega, hb1, by omega⟩
  by_cases e : r = (rw x).toNat
  · rw [e, zup_eq, zup_eq]; exact ⟨hbc, hb0, hb1⟩
  · rw [hrc r (by omega), hrn r (by omega)]; exact a3 r (by omega)
theorem RX.done {ll cnt lc la : Int} {pl ln kd cs fi jo rw rc rn : Nat → Int} {x : Nat} (he : pl x + ln x < ll) (hR : RW ll cnt pl ln kd cs fi jo rw rc rn (x + 1)) (h : RX ll pl ln kd cs fi jo rw rc rn x lc la) (hf : 12 ≤ rw x ∨ ∀ v, CM kd jo rw rc (5 * kd x) (fi (pl x + ln x).toNat) (fi (pl x + ln x + 1).toNat) 0 v → v ≤ (lc - cs x) * 8192 + la) : RW ll cnt pl ln kd cs fi jo rw rc rn x := by
  intro i h1 h2
  by_cases e : i = x
  · subst e
    obtain ⟨a1, a2, a3, -⟩ := h
    have b1 := a1.1
    have b2 := a1.2.1
    refine ⟨⟨b1, b2⟩, fun r hr => (a3 r hr).1, Or.inr ⟨he, fun r hr => (a3 r hr).2, a1, ?_⟩⟩
    rcases hf with q | q
    · exact Or.inl (by omega)
    · exact a1.end_ a2 q
  · exact hR i (by omega) h2
theorem RW.one {ll cnt v : Int} {pl ln kd cs fi jo rw rc rn : Nat → Int} {x : Nat} (hG : GN ll cnt pl ln kd cs fi) (hJ : JB jo) (hx : (x : Int) < cnt) (he : pl x + ln x = ll) (hR : RW ll cnt pl ln kd cs fi jo rw rc rn (x + 1)) (hv : v = cs x + jo (5 * kd x + 4).toNat) : RW ll cnt pl ln kd cs fi jo (zup (zup rw x 0) x 1) (zup rc (12 * x) v) (zup rn (12 * x) (-6)) x := by
  have hx0 := hG.2.1 x hx
  have hj := hJ (5 * kd x + 4).toNat (by omega)
  have hk := RW.keep hG hR (rw2 := zup (zup rw x 0) x 1) (rc2 := zup rc (12 * x) v) (rn2 := zup rn (12 * x) (-6)) (fun i hi => ⟨by rw [zup_ne (by omega), zup_ne (by omega)], fun s hs => ⟨zup_ne (by omega), zup_ne (by omega)⟩⟩)
  intro i h1 h2
  by_cases e : i = x
  · subst e
    unfold RW1
    rw [zup_eq]
    refine ⟨by omega, fun r hr => ?_, Or.inl ⟨he, rfl, by rw [zup_eq]; exact hv, zup_eq⟩⟩
    rw [show 12 * i + r = 12 * i by omega, zup_eq]
    omega
  · exact hk i (by omega) h2
theorem RW.clear {ll cnt : Int} {pl ln kd cs fi jo rw rc rn : Nat → Int} {x : Nat} (hG : GN ll cnt pl ln kd cs fi) (hR : RW ll cnt pl ln kd cs fi jo rw rc rn (x + 1)) : RW ll cnt pl ln kd cs fi jo (zup rw x 0) rc rn (x + 1) := RW.keep hG hR (fun i hi => ⟨zup_ne (by omega), fun s hs => ⟨rfl, rfl⟩⟩)
theorem RW.put {ll cnt a b c : Int} {pl ln kd cs fi jo rw rc rn : Nat → Int} {x k : Nat} (hG : GN ll cnt pl ln kd cs fi) (hR : RW ll cnt pl ln kd cs fi jo rw rc rn (x + 1)) (hk : 12 * x ≤ k ∧ k < 12 * x + 12) : RW ll cnt pl ln kd cs fi jo (zup rw x a) (zup rc k b) (zup rn k c) (x + 1) := RW.keep hG hR (fun i hi => ⟨zup_ne (by omega), fun s hs => ⟨zup_ne (by omega), zup_ne (by omega)⟩⟩)
theorem CM.at {kd jo rw rc : Nat → Int} {k5 lo y v : Int} (h : CM kd jo rw rc k5 lo y 0 v) (hr : ∀ i : Nat, lo ≤ (i : Int) → (i : Int) < y → rw i ≤ 12) (hy : y ≤ 480) (hl : 0 ≤ lo) : lo ≤ v % 8192 / 16 ∧ v % 8192 / 16 < y ∧ v % 8192 % 16 < rw (v % 8192 / 16).toNat ∧ v / 8192 = jo (k5 + kd (v % 8192 / 16).toNat).toNat + rc (12 * (v % 8192 / 16) + v % 8192 % 16).toNat := by
  obtain ⟨i, s, h1, h2, h3, h4⟩ := h
  have h2 : (i : Int) < y := by omega
  have := hr i h1 h2
  have e1 : v % 8192 = 16 * i + s := by omega
  have e2 : (16 * (i : Int) + s) / 16 = i := by omega
  have e3 : (16 * (i : Int) + s) % 16 = s := by omega
  rw [e1, e2, e3, show ((i : Int)).toNat = i by omega, show (12 * (i : Int) + s).toNat = 12 * i + s by omega]
  exact ⟨h1, h2, h3, by omega⟩
/-- a cutting's number gives its first piece and rank -/
def CT (C : Int → Prop) (i z : Int) : Prop := (z = -6 ∧ ∃ (f : Nat → Int) (n : Int), n ≤ i ∧ TP C n f ∧ TF C n f) ∨ (0 ≤ z ∧ ∃ f : Nat → Int, TP C (i + 1) f ∧ f i.toNat % 8192 = z)
theorem CT.same {C : Int → Prop} {i z n : Int} {g : Nat → Int} (h : CT C i z) (hi : 0 ≤ i) (k : TP C n g) (kf : TF C n g) : (0 ≤ z ↔ i < n) ∧ (i < n → z = g i.toNat % 8192) := by
  rcases h with ⟨h1, f, m, h2, h3, h4⟩ | ⟨h1, f, h2, h3⟩
  · have := (h3.same h4 k kf).1
    exact ⟨⟨fun q => by omega, fun q => by omega⟩, fun q => by omega⟩
  · have a := k.le kf h2
    have b := h2.eq k i.toNat (by omega) (by omega)
    exact ⟨⟨fun _ => by omega, fun _ => h1⟩, fun _ => by omega⟩
-- answers
def zPC (ll cnt z : Int) : Prop := (ll ≤ 0 ∧ z = -5) ∨ (0 < ll ∧ z = cnt)
def zPI (ll cnt : Int) (pl ln kd cs wd : Nat → Int) (LE : Int → Prop) (i what z : Int) : Prop := (ll ≤ 0 ∧ z = -5) ∨ (0 < ll ∧ ((¬ (0 ≤ i ∧ i < cnt) ∧ z = -1) ∨ (0 ≤ i ∧ i < cnt ∧ (what = 0 → z = pl i.toNat) ∧ (what = 1 → z = ln i.toNat) ∧ (what = 2 → z = kd i.toNat) ∧ (what = 3 → z = cs i.toNat) ∧ (what = 4 → z = wd i.toNat) ∧ (what = 5 → LE z) ∧ (what < 0 ∨ 5 < what → z = -2))))
theorem zPI.same {ll cnt cnt2 i what z z2 : Int} {pl ln kd cs wd pl2 ln2 kd2 cs2 wd2 : Nat → Int} {LE LE2 : Int → Prop} (h : zPI ll cnt pl ln kd cs wd LE i what z) (g : zPI ll cnt2 pl2 ln2 kd2 cs2 wd2 LE2 i what z2) (e : 0 < ll → cnt = cnt2 ∧ ∀ j : Nat, (j : Int) < cnt → pl j = pl2 j ∧ ln j = ln2 j ∧ kd j = kd2 j ∧ cs j = cs2 j ∧ wd j = wd2 j) (el : 0 < ll → 0 ≤ i → i < cnt → what = 5 → LE z → LE2 z2 → z = z2) : z = z2 := by
  rcases h with ⟨h1, h2⟩ | ⟨h1, h2⟩ <;> rcases g with ⟨g1, g2⟩ | ⟨g1, g2⟩
  · omega
  · omega
  · omega
  · obtain ⟨e1, e2⟩ := e h1
    rcases h2 with ⟨a1, a2⟩ | ⟨a1, a2, a3, a4, a5, a6, a7, a8, a9⟩ <;> rcases g2 with ⟨b1, b2⟩ | ⟨b1, b2, b3, b4, b5, b6, b7, b8, b9⟩
    · omega
    · omega
    · omega
    · obtain ⟨d1, d2, d3, d4, d5⟩ := e2 i.toNat (by omega)
      by_cases q0 : what = 0
      · rw [a3 q0, b3 q0, d1]
      by_cases q1 : what = 1
      · rw [a4 q1, b4 q1, d2]
      by_cases q2 : what = 2
      · rw [a5 q2, b5 q2, d3]
      by_cases q3 : what = 3
      · rw [a6 q3, b6 q3, d4]
      by_cases q4 : what = 4
      · rw [a7 q4, b7 q4, d5]
      by_cases q5 : what = 5
      · exact el h1 a1 a2 q5 (a8 q5) (b8 q5)
      · rw [a9 (by omega), b9 (by omega)]
def LEc (pl ln kd cs jo bf ct ke : Nat → Int) (y : Nat) (z : Int) : Prop := (1000000 ≤ lu pl kd cs bf jo y ∨ ct (sb pl ln kd y) = 0 → z = -6) ∧ (lu pl kd cs bf jo y < 1000000 → ct (sb pl ln kd y) ≠ 0 → z = lu pl kd cs bf jo y + ke (12 * sb pl ln kd y) / 8192)
def LEm (pl ln kd cs jo rw rc : Nat → Int) (y : Nat) (z : Int) : Prop := ∃ A : Nat → Int, (∀ x : Nat, x ≤ y → AH pl ln kd cs jo A x x) ∧ (A y < 0 ∨ rw y = 0 → z = -6) ∧ (0 ≤ A y → rw y ≠ 0 → z = A y + rc (12 * y) - cs y)
theorem LE.same {ll cnt z z2 : Int} {pl ln kd cs fi jo bf ct ke rw rc rn : Nat → Int} {y : Nat} (hG : GN ll cnt pl ln kd cs fi) (hJ : JB jo) (hK : KW ll cnt pl ln kd cs fi jo bf ct ke) (hR : RW ll cnt pl ln kd cs fi jo rw rc rn 0) (hy : (y : Int) < cnt) (h : LEc pl ln kd cs jo bf ct ke y z) (g : LEm pl ln kd cs jo rw rc y z2) : z = z2 := by
  obtain ⟨h1, h2⟩ := h
  obtain ⟨A, g0, g1, g2⟩ := g
  obtain ⟨l1, l2⟩ := LA hG hJ hK.1 (hi := y + 1) (by omega) (fun x hx => g0 x (by omega)) y (by omega)
  by_cases q : 0 ≤ A y
  · have q1 := l1.mp q
    have q2 := l2 q
    have q3 := hK.1.2.2.1 y hy
    obtain ⟨a1, a2⟩ := AG.at hG hJ hK hR hy (by omega)
    have hr := (hR y (by omega) hy).1
    by_cases e : rw y = 0
    · rw [h1 (Or.inr (by omega)), g1 (Or.inr e)]
    · have b1 := (a2 0 (by omega)).1
      rw [Nat.add_zero, Nat.add_zero] at b1
      rw [h2 q1 (by omega), g2 q e, b1]
      omega
  · have q1 : ¬ lu pl kd cs bf jo y < 1000000 := fun w => q (l1.mpr w)
    rw [h1 (Or.inl (by omega)), g1 (Or.inl (by omega))]
def zCU (ll i j z : Int) (P : Prop) (co : Int) (N : Int → Int) (c0 : Int) : Prop := (ll ≤ 0 ∧ z = -5) ∨ (0 < ll ∧ ((¬ (0 ≤ i ∧ i ≤ 11) ∧ z = -1) ∨ (0 ≤ i ∧ i ≤ 11 ∧ ((j < -2 ∧ z = -2) ∨ (-2 ≤ j ∧ ((¬ P ∧ z = -6) ∨ (P ∧ (j = -1 → z = co) ∧ (j ≠ -1 → ∃ n : Nat, PA N c0 n ∧ (j = -2 → z = n) ∧ (0 ≤ j → j < n → z = wk N c0 j.toNat / 16) ∧ ((n : Int) ≤ j → z = -6)))))))))
theorem zCU.same {ll i j z z2 co co2 c0 c1 : Int} {P P2 : Prop} {N N2 : Int → Int} (h : zCU ll i j z P co N c0) (g : zCU ll i j z2 P2 co2 N2 c1) (e : 0 < ll → 0 ≤ i → i ≤ 11 → -2 ≤ j → (P ↔ P2) ∧ (P → co = co2 ∧ ∀ n m : Nat, PA N c0 n → PA N2 c1 m → n = m ∧ ∀ k : Nat, k < n → wk N c0 k = wk N2 c1 k)) : z = z2 := by
  rcases h with ⟨h1, h2⟩ | ⟨h1, h2⟩ <;> rcases g with ⟨g1, g2⟩ | ⟨g1, g2⟩
  · omega
  · clear g2; omega
  · clear h2; omega
  · rcases h2 with ⟨a1, a2⟩ | ⟨a1, a2, a3⟩ <;> rcases g2 with ⟨b1, b2⟩ | ⟨b1, b2, b3⟩
    · omega
    · exact absurd ⟨b1, b2⟩ a1
    · exact absurd ⟨a1, a2⟩ b1
    · rcases a3 with ⟨a3, a4⟩ | ⟨a3, a4⟩ <;> rcases b3 with ⟨b3, b4⟩ | ⟨b3, b4⟩
      · omega
      · clear b4; omega
      · clear a4; omega
      · obtain ⟨e1, e2⟩ := e h1 a1 a2 a3
        rcases a4 with ⟨a4, a5⟩ | ⟨a4, a5, a6⟩ <;> rcases b4 with ⟨b4, b5⟩ | ⟨b4, b5, b6⟩
        · omega
        · exact absurd (e1.mpr b4) a4
        · exact absurd (e1.mp a4) b4
        · obtain ⟨e3, e4⟩ := e2 a4
          by_cases q : j = -1
          · rw [a5 q, b5 q, e3]
          · obtain ⟨n, n1, n2, n3, n4⟩ := a6 q
            obtain ⟨m, m1, m2, m3, m4⟩ := b6 q
            obtain ⟨f1, f2⟩ := e4 n m n1 m1
            subst f1
            by_cases q2 : j = -2
            · rw [n2 q2, m2 q2]
            · by_cases q3 : j < n
              · rw [n3 (by omega) q3, m3 (by omega) q3, f2 _ (by omega)]
              · rw [n4 (by omega), m4 (by omega)]
def zSI (ll i j z : Int) (P : Prop) (li pl ln kd : Nat → Int) (N : Int → Int) (c0 : Int) : Prop := (ll ≤ 0 ∧ z = -5) ∨ (0 < ll ∧ ((¬ (0 ≤ i ∧ i ≤ 11) ∧ z = -1) ∨ (0 ≤ i ∧ i ≤ 11 ∧ ((¬ P ∧ z = -6) ∨ (P ∧ ∃ n : Nat, PA N c0 n ∧ (j = -1 → z = oW ln kd (wk N c0) n - 1) ∧ (0 ≤ j → j < oW ln kd (wk N c0) n - 1 → SG li pl ln kd (wk N c0) n j z) ∧ (j < -1 ∨ (0 ≤ j ∧ oW ln kd (wk N c0) n - 1 ≤ j) → z = -6))))))
theorem zSI.same {ll i j z z2 c0 c1 : Int} {P P2 : Prop} {N N2 : Int → Int} {li pl ln kd li2 pl2 ln2 kd2 : Nat → Int} (h : zSI ll i j z P li pl ln kd N c0) (g : zSI ll i j z2 P2 li2 pl2 ln2 kd2 N2 c1) (e : 0 < ll → 0 ≤ i → i ≤ 11 → (P ↔ P2) ∧ (P → ∀ n m : Nat, PA N c0 n → PA N2 c1 m → n = m ∧ ∀ j : Nat, j < n → wk N c0 j = wk N2 c1 j ∧ ln (wk N c0 j / 16).toNat = ln2 (wk N c0 j / 16).toNat ∧ kd (wk N c0 j / 16).toNat = kd2 (wk N c0 j / 16).toNat ∧ pl (wk N c0 j / 16).toNat = pl2 (wk N c0 j / 16).toNat ∧ 1 ≤ ln (wk N c0 j / 16).toNat ∧ ∀ k : Int, 0 ≤ k → k < ln (wk N c0 j / 16).toNat → li (pl (wk N c0 j / 16).toNat + k).toNat = li2 (pl (wk N c0 j / 16).toNat + k).toNat)) : z = z2 := by
  rcases h with ⟨h1, h2⟩ | ⟨h1, h2⟩ <;> rcases g with ⟨g1, g2⟩ | ⟨g1, g2⟩
  · omega
  · clear g2; omega
  · clear h2; omega
  · rcases h2 with ⟨a1, a2⟩ | ⟨a1, a2, a3⟩ <;> rcases g2 with ⟨b1, b2⟩ | ⟨b1, b2, b3⟩
    · omega
    · exact absurd ⟨b1, b2⟩ a1
    · exact absurd ⟨a1, a2⟩ b1
    · obtain ⟨e1, e2⟩ := e h1 a1 a2
      rcases a3 with ⟨a4, a5⟩ | ⟨a4, n, n1, n2, n3, n4⟩ <;> rcases b3 with ⟨b4, b5⟩ | ⟨b4, m, m1, m2, m3, m4⟩
      · omega
      · exact absurd (e1.mpr b4) a4
      · exact absurd (e1.mp a4) b4
      · obtain ⟨f1, f2⟩ := e2 a4 n m n1 m1
        subst f1
        have ho : oW ln kd (wk N c0) n = oW ln2 kd2 (wk N2 c1) n := oW_cast n (fun j hj => ⟨(f2 j hj).1, (f2 j hj).2.1, (f2 j hj).2.2.1⟩)
        rw [← ho] at m2 m3 m4
        by_cases q : j = -1
        · rw [n2 q, m2 q]
        · by_cases q2 : 0 ≤ j ∧ j < oW ln kd (wk N c0) n - 1
          · exact (n3 q2.1 q2.2).same (m3 q2.1 q2.2) f2
          · rw [n4 (by omega), m4 (by omega)]
def zWY (ll z : Int) (R : Int → Prop) : Prop := (ll ≤ 0 ∧ z = -5) ∨ (0 < ll ∧ R z)
/-- what always holds of a CutLetters -/
def CI (pco dc : Int) (dle dki dco bjo bru : Nat → Int) (bll nll ncn : Int) (npl nle nki nco nfi njo kct kke kfo : Nat → Int) (wct ns : Int) (dlt bli nwd kbf : Nat → Int) (rs : Int) : Prop :=
  (0 ≤ pco ∧ pco ≤ 40) ∧ DI dc dle dki dco ∧ BI bjo bru bll ∧ (PB npl nle nki nco ∧ FB nfi ∧ JB njo ∧ 0 ≤ ncn ∧ ncn ≤ 480 ∧ 0 ≤ nll ∧ nll ≤ 24) ∧ (CB kct ∧ KB kke ∧ FO kfo) ∧ (0 ≤ wct ∧ wct ≤ 71) ∧ (ns ≠ 0 → NF npl nle nfi nll ∧ nll = bll ∧ NS (PK dc dlt dle dki dco bru bli bll) bll ncn npl nle nki nco nwd nfi ∧ ∀ j : Nat, j < 25 → njo j = bjo j) ∧ (rs ≠ 0 → ns ≠ 0 ∧ KW bll ncn npl nle nki nco nfi njo kbf kct kke)
theorem wk_shift {N : Int → Int} {c : Int} : ∀ j : Nat, wk N c (j + 1) = wk N (N c) j
  | 0 => rfl
  | j + 1 => by
    show N (wk N c (j + 1)) = N (wk N (N c) j)
    rw [wk_shift j]
theorem RR.path {rw nx : Nat → Int} {many : Int} (h : RR rw nx 0 many) : ∀ (d : Nat) (c : Int), 0 ≤ c → c / 16 < many → c % 16 < rw (c / 16).toNat → many - c / 16 ≤ d → ∃ n : Nat, PA (nM nx) c n ∧ ∀ u : Nat, u < n → wk (nM nx) c u / 16 < many
  | 0, c, h0, h1, _, hd => by omega
  | d + 1, c, h0, h1, h2, hd => by
    have hn : nM nx c < 0 ∨ (c / 16 < nM nx c / 16 ∧ nM nx c / 16 < many ∧ nM nx c % 16 < rw (nM nx c / 16).toNat) := h.next h0 h1 h2 rfl
    rcases hn with q | ⟨q1, q2, q3⟩
    · refine ⟨1, ⟨fun j hj => ?_, q⟩, fun u hu => ?_⟩
      · rw [show j = 0 by omega]; exact h0
      · rw [show u = 0 by omega]; exact h1
    · obtain ⟨n, ⟨p1, p2⟩, p3⟩ := RR.path h d (nM nx c) (by omega) q2 q3 (by omega)
      refine ⟨n + 1, ⟨fun j hj => ?_, by rw [wk_shift]; exact p2⟩, fun u hu => ?_⟩
      · cases j with
        | zero => exact h0
        | succ j => rw [wk_shift]; exact p1 j (by omega)
      · cases u with
        | zero => exact h1
        | succ u => rw [wk_shift]; exact p3 u (by omega)
theorem PA.far {N : Int → Int} {c : Int} {n k : Nat} (h : PA N c n) (hk : ∀ u : Nat, u ≤ k → 0 ≤ wk N c u) : k < n := by
  by_cases q : k < n
  · exact q
  · have := hk n (by omega)
    have := h.2
    omega
