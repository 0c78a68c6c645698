/-! the net as both sides rank it -/
def GN (ll cnt : Int) (pl ln kd cs fi : Nat → Int) : Prop := (0 ≤ cnt ∧ cnt ≤ 480 ∧ 0 ≤ ll ∧ ll ≤ 24) ∧ (∀ i : Nat, (i : Int) < cnt → 0 ≤ pl i ∧ 1 ≤ ln i ∧ ln i ≤ 6 ∧ pl i + ln i ≤ ll ∧ 0 ≤ kd i ∧ kd i ≤ 3 ∧ 0 ≤ cs i ∧ cs i ≤ 693) ∧ (∀ p i : Nat, (p : Int) < ll → ((fi p ≤ i ∧ (i : Int) < fi (p + 1)) ↔ ((i : Int) < cnt ∧ pl i = p))) ∧ (∀ i j : Nat, i < j → (j : Int) < cnt → pl i ≤ pl j) ∧ (∀ p : Nat, (p : Int) ≤ ll → 0 ≤ fi p ∧ fi p ≤ cnt ∧ ((p : Int) < ll → fi p ≤ fi (p + 1)))
theorem NS.key {dc ll cnt : Int} {le si ki co ru li pl ln kd cs wd fi jo : Nat → Int} (hD : DI dc si ki co) (hB : BI jo ru ll) (h : NS (PK dc le si ki co ru li ll) ll cnt pl ln kd cs wd fi) {T i : Nat} (hT : T ≤ 28 * ll.toNat) (hi : i < cn (VQ (PK dc le si ki co ru li ll)) T) : ∃ K : Nat, K < T ∧ VQ (PK dc le si ki co ru li ll) K = true ∧ cn (VQ (PK dc le si ki co ru li ll)) K = i ∧ pl i = ((K / 28 : Nat) : Int) ∧ ln i = ((K % 28 / 4 : Nat) : Int) ∧ kd i = ((K % 4 : Nat) : Int) ∧ 1 ≤ K % 28 / 4 ∧ ((K / 28 : Nat) : Int) + ((K % 28 / 4 : Nat) : Int) ≤ ll ∧ 0 ≤ cs i ∧ cs i ≤ 693 := by
  obtain ⟨h1, h2, h3⟩ := h
  obtain ⟨K, k1, k2, k3⟩ := cn_sur (P := VQ (PK dc le si ki co ru li ll)) (i := i) T hi
  obtain ⟨w, c, hq⟩ := bo_t.mp k2
  have a := h2 K (by omega) w c hq
  rw [k3] at a
  obtain ⟨a1, a2, a3, a4, a5⟩ := a
  obtain ⟨b1, b2, b3, b4⟩ := PK.in_ hD hB hq
  exact ⟨K, k1, k2, k3, a1, a2, a3, b1, b2, by omega, by omega⟩
theorem NS.gn {dc ll cnt : Int} {le si ki co ru li pl ln kd cs wd fi jo : Nat → Int} (hD : DI dc si ki co) (hB : BI jo ru ll) (h : NS (PK dc le si ki co ru li ll) ll cnt pl ln kd cs wd fi) : GN ll cnt pl ln kd cs fi := by
  have hl := hB.l24
  have hcap := PK.cap (le := le) (li := li) hD hB ll.toNat
  have hkey := fun (T i : Nat) => NS.key (T := T) (i := i) hD hB h
  obtain ⟨h1, h2, h3⟩ := h
  have hf : ∀ p : Nat, (p : Int) ≤ ll → fi p = ((cn (VQ (PK dc le si ki co ru li ll)) (28 * p) : Nat) : Int) := h3
  refine ⟨⟨by omega, by omega, hl.1, hl.2⟩, fun i hi => ?_, fun p i hp => ?_, fun i j hij hj => ?_, fun p hp => ?_⟩
  · obtain ⟨K, k1, k2, k3, a1, a2, a3, b1, b2, b3, b4⟩ := hkey (28 * ll.toNat) i (Nat.le_refl _) (by omega)
    exact ⟨by omega, by omega, by omega, by omega, by omega, by omega, b3, b4⟩
  · have e0 := hf p (by omega)
    have e1 := hf (p + 1) (by omega)
    constructor
    · rintro ⟨g1, g2⟩
      obtain ⟨K, k1, k2, k3, a1, -⟩ := hkey (28 * (p + 1)) i (by omega) (by omega)
      have hup := cn_up (P := VQ (PK dc le si ki co ru li ll)) (a := 28 * (p + 1)) (28 * ll.toNat) (by omega)
      have hge : 28 * p ≤ K := by
        by_cases q : 28 * p ≤ K
        · exact q
        · have := cn_st k2 (show K < 28 * p by omega)
          omega
      exact ⟨by omega, by omega⟩
    · rintro ⟨g1, g2⟩
      obtain ⟨K, k1, k2, k3, a1, -⟩ := hkey (28 * ll.toNat) i (Nat.le_refl _) (by omega)
      have hu := cn_up (P := VQ (PK dc le si ki co ru li ll)) (a := 28 * p) K (by omega)
      have hs := cn_st k2 (show K < 28 * (p + 1) by omega)
      exact ⟨by omega, by omega⟩
  · obtain ⟨K, k1, k2, k3, a1, -⟩ := hkey (28 * ll.toNat) i (Nat.le_refl _) (by omega)
    obtain ⟨K2, m1, m2, m3, c1, -⟩ := hkey (28 * ll.toNat) j (Nat.le_refl _) (by omega)
    have : K < K2 := by
      by_cases q : K < K2
      · exact q
      · have := cn_up (P := VQ (PK dc le si ki co ru li ll)) (a := K2) K (by omega)
        omega
    omega
  · have e0 := hf p hp
    have hup := cn_up (P := VQ (PK dc le si ki co ru li ll)) (a := 28 * p) (28 * ll.toNat) (by omega)
    refine ⟨by omega, by omega, fun q => ?_⟩
    have e1 := hf (p + 1) (by omega)
    have hu2 := cn_up (P := VQ (PK dc le si ki co ru li ll)) (a := 28 * p) (28 * (p + 1)) (by omega)
    omega
theorem GN.at {ll cnt : Int} {pl ln kd cs fi : Nat → Int} (h : GN ll cnt pl ln kd cs fi) {x : Int} (h0 : 0 ≤ x) (h1 : x < cnt) : 0 ≤ pl x.toNat ∧ 1 ≤ ln x.toNat ∧ ln x.toNat ≤ 6 ∧ pl x.toNat + ln x.toNat ≤ ll ∧ 0 ≤ kd x.toNat ∧ kd x.toNat ≤ 3 ∧ 0 ≤ cs x.toNat ∧ cs x.toNat ≤ 693 := h.2.1 x.toNat (by omega)
theorem GN.in_ {ll cnt : Int} {pl ln kd cs fi : Nat → Int} (h : GN ll cnt pl ln kd cs fi) {p : Nat} {y : Nat} (hp : (p : Int) < ll) (h0 : fi p ≤ y) (h1 : (y : Int) < fi (p + 1)) : (y : Int) < cnt ∧ pl y = p := (h.2.2.1 p y hp).mp ⟨h0, h1⟩
-- lists of the least
def SO (n : Int) (f : Nat → Int) : Prop := ∀ r s : Nat, r < s → (s : Int) < n → f r < f s
def TP (C : Int → Prop) (n : Int) (f : Nat → Int) : Prop := 0 ≤ n ∧ n ≤ 12 ∧ (∀ r : Nat, (r : Int) < n → C (f r)) ∧ SO n f ∧ (∀ v, C v → (∃ r : Nat, (r : Int) < n ∧ f r = v) ∨ ∀ r : Nat, (r : Int) < n → f r < v)
def TF (C : Int → Prop) (n : Int) (f : Nat → Int) : Prop := n = 12 ∨ ∀ v, C v → ∃ r : Nat, (r : Int) < n ∧ f r = v
theorem TP.eq {C : Int → Prop} {n m : Int} {f g : Nat → Int} (h : TP C n f) (k : TP C m g) : ∀ r : Nat, (r : Int) < n → (r : Int) < m → f r = g r := by
  obtain ⟨-, -, h3, h4, h5⟩ := h
  obtain ⟨-, -, k3, k4, k5⟩ := k
  intro r
  induction r using Nat.strongRecOn with
  | _ r ih =>
    intro hn hm
    rcases Int.lt_trichotomy (f r) (g r) with q | q | q
    · exfalso
      rcases k5 _ (h3 r hn) with ⟨s, s1, s2⟩ | s
      · rcases Nat.lt_trichotomy s r with t | t | t
        · have a := ih s t (by omega) s1
          have b := h4 s r t hn
          omega
        · subst t; omega
        · have a := k4 r s t s1
          omega
      · have := s r hm; omega
    · exact q
    · exfalso
      rcases h5 _ (k3 r hm) with ⟨s, s1, s2⟩ | s
      · rcases Nat.lt_trichotomy s r with t | t | t
        · have a := ih s t s1 (by omega)
          have b := k4 s r t hm
          omega
        · subst t; omega
        · have a := h4 r s t s1
          omega
      · have := s r hn; omega
theorem TP.le {C : Int → Prop} {n m : Int} {f g : Nat → Int} (h : TP C n f) (hf : TF C n f) (k : TP C m g) : m ≤ n := by
  by_cases q : m ≤ n
  · exact q
  · exfalso
    have h0 := h.1
    rcases hf with e | e
    · have := k.2.1; omega
    · obtain ⟨r, r1, r2⟩ := e _ (k.2.2.1 n.toNat (by omega))
      have a := h.eq k r r1 (by omega)
      have b := k.2.2.2.1 r n.toNat (by omega) (by omega)
      omega
theorem TP.same {C : Int → Prop} {n m : Int} {f g : Nat → Int} (h : TP C n f) (hf : TF C n f) (k : TP C m g) (kf : TF C m g) : n = m ∧ ∀ r : Nat, (r : Int) < n → f r = g r := by
  have a := h.le hf k
  have b := k.le kf h
  exact ⟨by omega, fun r hr => h.eq k r hr (by omega)⟩
theorem TP.ext {C : Int → Prop} {n m : Int} {f g : Nat → Int} (h : TP C n f) (hf : TF C n f) (e : n = m) (k : ∀ r : Nat, (r : Int) < n → f r = g r) : TP C m g ∧ TF C m g := by
  subst e
  obtain ⟨h1, h2, h3, h4, h5⟩ := h
  refine ⟨⟨h1, h2, fun r hr => by rw [← k r hr]; exact h3 r hr, fun r s hrs hs => by rw [← k r (by omega), ← k s hs]; exact h4 r s hrs hs, fun v hv => ?_⟩, ?_⟩
  · rcases h5 v hv with ⟨r, r1, r2⟩ | q
    · exact Or.inl ⟨r, r1, by rw [← k r r1]; exact r2⟩
    · exact Or.inr (fun r hr => by rw [← k r hr]; exact q r hr)
  · rcases hf with q | q
    · exact Or.inl q
    · refine Or.inr (fun v hv => ?_)
      obtain ⟨r, r1, r2⟩ := q v hv
      exact ⟨r, r1, by rw [← k r r1]; exact r2⟩
theorem TP.cast {C D : Int → Prop} {n : Int} {f : Nat → Int} (h : TP C n f ∧ TF C n f) (e : ∀ v, C v ↔ D v) : TP D n f ∧ TF D n f := by
  have : C = D := funext (fun v => propext (e v))
  rw [← this]; exact h
theorem TP.nil {C : Int → Prop} {n : Int} {f : Nat → Int} (h0 : n = 0) (h : ∀ v, ¬ C v) : TP C n f ∧ TF C n f := by
  subst h0
  exact ⟨⟨by omega, by omega, fun r hr => by omega, fun r s _ hs => by omega, fun v hv => absurd hv (h v)⟩, Or.inr (fun v hv => absurd hv (h v))⟩
/-- a way is offered to a list -/
def OF (n : Int) (f : Nat → Int) (v z n' : Int) (g : Nat → Int) : Prop := (z = 0 ∧ n = 12 ∧ f 11 < v ∧ n' = 12 ∧ ∀ r : Nat, r < 12 → g r = f r) ∨ (z = 1 ∧ ((n < 12 ∧ n' = n + 1) ∨ (n = 12 ∧ n' = 12 ∧ v ≤ f 11)) ∧ ∃ t : Nat, (t : Int) < n' ∧ (t = 0 ∨ f (t - 1) ≤ v) ∧ (∀ r : Nat, t ≤ r → (r : Int) + 1 < n' → v < f r) ∧ (∀ r : Nat, r < t → g r = f r) ∧ g t = v ∧ (∀ r : Nat, t ≤ r → (r : Int) + 1 < n' → g (r + 1) = f r))
theorem TP.more {C X : Int → Prop} {n : Int} {f g : Nat → Int} (h : TP C n f) (hn : n = 12) (hx : ∀ w, X w → f 11 < w) (hg : ∀ r : Nat, r < 12 → g r = f r) : TP (fun w => C w ∨ X w) n g ∧ TF (fun w => C w ∨ X w) n g := by
  subst hn
  obtain ⟨h1, h2, h3, h4, h5⟩ := h
  have hle : ∀ r : Nat, (r : Int) < 12 → f r ≤ f 11 := fun r hr => by
    by_cases e : r = 11
    · subst e; exact Int.le_refl _
    · have := h4 r 11 (by omega) (by omega); omega
  refine ⟨⟨h1, h2, fun r hr => by rw [hg r (by omega)]; exact Or.inl (h3 r hr), fun r s hrs hs => by rw [hg r (by omega), hg s (by omega)]; exact h4 r s hrs hs, fun v hv => ?_⟩, Or.inl rfl⟩
  rcases hv with hv | hv
  · rcases h5 v hv with ⟨r, r1, r2⟩ | q
    · exact Or.inl ⟨r, r1, by rw [hg r (by omega)]; exact r2⟩
    · exact Or.inr (fun r hr => by rw [hg r (by omega)]; exact q r hr)
  · refine Or.inr (fun r hr => ?_)
    rw [hg r (by omega)]
    have := hle r hr
    have := hx v hv
    omega
theorem TP.put {C : Int → Prop} {n n' v z : Int} {f g : Nat → Int} (h : TP C n f) (hf : TF C n f) (hv : ∀ w, C w → w ≠ v) (ho : OF n f v z n' g) (hz : z = 1) : TP (fun w => C w ∨ w = v) n' g ∧ TF (fun w => C w ∨ w = v) n' g := by
  rcases ho with ⟨o1, -⟩ | ⟨-, o2, t, o3, o4, o5, o6, o7, o8⟩
  · omega
  obtain ⟨h1, h2, h3, h4, h5⟩ := h
  have A : ∀ r : Nat, r < t → f r < v := by
    intro r hr
    rcases o4 with q | q
    · omega
    · have a := h3 (t - 1) (by omega)
      have b := hv _ a
      by_cases e : r = t - 1
      · subst e; omega
      · have := h4 r (t - 1) (by omega) (by omega); omega
  have hpos : ∀ r : Nat, (r : Int) < n → (r : Int) + 1 < n' ∨ r < t → ∃ s : Nat, (s : Int) < n' ∧ g s = f r := by
    intro r hr q
    by_cases e : r < t
    · exact ⟨r, by omega, o6 r e⟩
    · exact ⟨r + 1, by omega, o8 r (by omega) (by omega)⟩
  have hge : ∀ s : Nat, (s : Int) < n' → (s < t ∧ g s = f s) ∨ (s = t ∧ g s = v) ∨ (t < s ∧ g s = f (s - 1) ∧ v < f (s - 1) ∧ ((s - 1 : Nat) : Int) < n) := by
    intro s hs
    rcases Nat.lt_trichotomy s t with q | q | q
    · exact Or.inl ⟨q, o6 s q⟩
    · subst q; exact Or.inr (Or.inl ⟨rfl, o7⟩)
    · have a := o8 (s - 1) (by omega) (by omega)
      have b := o5 (s - 1) (by omega) (by omega)
      rw [show s - 1 + 1 = s by omega] at a
      exact Or.inr (Or.inr ⟨q, a, b, by omega⟩)
  refine ⟨⟨by omega, by omega, fun r hr => ?_, fun r s hrs hs => ?_, fun w hw => ?_⟩, ?_⟩
  · rcases hge r hr with ⟨q, e⟩ | ⟨q, e⟩ | ⟨q, e, -, q2⟩
    · rw [e]; exact Or.inl (h3 r (by omega))
    · exact Or.inr e
    · rw [e]; exact Or.inl (h3 _ q2)
  · rcases hge r (by omega) with ⟨q, e⟩ | ⟨q, e⟩ | ⟨q, e, q3, q2⟩ <;> rcases hge s hs with ⟨p, d⟩ | ⟨p, d⟩ | ⟨p, d, p3, p2⟩
    · rw [e, d]; exact h4 r s hrs (by omega)
    · rw [e, d]; exact A r q
    · rw [e, d]; have := A r q; omega
    · omega
    · omega
    · rw [e, d]; exact p3
    · omega
    · omega
    · rw [e, d]; exact h4 _ _ (by omega) p2
  · rcases hw with hw | hw
    · rcases h5 w hw with ⟨r, r1, r2⟩ | q
      · by_cases e : (r : Int) + 1 < n' ∨ r < t
        · obtain ⟨s, s1, s2⟩ := hpos r r1 e
          exact Or.inl ⟨s, s1, by rw [s2, r2]⟩
        · have hr : r = 11 := by omega
          have hvw := hv w hw
          subst hr
          refine Or.inr (fun s hs => ?_)
          rw [← r2] at hvw ⊢
          rcases hge s hs with ⟨p, d⟩ | ⟨p, d⟩ | ⟨p, d, p3, p2⟩
          · rw [d]; exact h4 s 11 (by omega) (by omega)
          · rw [d]; omega
          · rw [d]; exact h4 _ 11 (by omega) (by omega)
      · have hn : n = 12 := by
          rcases hf with e | e
          · exact e
          · obtain ⟨r, r1, r2⟩ := e w hw
            have := q r r1
            omega
        have q11 := q 11 (by omega)
        refine Or.inr (fun s hs => ?_)
        rcases hge s hs with ⟨p, d⟩ | ⟨p, d⟩ | ⟨p, d, p3, p2⟩
        · rw [d]; exact q s (by omega)
        · rw [d]; omega
        · rw [d]; exact q _ p2
    · exact Or.inl ⟨t, o3, by rw [o7, hw]⟩
  · by_cases e12 : n = 12
    · exact Or.inl (by omega)
    · rcases hf with e | e
      · exact absurd e e12
      · refine Or.inr (fun w hw => ?_)
        rcases hw with hw | hw
        · obtain ⟨r, r1, r2⟩ := e w hw
          obtain ⟨s, s1, s2⟩ := hpos r r1 (by omega)
          exact ⟨s, s1, by rw [s2, r2]⟩
        · exact ⟨t, o3, by rw [o7, hw]⟩
/-- the last that was taken into a list -/
def LL (C : Int → Prop) (n : Int) (f : Nat → Int) (L : Int) : Prop := (n = 0 ∧ ∀ v, C v → L < v) ∨ (0 < n ∧ L = f (n - 1).toNat)
theorem TP.push {C : Int → Prop} {n L v : Int} {f g : Nat → Int} (h : TP C n f) (hn : n < 12) (hL : LL C n f L) (h1 : C v) (h2 : L < v) (h3 : ∀ w, C w → L < w → v ≤ w) (hg : ∀ r : Nat, (r : Int) < n → g r = f r) (hv : g n.toNat = v) : TP C (n + 1) g ∧ LL C (n + 1) g v := by
  obtain ⟨a1, a2, a3, a4, a5⟩ := h
  have hle : ∀ r : Nat, (r : Int) < n → f r ≤ L := by
    intro r hr
    rcases hL with ⟨q, -⟩ | ⟨q, q2⟩
    · omega
    · by_cases e : r = (n - 1).toNat
      · subst e; omega
      · have := a4 r (n - 1).toNat (by omega) (by omega); omega
  have hgt : ∀ w, C w → (∀ r : Nat, (r : Int) < n → f r < w) → L < w := by
    intro w hw q
    rcases hL with ⟨-, q2⟩ | ⟨q1, q2⟩
    · exact q2 w hw
    · have := q (n - 1).toNat (by omega); omega
  refine ⟨⟨by omega, by omega, fun r hr => ?_, fun r s hrs hs => ?_, fun w hw => ?_⟩, Or.inr ⟨by omega, by rw [show (n + 1 - 1).toNat = n.toNat by omega, hv]⟩⟩
  · by_cases e : r = n.toNat
    · rw [e, hv]; exact h1
    · rw [hg r (by omega)]; exact a3 r (by omega)
  · rw [hg r (by omega)]
    by_cases e : s = n.toNat
    · rw [e, hv]; have := hle r (by omega); omega
    · rw [hg s (by omega)]; exact a4 r s hrs (by omega)
  · rcases a5 w hw with ⟨r, r1, r2⟩ | q
    · exact Or.inl ⟨r, by omega, by rw [hg r r1]; exact r2⟩
    · have b := h3 w hw (hgt w hw q)
      by_cases e : w = v
      · exact Or.inl ⟨n.toNat, by omega, by rw [hv, e]⟩
      · refine Or.inr (fun r hr => ?_)
        by_cases er : r = n.toNat
        · rw [er, hv]; omega
        · rw [hg r (by omega)]; exact q r (by omega)
theorem TP.end_ {C : Int → Prop} {n L : Int} {f : Nat → Int} (h : TP C n f) (hL : LL C n f L) (hs : ∀ v, C v → v ≤ L) : TF C n f := by
  refine Or.inr (fun v hv => ?_)
  rcases h.2.2.2.2 v hv with q | q
  · exact q
  · exfalso
    have := hs v hv
    rcases hL with ⟨-, q2⟩ | ⟨q1, q2⟩
    · have := q2 v hv; omega
    · have := q (n - 1).toNat (by omega); omega
/-- the best so far -/
def SL (C : Int → Prop) (L be vb : Int) : Prop := (be < 0 ∧ ∀ v, C v → v ≤ L) ∨ (0 ≤ be ∧ C vb ∧ L < vb ∧ ∀ v, C v → L < v → vb ≤ v)
theorem SL.skip {C D : Int → Prop} {L be vb v0 : Int} (h : SL C L be vb) (e : ∀ v, D v ↔ C v ∨ v = v0) (hn : ¬ (L < v0 ∧ (be < 0 ∨ v0 < vb))) : SL D L be vb := by
  rcases h with ⟨h1, h2⟩ | ⟨h1, h2, h3, h4⟩
  · refine Or.inl ⟨h1, fun v hv => ?_⟩
    rcases (e v).mp hv with q | q
    · exact h2 v q
    · omega
  · refine Or.inr ⟨h1, (e _).mpr (Or.inl h2), h3, fun v hv hl => ?_⟩
    rcases (e v).mp hv with q | q
    · exact h4 v q hl
    · omega
theorem SL.take {C D : Int → Prop} {L be vb v0 b2 : Int} (h : SL C L be vb) (e : ∀ v, D v ↔ C v ∨ v = v0) (hb : 0 ≤ b2) (hl : L < v0) (ht : be < 0 ∨ v0 < vb) : SL D L b2 v0 := by
  refine Or.inr ⟨hb, (e _).mpr (Or.inr rfl), hl, fun v hv hlt => ?_⟩
  rcases (e v).mp hv with q | q
  · rcases h with ⟨h1, h2⟩ | ⟨h1, h2, h3, h4⟩
    · have := h2 v q; omega
    · have := h4 v q hlt; omega
  · omega
theorem SL.cast {C D : Int → Prop} {L be vb : Int} (h : SL C L be vb) (e : ∀ v, C v ↔ D v) : SL D L be vb := by
  have : C = D := funext (fun v => propext (e v))
  rw [← this]; exact h
-- the class's ways
def kl (ke : Nat → Int) (s : Nat) : Nat → Int := fun r => ke (12 * s + r)
def sb (pl ln kd : Nat → Int) (y : Nat) : Nat := ((pl y + ln y) * 5 + kd y).toNat
def wy (c p : Int) (ke : Nat → Int) (b r : Nat) : Int := (c + ke (12 * b + r) / 8192) * 8192 + p * 16 + r
def XW (c p : Int) (ke : Nat → Int) (b : Nat) (n : Int) (v : Int) : Prop := ∃ r : Nat, (r : Int) < n ∧ v = wy c p ke b r
theorem wy_m {c p : Int} {ke : Nat → Int} {b r : Nat} (hp : 0 ≤ p ∧ p < 512) (hr : r < 16) : wy c p ke b r % 8192 / 16 = p ∧ wy c p ke b r % 16 = r ∧ wy c p ke b r / 8192 = c + ke (12 * b + r) / 8192 ∧ wy c p ke b r % 8192 = p * 16 + r := by
  unfold wy
  exact ⟨by omega, by omega, by omega, by omega⟩
theorem wy_lt {c p n : Int} {ke : Nat → Int} {b r s : Nat} (h : SO n (kl ke b)) (hrs : r < s) (hs : (s : Int) < n) : wy c p ke b r < wy c p ke b s := by
  have : ke (12 * b + r) < ke (12 * b + s) := h r s hrs hs
  unfold wy
  omega
theorem XW.cast {c p n n2 : Int} {ke ke2 : Nat → Int} {b : Nat} (hn : n = n2) (e : ∀ r : Nat, (r : Int) < n → ke (12 * b + r) = ke2 (12 * b + r)) (v : Int) : XW c p ke b n v ↔ XW c p ke2 b n2 v := by
  subst hn
  constructor
  · rintro ⟨r, h1, h2⟩
    exact ⟨r, h1, by rw [h2]; unfold wy; rw [e r h1]⟩
  · rintro ⟨r, h1, h2⟩
    exact ⟨r, h1, by rw [h2]; unfold wy; rw [e r h1]⟩
/-- all but one spot's list stays -/
def KP (ct ke ct' ke' : Nat → Int) (s : Nat) : Prop := (∀ j : Nat, j ≠ s → ct' j = ct j) ∧ ∀ j : Nat, (j < 12 * s ∨ 12 * s + 12 ≤ j) → ke' j = ke j
theorem KP.refl {ct ke : Nat → Int} {s : Nat} : KP ct ke ct ke s := ⟨fun _ _ => rfl, fun _ _ => rfl⟩
theorem KP.trans {ct ke ct1 ke1 ct2 ke2 : Nat → Int} {s : Nat} (h : KP ct ke ct1 ke1 s) (g : KP ct1 ke1 ct2 ke2 s) : KP ct ke ct2 ke2 s := ⟨fun j hj => by rw [g.1 j hj, h.1 j hj], fun j hj => by rw [g.2 j hj, h.2 j hj]⟩
theorem KP.at {ct ke ct' ke' : Nat → Int} {s : Nat} (h : KP ct ke ct' ke' s) {b : Nat} (hb : b ≠ s) : ct' b = ct b ∧ ∀ r : Nat, r < 12 → ke' (12 * b + r) = ke (12 * b + r) := ⟨h.1 b hb, fun r hr => h.2 _ (by omega)⟩
def OWS (ct0 ke0 ct ke : Nat → Int) (s : Nat) (c p : Int) (b : Nat) (hi : Int) : Prop := KP ct0 ke0 ct ke s ∧ ∀ C : Int → Prop, TP C (ct0 s) (kl ke0 s) → TF C (ct0 s) (kl ke0 s) → (∀ v, C v → v % 8192 / 16 < p) → TP (fun v => C v ∨ XW c p ke0 b hi v) (ct s) (kl ke s) ∧ TF (fun v => C v ∨ XW c p ke0 b hi v) (ct s) (kl ke s)
theorem OWS.zero {ct ke : Nat → Int} {s b : Nat} {c p : Int} : OWS ct ke ct ke s c p b 0 := by
  refine ⟨KP.refl, fun C h1 h2 h3 => TP.cast ⟨h1, h2⟩ (fun v => ⟨Or.inl, fun h => ?_⟩)⟩
  rcases h with h | ⟨r, hr, -⟩
  · exact h
  · omega
theorem OWS.step {ct0 ke0 ct ke ct' ke' : Nat → Int} {s b : Nat} {c p rk z v : Int} (h : OWS ct0 ke0 ct ke s c p b rk) (hk : KP ct ke ct' ke' s) (hb : b ≠ s) (h0 : 0 ≤ rk) (h1 : rk < 12) (hp : 0 ≤ p ∧ p < 480) (hv : v = (c + ke (12 * b + rk.toNat) / 8192) * 8192 + p * 16 + rk) (ho : OF (ct s) (kl ke s) v z (ct' s) (kl ke' s)) (hz : z = 1) : OWS ct0 ke0 ct' ke' s c p b (rk + 1) := by
  obtain ⟨a1, a2⟩ := h
  refine ⟨a1.trans hk, fun C g1 g2 g3 => ?_⟩
  obtain ⟨b1, b2⟩ := a2 C g1 g2 g3
  have ev : v = wy c p ke0 b rk.toNat := by
    unfold wy
    rw [hv, (a1.at hb).2 rk.toNat (by omega)]
    omega
  have hm := wy_m (c := c) (p := p) (ke := ke0) (b := b) (r := rk.toNat) (by omega) (by omega)
  refine TP.cast (b1.put b2 (fun w hw => ?_) ho hz) (fun w => ?_)
  · rcases hw with hw | ⟨r, r1, r2⟩
    · have := g3 w hw
      intro e
      rw [e, ev] at this
      omega
    · intro e
      have hm2 := wy_m (c := c) (p := p) (ke := ke0) (b := b) (r := r) (by omega) (by omega)
      rw [← r2, e, ev] at hm2
      omega
  · constructor
    · rintro ((q | ⟨r, r1, r2⟩) | q)
      · exact Or.inl q
      · exact Or.inr ⟨r, by omega, r2⟩
      · exact Or.inr ⟨rk.toNat, by omega, by rw [q, ev]⟩
    · rintro (q | ⟨r, r1, r2⟩)
      · exact Or.inl (Or.inl q)
      · by_cases e : r = rk.toNat
        · exact Or.inr (by rw [r2, ev, e])
        · exact Or.inl (Or.inr ⟨r, by omega, r2⟩)
theorem OWS.stop {ct0 ke0 ct ke ct' ke' : Nat → Int} {s b : Nat} {c p rk z v n : Int} (h : OWS ct0 ke0 ct ke s c p b rk) (hk : KP ct ke ct' ke' s) (hb : b ≠ s) (h0 : 0 ≤ rk) (h1 : rk < n) (hn : n ≤ 12) (hso : SO n (kl ke0 b)) (hv : v = (c + ke (12 * b + rk.toNat) / 8192) * 8192 + p * 16 + rk) (ho : OF (ct s) (kl ke s) v z (ct' s) (kl ke' s)) (hz : z = 0) : OWS ct0 ke0 ct' ke' s c p b n := by
  obtain ⟨a1, a2⟩ := h
  refine ⟨a1.trans hk, fun C g1 g2 g3 => ?_⟩
  obtain ⟨b1, b2⟩ := a2 C g1 g2 g3
  have ev : v = wy c p ke0 b rk.toNat := by
    unfold wy
    rw [hv, (a1.at hb).2 rk.toNat (by omega)]
    omega
  rcases ho with ⟨o1, o2, o3, o4, o5⟩ | ⟨o1, -⟩
  · rw [show ct' s = ct s by omega]
    refine TP.cast (TP.more (X := fun w => ∃ r : Nat, rk.toNat ≤ r ∧ (r : Int) < n ∧ w = wy c p ke0 b r) b1 o2 (fun w hw => ?_) (fun r hr => o5 r hr)) (fun w => ?_)
    · obtain ⟨r, r1, r2, r3⟩ := hw
      by_cases e : rk.toNat = r
      · rw [r3, ← e, ← ev]; exact o3
      · have := wy_lt (c := c) (p := p) hso (show rk.toNat < r by omega) r2
        rw [← ev, ← r3] at this
        omega
    · constructor
      · rintro ((q | ⟨r, r1, r2⟩) | ⟨r, r1, r2, r3⟩)
        · exact Or.inl q
        · exact Or.inr ⟨r, by omega, r2⟩
        · exact Or.inr ⟨r, r2, r3⟩
      · rintro (q | ⟨r, r1, r2⟩)
        · exact Or.inl (Or.inl q)
        · by_cases e : rk.toNat ≤ r
          · exact Or.inr ⟨r, e, r1, r2⟩
          · exact Or.inl (Or.inr ⟨r, by omega, r2⟩)
  · omega
/-- what may go on from a spot: pieces lo to hi -/
def CC (pl ln kd cs jo ct ke : Nat → Int) (lo hi k : Int) (v : Int) : Prop := ∃ y : Nat, lo ≤ (y : Int) ∧ (y : Int) < hi ∧ XW (jo (k * 5 + kd y).toNat + cs y) y ke (sb pl ln kd y) (ct (sb pl ln kd y)) v
theorem CC.none {pl ln kd cs jo ct ke : Nat → Int} {lo k : Int} (v : Int) : ¬ CC pl ln kd cs jo ct ke lo lo k v := by
  rintro ⟨y, h1, h2, -⟩; omega
theorem CC.step {pl ln kd cs jo ct ke : Nat → Int} {lo hi k : Int} (h0 : 0 ≤ hi) (h : lo ≤ hi) (v : Int) : CC pl ln kd cs jo ct ke lo (hi + 1) k v ↔ CC pl ln kd cs jo ct ke lo hi k v ∨ XW (jo (k * 5 + kd hi.toNat).toNat + cs hi.toNat) hi ke (sb pl ln kd hi.toNat) (ct (sb pl ln kd hi.toNat)) v := by
  constructor
  · rintro ⟨y, h1, h2, h3⟩
    by_cases e : (y : Int) = hi
    · have ey : y = hi.toNat := by omega
      rw [e, ey] at h3
      exact Or.inr h3
    · exact Or.inl ⟨y, h1, by omega, h3⟩
  · rintro (⟨y, h1, h2, h3⟩ | h3)
    · exact ⟨y, h1, by omega, h3⟩
    · refine ⟨hi.toNat, by omega, by omega, ?_⟩
      rw [show ((hi.toNat : Nat) : Int) = hi by omega]
      exact h3
theorem CC.lt {pl ln kd cs jo ct ke : Nat → Int} {lo hi k v : Int} (hc : CB ct) (h480 : hi ≤ 480) (hs : ∀ y : Nat, lo ≤ (y : Int) → (y : Int) < hi → sb pl ln kd y < 125) (h : CC pl ln kd cs jo ct ke lo hi k v) : v % 8192 / 16 < hi := by
  obtain ⟨y, h1, h2, r, h3, h4⟩ := h
  have := hc _ (hs y h1 h2)
  have := wy_m (c := jo (k * 5 + kd y).toNat + cs y) (p := y) (ke := ke) (b := sb pl ln kd y) (r := r) (by omega) (by omega)
  rw [h4]; omega
theorem CC.cast {pl ln kd cs jo ct ke ct2 ke2 : Nat → Int} {lo hi k : Int} (hc : CB ct) (hs : ∀ y : Nat, lo ≤ (y : Int) → (y : Int) < hi → sb pl ln kd y < 125) (e : ∀ y : Nat, lo ≤ (y : Int) → (y : Int) < hi → ct2 (sb pl ln kd y) = ct (sb pl ln kd y) ∧ ∀ r : Nat, r < 12 → ke2 (12 * sb pl ln kd y + r) = ke (12 * sb pl ln kd y + r)) (v : Int) : CC pl ln kd cs jo ct ke lo hi k v ↔ CC pl ln kd cs jo ct2 ke2 lo hi k v := by
  constructor
  · rintro ⟨y, h1, h2, h3⟩
    obtain ⟨e1, e2⟩ := e y h1 h2
    have := hc _ (hs y h1 h2)
    exact ⟨y, h1, h2, (XW.cast e1.symm (fun r hr => (e2 r (by omega)).symm) v).mp h3⟩
  · rintro ⟨y, h1, h2, h3⟩
    obtain ⟨e1, e2⟩ := e y h1 h2
    have := hc _ (hs y h1 h2)
    exact ⟨y, h1, h2, (XW.cast e1.symm (fun r hr => (e2 r (by omega)).symm) v).mpr h3⟩
/-- a spot's list, as it must be -/
def RS1 (pl ln kd cs fi jo bf ct ke : Nat → Int) (q k : Nat) : Prop := (1000000 ≤ bf (5 * q + k) → ct (5 * q + k) = 0) ∧ (bf (5 * q + k) < 1000000 → TP (CC pl ln kd cs jo ct ke (fi q) (fi (q + 1)) k) (ct (5 * q + k)) (kl ke (5 * q + k)) ∧ TF (CC pl ln kd cs jo ct ke (fi q) (fi (q + 1)) k) (ct (5 * q + k)) (kl ke (5 * q + k)))
theorem RS1.so {pl ln kd cs fi jo bf ct ke : Nat → Int} {q k : Nat} (h : RS1 pl ln kd cs fi jo bf ct ke q k) : SO (ct (5 * q + k)) (kl ke (5 * q + k)) := by
  by_cases e : bf (5 * q + k) < 1000000
  · exact (h.2 e).1.2.2.2.1
  · have := h.1 (by omega)
    intro r s hrs hs
    omega
theorem GN.spot {ll cnt : Int} {pl ln kd cs fi : Nat → Int} (h : GN ll cnt pl ln kd cs fi) {y : Nat} (hy : (y : Int) < cnt) : ((sb pl ln kd y : Nat) : Int) = (pl y + ln y) * 5 + kd y ∧ sb pl ln kd y < 125 := by
  have := h.2.1 y hy
  have := h.1
  unfold sb
  omega
theorem RS1.keep {ll cnt : Int} {pl ln kd cs fi jo bf ct ke ct2 ke2 : Nat → Int} {q k : Nat} (h : RS1 pl ln kd cs fi jo bf ct ke q k) (hG : GN ll cnt pl ln kd cs fi) (hc : CB ct) (hq : (q : Int) < ll) (hk : k ≤ 4) (e : ∀ s : Nat, s < 125 → (5 * q + 5 ≤ s ∨ s = 5 * q + k) → ct2 s = ct s ∧ ∀ r : Nat, r < 12 → ke2 (12 * s + r) = ke (12 * s + r)) : RS1 pl ln kd cs fi jo bf ct2 ke2 q k := by
  have h1 := hG.1
  obtain ⟨e1, e2⟩ := e (5 * q + k) (by omega) (Or.inr rfl)
  have hy : ∀ y : Nat, fi q ≤ (y : Int) → (y : Int) < fi (q + 1) → sb pl ln kd y < 125 ∧ 5 * q + 5 ≤ sb pl ln kd y := by
    intro y y1 y2
    obtain ⟨g1, g2⟩ := hG.in_ hq y1 y2
    have g3 := hG.spot g1
    have g4 := hG.2.1 y g1
    omega
  refine ⟨fun z => by rw [e1]; exact h.1 z, fun z => ?_⟩
  have a := h.2 z
  have b := TP.cast a (D := CC pl ln kd cs jo ct2 ke2 (fi q) (fi (q + 1)) k) (fun v => CC.cast hc (fun y y1 y2 => (hy y y1 y2).1) (fun y y1 y2 => e _ (hy y y1 y2).1 (Or.inl (hy y y1 y2).2)) v)
  have hn := hc (5 * q + k) (by omega)
  exact b.1.ext b.2 e1.symm (fun r hr => (e2 r (by omega)).symm)
/-- the least before a piece's end -/
def lum (bf jo : Nat → Int) (p5 k : Int) : Nat → Int
  | 0 => 1000000
  | n + 1 => min (lum bf jo p5 k n) (bf (p5 + n).toNat + jo ((n : Int) * 5 + k).toNat)
def lu (pl kd cs bf jo : Nat → Int) (y : Nat) : Int := lum bf jo (pl y * 5) (kd y) 5 + cs y
theorem lum_le {bf jo : Nat → Int} {p5 k : Int} : ∀ n : Nat, lum bf jo p5 k n ≤ 1000000 ∧ ∀ m : Nat, m < n → lum bf jo p5 k n ≤ bf (p5 + m).toNat + jo ((m : Int) * 5 + k).toNat
  | 0 => ⟨Int.le_refl _, fun m hm => by omega⟩
  | n + 1 => by
    obtain ⟨h1, h2⟩ := lum_le (bf := bf) (jo := jo) (p5 := p5) (k := k) n
    have e : lum bf jo p5 k (n + 1) = min (lum bf jo p5 k n) (bf (p5 + n).toNat + jo ((n : Int) * 5 + k).toNat) := rfl
    rw [e]
    refine ⟨by omega, fun m hm => ?_⟩
    by_cases q : m = n
    · subst q; omega
    · have := h2 m (by omega); omega
theorem lum_in {bf jo : Nat → Int} {p5 k : Int} : ∀ n : Nat, lum bf jo p5 k n = 1000000 ∨ ∃ m : Nat, m < n ∧ lum bf jo p5 k n = bf (p5 + m).toNat + jo ((m : Int) * 5 + k).toNat
  | 0 => Or.inl rfl
  | n + 1 => by
    have e : lum bf jo p5 k (n + 1) = min (lum bf jo p5 k n) (bf (p5 + n).toNat + jo ((n : Int) * 5 + k).toNat) := rfl
    rw [e]
    by_cases q : lum bf jo p5 k n ≤ bf (p5 + n).toNat + jo ((n : Int) * 5 + k).toNat
    · rw [show min (lum bf jo p5 k n) (bf (p5 + n).toNat + jo ((n : Int) * 5 + k).toNat) = lum bf jo p5 k n by omega]
      rcases lum_in (bf := bf) (jo := jo) (p5 := p5) (k := k) n with h | ⟨m, h1, h2⟩
      · exact Or.inl h
      · exact Or.inr ⟨m, by omega, h2⟩
    · exact Or.inr ⟨n, by omega, by omega⟩
theorem lum_eq {bf bf2 jo : Nat → Int} {p5 k : Int} : ∀ n : Nat, (∀ m : Nat, m < n → bf (p5 + m).toNat = bf2 (p5 + m).toNat) → lum bf jo p5 k n = lum bf2 jo p5 k n
  | 0, _ => rfl
  | n + 1, h => by
    show min (lum bf jo p5 k n) (bf (p5 + n).toNat + jo ((n : Int) * 5 + k).toNat) = min (lum bf2 jo p5 k n) (bf2 (p5 + n).toNat + jo ((n : Int) * 5 + k).toNat)
    rw [lum_eq n (fun m hm => h m (by omega)), h n (by omega)]
/-- the spots that are reached, by the pieces below s -/
def BFS (cnt : Int) (pl ln kd cs jo bf : Nat → Int) : Prop := bf 4 = 0 ∧ (∀ t : Nat, t < 125 → bf t = 1000000 ∨ (0 ≤ bf t ∧ bf t ≤ 792 * ((t / 5 : Nat) : Int))) ∧ (∀ y : Nat, (y : Int) < cnt → bf (sb pl ln kd y) ≤ lu pl kd cs bf jo y) ∧ (∀ t : Nat, t < 125 → t ≠ 4 → bf t = 1000000 ∨ ∃ y : Nat, (y : Int) < cnt ∧ sb pl ln kd y = t ∧ bf t = lu pl kd cs bf jo y)
theorem BFS.zero {pl ln kd cs jo bf : Nat → Int} (h : ∀ t : Nat, t < 125 → bf t = 1000000) : BFS 0 pl ln kd cs jo (zup bf 4 0) := by
  refine ⟨zup_eq, fun t ht => ?_, fun y hy => by omega, fun t ht hn => Or.inl (by rw [zup_ne hn]; exact h t ht)⟩
  by_cases e : t = 4
  · subst e; rw [zup_eq]; omega
  · rw [zup_ne e]; exact Or.inl (h t ht)
theorem BFS.step {ll cnt s : Int} {pl ln kd cs fi jo bf : Nat → Int} (hG : GN ll cnt pl ln kd cs fi) (hJ : JB jo) (h : BFS s pl ln kd cs jo bf) (h0 : 0 ≤ s) (h1 : s < cnt) {v : Int} (hv : v ≤ bf (sb pl ln kd s.toNat) ∧ v ≤ lu pl kd cs bf jo s.toNat ∧ (v = bf (sb pl ln kd s.toNat) ∨ v = lu pl kd cs bf jo s.toNat)) : BFS (s + 1) pl ln kd cs jo (zup bf (sb pl ln kd s.toNat) v) := by
  obtain ⟨a1, a2, a3, a4⟩ := h
  have hs := hG.at h0 h1
  have hsb := hG.spot (y := s.toNat) (by omega)
  have hl := hG.1
  have hlu : ∀ y : Nat, (y : Int) ≤ s → lu pl kd cs (zup bf (sb pl ln kd s.toNat) v) jo y = lu pl kd cs bf jo y := by
    intro y hy
    have hys : pl y ≤ pl s.toNat := by
      by_cases e : y = s.toNat
      · subst e; exact Int.le_refl _
      · exact hG.2.2.2.1 y s.toNat (by omega) (by omega)
    have hy0 := hG.2.1 y (by omega)
    unfold lu
    rw [lum_eq 5 (fun m hm => zup_ne (by omega))]
  have hlb : 0 ≤ lu pl kd cs bf jo s.toNat ∧ (lu pl kd cs bf jo s.toNat < 1000000 → lu pl kd cs bf jo s.toNat ≤ 792 * ((sb pl ln kd s.toNat / 5 : Nat) : Int)) := by
    unfold lu
    rcases lum_in (bf := bf) (jo := jo) (p5 := pl s.toNat * 5) (k := kd s.toNat) 5 with q | ⟨m, q1, q2⟩
    · omega
    · have hj := hJ ((m : Int) * 5 + kd s.toNat).toNat (by omega)
      have hb := a2 (pl s.toNat * 5 + m).toNat (by omega)
      omega
  refine ⟨?_, fun t ht => ?_, fun y hy => ?_, fun t ht hn => ?_⟩
  · rw [zup_ne (by omega)]; exact a1
  · by_cases e : t = sb pl ln kd s.toNat
    · subst e
      rw [zup_eq]
      have := a2 _ ht
      omega
    · rw [zup_ne e]; exact a2 t ht
  · rw [hlu y (by omega)]
    by_cases e : y = s.toNat
    · subst e; rw [zup_eq]; exact hv.2.1
    · have := a3 y (by omega)
      by_cases e2 : sb pl ln kd y = sb pl ln kd s.toNat
      · rw [e2, zup_eq]; rw [e2] at this; omega
      · rw [zup_ne e2]; exact this
  · by_cases e : t = sb pl ln kd s.toNat
    · subst e
      rw [zup_eq]
      rcases hv.2.2 with q | q
      · rcases a4 _ ht hn with r | ⟨y, r1, r2, r3⟩
        · exact Or.inl (by omega)
        · exact Or.inr ⟨y, by omega, r2, by rw [hlu y (by omega)]; omega⟩
      · exact Or.inr ⟨s.toNat, by omega, rfl, by rw [hlu _ (by omega)]; exact q⟩
    · rw [zup_ne e]
      rcases a4 t ht hn with r | ⟨y, r1, r2, r3⟩
      · exact Or.inl r
      · exact Or.inr ⟨y, by omega, r2, by rw [hlu y (by omega)]; exact r3⟩
/-- what follows a spot that is reached is reached -/
theorem BFS.on {ll cnt : Int} {pl ln kd cs fi jo bf : Nat → Int} (hG : GN ll cnt pl ln kd cs fi) (hJ : JB jo) (h : BFS cnt pl ln kd cs jo bf) {y : Nat} (hy : (y : Int) < cnt) {k : Nat} (hk : k ≤ 4) (hb : bf ((pl y).toNat * 5 + k) < 1000000) : lu pl kd cs bf jo y < 1000000 ∧ bf (sb pl ln kd y) < 1000000 := by
  obtain ⟨a1, a2, a3, a4⟩ := h
  have hl := hG.1
  have hg := hG.2.1 y hy
  have hj := hJ ((k : Int) * 5 + kd y).toNat (by omega)
  have hlm := (lum_le (bf := bf) (jo := jo) (p5 := pl y * 5) (k := kd y) 5).2 k (by omega)
  rw [show (pl y * 5 + (k : Int)).toNat = (pl y).toNat * 5 + k by omega] at hlm
  have h2 := a2 ((pl y).toNat * 5 + k) (by omega)
  have h3 := a3 y hy
  unfold lu at h3 ⊢
  omega
/-- a ranking, whole -/
def KW (ll cnt : Int) (pl ln kd cs fi jo bf ct ke : Nat → Int) : Prop := BFS cnt pl ln kd cs jo bf ∧ (∀ k : Nat, k < 4 → ct (5 * ll.toNat + k) = 1 ∧ ke (12 * (5 * ll.toNat + k)) = jo (5 * k + 4) * 8192) ∧ (∀ q k : Nat, 1 ≤ q → (q : Int) < ll → k < 4 → RS1 pl ln kd cs fi jo bf ct ke q k) ∧ RS1 pl ln kd cs fi jo bf ct ke 0 4
-- the reference's rows
def rf (cs rc rn : Nat → Int) (x : Nat) : Nat → Int := fun r => (rc (12 * x + r) - cs x) * 8192 + rn (12 * x + r)
/-- what may follow: pieces from lo on, those below y with all their rows, y with r of them -/
def CM (kd jo rw rc : Nat → Int) (k5 lo y r : Int) (v : Int) : Prop := ∃ i s : Nat, lo ≤ (i : Int) ∧ ((i : Int) < y ∨ ((i : Int) = y ∧ (s : Int) < r)) ∧ (s : Int) < rw i ∧ v = (jo (k5 + kd i).toNat + rc (12 * i + s)) * 8192 + 16 * i + s
theorem CM.none {kd jo rw rc : Nat → Int} {k5 lo : Int} (v : Int) : ¬ CM kd jo rw rc k5 lo lo 0 v := by
  rintro ⟨i, s, h1, h2, -⟩; omega
theorem CM.row {kd jo rw rc : Nat → Int} {k5 lo y r : Int} (hy : 0 ≤ y) (hr : rw y.toNat ≤ r) (v : Int) : CM kd jo rw rc k5 lo y r v ↔ CM kd jo rw rc k5 lo (y + 1) 0 v := by
  constructor
  · rintro ⟨i, s, h1, h2, h3, h4⟩
    exact ⟨i, s, h1, by omega, h3, h4⟩
  · rintro ⟨i, s, h1, h2, h3, h4⟩
    refine ⟨i, s, h1, ?_, h3, h4⟩
    by_cases e : (i : Int) = y
    · have : i = y.toNat := by omega
      rw [this] at h3
      omega
    · omega
theorem CM.step {kd jo rw rc : Nat → Int} {k5 lo y r v0 : Int} (hl : lo ≤ y) (hy : 0 ≤ y) (h0 : 0 ≤ r) (hr : r < rw y.toNat) (hv : v0 = (jo (k5 + kd y.toNat).toNat + rc (12 * y + r).toNat) * 8192 + 16 * y + r) (v : Int) : CM kd jo rw rc k5 lo y (r + 1) v ↔ CM kd jo rw rc k5 lo y r v ∨ v = v0 := by
  constructor
  · rintro ⟨i, s, h1, h2, h3, h4⟩
    by_cases e : (i : Int) = y ∧ (s : Int) = r
    · have ei : i = y.toNat := by omega
      have es : 12 * i + s = (12 * y + r).toNat := by omega
      rw [es, ei] at h4
      exact Or.inr (by omega)
    · exact Or.inl ⟨i, s, h1, by omega, h3, h4⟩
  · rintro (⟨i, s, h1, h2, h3, h4⟩ | h)
    · exact ⟨i, s, h1, by omega, h3, h4⟩
    · refine ⟨y.toNat, r.toNat, by omega, by omega, by omega, ?_⟩
      rw [show 12 * y.toNat + r.toNat = (12 * y + r).toNat by omega]
      omega
theorem CM.cast {kd jo rw rc rw2 rc2 : Nat → Int} {k5 lo y r : Int} (e : ∀ i : Nat, lo ≤ (i : Int) → (i : Int) ≤ y → rw2 i = rw i ∧ ∀ s : Nat, s < 12 → rc2 (12 * i + s) = rc (12 * i + s)) (hb : ∀ i : Nat, lo ≤ (i : Int) → (i : Int) ≤ y → rw i ≤ 12) (v : Int) : CM kd jo rw rc k5 lo y r v ↔ CM kd jo rw2 rc2 k5 lo y r v := by
  constructor
  · rintro ⟨i, s, h1, h2, h3, h4⟩
    obtain ⟨e1, e2⟩ := e i h1 (by omega)
    have := hb i h1 (by omega)
    exact ⟨i, s, h1, h2, by omega, by rw [e2 s (by omega)]; exact h4⟩
  · rintro ⟨i, s, h1, h2, h3, h4⟩
    obtain ⟨e1, e2⟩ := e i h1 (by omega)
    have := hb i h1 (by omega)
    exact ⟨i, s, h1, h2, by omega, by rw [← e2 s (by omega)]; exact h4⟩
/-- one piece's rows, as they must be -/
def RW1 (ll : Int) (pl ln kd cs fi jo rw rc rn : Nat → Int) (x : Nat) : Prop := (0 ≤ rw x ∧ rw x ≤ 12) ∧ (∀ r : Nat, (r : Int) < rw x → 0 ≤ rc (12 * x + r) ∧ rc (12 * x + r) ≤ 792 * (ll - pl x)) ∧ ((pl x + ln x = ll ∧ rw x = 1 ∧ rc (12 * x) = cs x + jo (5 * kd x + 4).toNat ∧ rn (12 * x) = -6) ∨ (pl x + ln x < ll ∧ (∀ r : Nat, (r : Int) < rw x → 0 ≤ rn (12 * x + r) ∧ rn (12 * x + r) < 8192) ∧ TP (CM kd jo rw rc (5 * kd x) (fi (pl x + ln x).toNat) (fi (pl x + ln x + 1).toNat) 0) (rw x) (rf cs rc rn x) ∧ TF (CM kd jo rw rc (5 * kd x) (fi (pl x + ln x).toNat) (fi (pl x + ln x + 1).toNat) 0) (rw x) (rf cs rc rn x)))
def RW (ll cnt : Int) (pl ln kd cs fi jo rw rc rn : Nat → Int) (lo : Int) : Prop := ∀ x : Nat, lo ≤ (x : Int) → (x : Int) < cnt → RW1 ll pl ln kd cs fi jo rw rc rn x
theorem GN.next {ll cnt : Int} {pl ln kd cs fi : Nat → Int} (h : GN ll cnt pl ln kd cs fi) {x i : Nat} (hx : (x : Int) < cnt) (he : pl x + ln x < ll) (h1 : fi (pl x + ln x).toNat ≤ i) (h2 : (i : Int) < fi (pl x + ln x + 1).toNat) : (i : Int) < cnt ∧ pl i = pl x + ln x ∧ x < i := by
  have hx1 := h.2.1 x hx
  rw [show (pl x + ln x + 1).toNat = (pl x + ln x).toNat + 1 by omega] at h2
  obtain ⟨a, b⟩ := h.in_ (p := (pl x + ln x).toNat) (by omega) h1 h2
  refine ⟨a, by omega, ?_⟩
  rcases Nat.lt_trichotomy x i with q | q | q
  · exact q
  · subst q; omega
  · have := h.2.2.2.1 i x q hx; omega
theorem GN.fi_ {ll cnt : Int} {pl ln kd cs fi : Nat → Int} (h : GN ll cnt pl ln kd cs fi) {p : Int} (h0 : 0 ≤ p) (hp : p < ll) : 0 ≤ fi p.toNat ∧ fi p.toNat ≤ fi (p + 1).toNat ∧ fi (p + 1).toNat ≤ cnt := by
  have a := h.2.2.2.2 p.toNat (by omega)
  have b := h.2.2.2.2 (p.toNat + 1) (by omega)
  rw [show (p + 1).toNat = p.toNat + 1 by omega]
  exact ⟨a.1, a.2.2 (by omega), b.2.1⟩
-- both sides' lists are the same
theorem CC.cm {pl ln kd cs jo ct ke rw rc : Nat → Int} {lo hi k : Int} (hy : ∀ y : Nat, lo ≤ (y : Int) → (y : Int) < hi → ct (sb pl ln kd y) = rw y ∧ ∀ r : Nat, (r : Int) < rw y → ke (12 * sb pl ln kd y + r) / 8192 = rc (12 * y + r) - cs y) (v : Int) : CC pl ln kd cs jo ct ke lo hi k v ↔ CM kd jo rw rc (5 * k) lo hi 0 v := by
  constructor
  · rintro ⟨y, h1, h2, r, h3, h4⟩
    obtain ⟨e1, e2⟩ := hy y h1 h2
    rw [e1] at h3
    have e3 := e2 r h3
    refine ⟨y, r, h1, Or.inl h2, h3, ?_⟩
    rw [h4, show 5 * k + kd y = k * 5 + kd y by omega]
    unfold wy
    rw [e3]
    omega
  · rintro ⟨y, r, h1, h2, h3, h4⟩
    have h2 : (y : Int) < hi := by omega
    obtain ⟨e1, e2⟩ := hy y h1 h2
    have e3 := e2 r h3
    refine ⟨y, h1, h2, r, by omega, ?_⟩
    rw [h4, show 5 * k + kd y = k * 5 + kd y by omega]
    unfold wy
    rw [e3]
    omega
theorem AG {ll cnt : Int} {pl ln kd cs fi jo bf ct ke rw rc rn : Nat → Int} (hG : GN ll cnt pl ln kd cs fi) (hJ : JB jo) (hK : KW ll cnt pl ln kd cs fi jo bf ct ke) (hR : RW ll cnt pl ln kd cs fi jo rw rc rn 0) : ∀ d x : Nat, (x : Int) < cnt → ll - (pl x + ln x) < d → bf (sb pl ln kd x) < 1000000 → ct (sb pl ln kd x) = rw x ∧ ∀ r : Nat, (r : Int) < rw x → ke (12 * sb pl ln kd x + r) / 8192 = rc (12 * x + r) - cs x ∧ (pl x + ln x < ll → ke (12 * sb pl ln kd x + r) = rf cs rc rn x r)
  | 0, x, hx, hd, _ => by
    have := hG.2.1 x hx
    omega
  | d + 1, x, hx, hd, hb => by
    obtain ⟨hBF, hEnd, hMid, hStart⟩ := hK
    have hg := hG.2.1 x hx
    have hsp := hG.spot hx
    obtain ⟨r1, r2, r3⟩ := hR x (by omega) hx
    rcases r3 with ⟨s1, s2, s3, s4⟩ | ⟨s1, s2, s3, s4⟩
    · obtain ⟨e1, e2⟩ := hEnd (kd x).toNat (by omega)
      have es : 5 * ll.toNat + (kd x).toNat = sb pl ln kd x := by omega
      rw [es] at e1 e2
      refine ⟨by omega, fun r hr => ⟨?_, fun q => by omega⟩⟩
      have er : r = 0 := by omega
      subst er
      rw [Nat.add_zero, Nat.add_zero, e2, s3, show (5 * kd x + 4).toNat = 5 * (kd x).toNat + 4 by omega]
      omega
    · have hq := hMid (pl x + ln x).toNat (kd x).toNat (by omega) (by omega) (by omega)
      have es : 5 * (pl x + ln x).toNat + (kd x).toNat = sb pl ln kd x := by omega
      have hq2 := hq.2 (by rw [es]; exact hb)
      rw [es] at hq2
      have hy : ∀ y : Nat, fi (pl x + ln x).toNat ≤ (y : Int) → (y : Int) < fi ((pl x + ln x).toNat + 1) → ct (sb pl ln kd y) = rw y ∧ ∀ r : Nat, (r : Int) < rw y → ke (12 * sb pl ln kd y + r) / 8192 = rc (12 * y + r) - cs y := by
        intro y y1 y2
        obtain ⟨g1, g2⟩ := hG.in_ (p := (pl x + ln x).toNat) (by omega) y1 y2
        have g3 := hG.2.1 y g1
        have g4 := BFS.on hG hJ hBF g1 (k := (kd x).toNat) (by omega) (by rw [show (pl y).toNat * 5 + (kd x).toNat = sb pl ln kd x by omega]; exact hb)
        obtain ⟨i1, i2⟩ := AG hG hJ ⟨hBF, hEnd, hMid, hStart⟩ hR d y g1 (by omega) g4.2
        exact ⟨i1, fun r hr => (i2 r hr).1⟩
      rw [show (pl x + ln x + 1).toNat = (pl x + ln x).toNat + 1 by omega, show (5 * kd x) = 5 * (((kd x).toNat : Nat) : Int) by omega] at s3 s4
      have hc := TP.cast hq2 (fun v => CC.cm hy v)
      obtain ⟨t1, t2⟩ := hc.1.same hc.2 s3 s4
      refine ⟨t1, fun r hr => ?_⟩
      have t3 : ke (12 * sb pl ln kd x + r) = rf cs rc rn x r := t2 r (by omega)
      refine ⟨?_, fun _ => t3⟩
      have := s2 r hr
      rw [t3]
      unfold rf
      omega
theorem AG.at {ll cnt : Int} {pl ln kd cs fi jo bf ct ke rw rc rn : Nat → Int} (hG : GN ll cnt pl ln kd cs fi) (hJ : JB jo) (hK : KW ll cnt pl ln kd cs fi jo bf ct ke) (hR : RW ll cnt pl ln kd cs fi jo rw rc rn 0) {x : Nat} (hx : (x : Int) < cnt) (hb : bf (sb pl ln kd x) < 1000000) : ct (sb pl ln kd x) = rw x ∧ ∀ r : Nat, (r : Int) < rw x → ke (12 * sb pl ln kd x + r) / 8192 = rc (12 * x + r) - cs x ∧ (pl x + ln x < ll → ke (12 * sb pl ln kd x + r) = rf cs rc rn x r) := by
  have := hG.2.1 x hx
  have := hG.1
  exact AG hG hJ hK hR 100 x hx (by omega) hb
theorem AG.start {ll cnt : Int} {pl ln kd cs fi jo bf ct ke rw rc rn : Nat → Int} (hl : 1 ≤ ll) (hG : GN ll cnt pl ln kd cs fi) (hJ : JB jo) (hK : KW ll cnt pl ln kd cs fi jo bf ct ke) (hR : RW ll cnt pl ln kd cs fi jo rw rc rn 0) : TP (CM kd jo rw rc 20 (fi 0) (fi 1) 0) (ct 4) (kl ke 4) ∧ TF (CM kd jo rw rc 20 (fi 0) (fi 1) 0) (ct 4) (kl ke 4) := by
  obtain ⟨hBF, hEnd, hMid, hStart⟩ := id hK
  have hq2 := hStart.2 (by rw [show 5 * 0 + 4 = 4 from rfl, hBF.1]; decide)
  refine TP.cast hq2 (fun v => CC.cm (k := ((4 : Nat) : Int)) (fun y y1 y2 => ?_) v)
  obtain ⟨g1, g2⟩ := hG.in_ (p := 0) (by omega) y1 y2
  have g4 := BFS.on hG hJ hBF g1 (k := 4) (by omega) (by rw [show (pl y).toNat * 5 + 4 = 4 by omega, hBF.1]; decide)
  obtain ⟨i1, i2⟩ := AG.at hG hJ hK hR g1 g4.2
  exact ⟨i1, fun r hr => (i2 r hr).1⟩
-- the least cost before a piece's end
def AS (pl ln kd cs jo A : Nat → Int) (y b : Nat) (c : Int) : Prop := (pl y = 0 ∧ c = jo (20 + kd y).toNat + cs y) ∨ ∃ z : Nat, z < b ∧ pl z + ln z = pl y ∧ 0 ≤ A z ∧ c = A z + jo (5 * kd z + kd y).toNat + cs y
def AH (pl ln kd cs jo A : Nat → Int) (y b : Nat) : Prop := (A y < 0 ∧ ∀ c, ¬ AS pl ln kd cs jo A y b c) ∨ (0 ≤ A y ∧ AS pl ln kd cs jo A y b (A y) ∧ (∀ c, AS pl ln kd cs jo A y b c → A y ≤ c) ∧ A y ≤ 792 * (pl y + 1))
theorem LA {ll cnt hi : Int} {pl ln kd cs fi jo bf A : Nat → Int} (hG : GN ll cnt pl ln kd cs fi) (hJ : JB jo) (hB : BFS cnt pl ln kd cs jo bf) (hh : hi ≤ cnt) (hA : ∀ y : Nat, (y : Int) < hi → AH pl ln kd cs jo A y y) : ∀ y : Nat, (y : Int) < hi → (0 ≤ A y ↔ lu pl kd cs bf jo y < 1000000) ∧ (0 ≤ A y → lu pl kd cs bf jo y = A y) := by
  intro y
  induction y using Nat.strongRecOn with
  | _ y ih =>
    intro hy
    obtain ⟨b1, b2, b3, b4⟩ := hB
    have hg := hG.2.1 y (by omega)
    have hl := hG.1
    have hup : ∀ c, AS pl ln kd cs jo A y y c → lu pl kd cs bf jo y ≤ c := by
      intro c hc
      unfold lu
      rcases hc with ⟨c1, c2⟩ | ⟨z, c1, c2, c3, c4⟩
      · have h5 := (lum_le (bf := bf) (jo := jo) (p5 := pl y * 5) (k := kd y) 5).2 4 (by omega)
        rw [show (pl y * 5 + ((4 : Nat) : Int)).toNat = 4 by omega, b1, show (((4 : Nat) : Int) * 5 + kd y) = 20 + kd y by omega] at h5
        omega
      · have hz := hG.2.1 z (by omega)
        have hsz := hG.spot (y := z) (by omega)
        have i2 := (ih z c1 (by omega)).2 c3
        have b5 := b3 z (by omega)
        have h5 := (lum_le (bf := bf) (jo := jo) (p5 := pl y * 5) (k := kd y) 5).2 (kd z).toNat (by omega)
        rw [show (pl y * 5 + (((kd z).toNat : Nat) : Int)).toNat = sb pl ln kd z by omega, show ((((kd z).toNat : Nat) : Int) * 5 + kd y) = 5 * kd z + kd y by omega] at h5
        omega
    have hin : 1000000 ≤ lu pl kd cs bf jo y ∨ AS pl ln kd cs jo A y y (lu pl kd cs bf jo y) := by
      rcases lum_in (bf := bf) (jo := jo) (p5 := pl y * 5) (k := kd y) 5 with q | ⟨m, q1, q2⟩
      · left; unfold lu; omega
      · have hjm := hJ ((m : Int) * 5 + kd y).toNat (by omega)
        by_cases e4 : (pl y * 5 + (m : Int)).toNat = 4
        · right
          left
          refine ⟨by omega, ?_⟩
          rw [e4, b1] at q2
          unfold lu
          rw [q2, show ((m : Int) * 5 + kd y) = 20 + kd y by omega]
          omega
        · rcases b4 _ (by omega) e4 with q | ⟨z, z1, z2, z3⟩
          · left; unfold lu; omega
          · have hz := hG.2.1 z z1
            have hsz := hG.spot z1
            have hzy : z < y := by
              rcases Nat.lt_trichotomy z y with r | r | r
              · exact r
              · subst r; omega
              · have := hG.2.2.2.1 y z r z1; omega
            have iz := ih z hzy (by omega)
            by_cases e : 0 ≤ A z
            · right
              right
              refine ⟨z, hzy, by omega, e, ?_⟩
              have := iz.2 e
              unfold lu
              unfold lu at this z3
              rw [q2, z3, show ((m : Int) * 5 + kd y) = 5 * kd z + kd y by omega]
              omega
            · left
              have : ¬ lu pl kd cs bf jo z < 1000000 := fun w => e (iz.1.mpr w)
              unfold lu
              omega
    rcases hA y hy with ⟨a1, a2⟩ | ⟨a1, a2, a3, a4⟩
    · refine ⟨⟨fun q => by omega, fun q => ?_⟩, fun q => by omega⟩
      rcases hin with r | r
      · omega
      · exact absurd r (a2 _)
    · have u1 := hup _ a2
      have u2 : A y ≤ lu pl kd cs bf jo y := by
        rcases hin with r | r
        · omega
        · exact a3 _ r
      exact ⟨⟨fun _ => by omega, fun _ => a1⟩, fun _ => by omega⟩
theorem AS.cast {pl ln kd cs jo A A2 : Nat → Int} {y b : Nat} (e : ∀ z : Nat, z < b → A2 z = A z) (c : Int) : AS pl ln kd cs jo A y b c ↔ AS pl ln kd cs jo A2 y b c := by
  constructor
  · rintro (h | ⟨z, h1, h2, h3, h4⟩)
    · exact Or.inl h
    · exact Or.inr ⟨z, h1, h2, by rw [e z h1]; exact h3, by rw [e z h1]; exact h4⟩
  · rintro (h | ⟨z, h1, h2, h3, h4⟩)
    · exact Or.inl h
    · exact Or.inr ⟨z, h1, h2, by rw [← e z h1]; exact h3, by rw [← e z h1]; exact h4⟩
theorem AH.keep {pl ln kd cs jo A A2 : Nat → Int} {y b : Nat} (h : AH pl ln kd cs jo A y b) (e : ∀ z : Nat, z < b → A2 z = A z) (ey : A2 y = A y) : AH pl ln kd cs jo A2 y b := by
  rcases h with ⟨h1, h2⟩ | ⟨h1, h2, h3, h4⟩
  · exact Or.inl ⟨by omega, fun c hc => h2 c ((AS.cast e c).mpr hc)⟩
  · exact Or.inr ⟨by omega, by rw [ey]; exact (AS.cast e _).mp h2, fun c hc => by rw [ey]; exact h3 c ((AS.cast e c).mpr hc), by omega⟩
theorem AH.zero {pl ln kd cs jo A : Nat → Int} {y : Nat} (h1 : pl y = 0 → A y = jo (20 + kd y).toNat + cs y) (h2 : pl y ≠ 0 → A y = -6) (hp : 0 ≤ pl y) (hj : 0 ≤ jo (20 + kd y).toNat ∧ jo (20 + kd y).toNat ≤ 99) (hc : 0 ≤ cs y ∧ cs y ≤ 693) : AH pl ln kd cs jo A y 0 := by
  by_cases e : pl y = 0
  · have := h1 e
    refine Or.inr ⟨by omega, Or.inl ⟨e, this⟩, fun c hcc => ?_, by omega⟩
    rcases hcc with ⟨-, q⟩ | ⟨z, z1, -⟩
    · omega
    · omega
  · have := h2 e
    refine Or.inl ⟨by omega, fun c hcc => ?_⟩
    rcases hcc with ⟨q, -⟩ | ⟨z, z1, -⟩
    · exact e q
    · omega
theorem AH.skip {pl ln kd cs jo A : Nat → Int} {y s : Nat} (h : AH pl ln kd cs jo A y s) (hn : ¬ (pl s + ln s = pl y ∧ 0 ≤ A s)) : AH pl ln kd cs jo A y (s + 1) := by
  have e : ∀ c, AS pl ln kd cs jo A y (s + 1) c ↔ AS pl ln kd cs jo A y s c := by
    intro c
    constructor
    · rintro (q | ⟨z, z1, z2, z3, z4⟩)
      · exact Or.inl q
      · by_cases ez : z = s
        · subst ez; exact absurd ⟨z2, z3⟩ hn
        · exact Or.inr ⟨z, by omega, z2, z3, z4⟩
    · rintro (q | ⟨z, z1, z2, z3, z4⟩)
      · exact Or.inl q
      · exact Or.inr ⟨z, by omega, z2, z3, z4⟩
  rcases h with ⟨h1, h2⟩ | ⟨h1, h2, h3, h4⟩
  · exact Or.inl ⟨h1, fun c hc => h2 c ((e c).mp hc)⟩
  · exact Or.inr ⟨h1, (e _).mpr h2, fun c hc => h3 c ((e c).mp hc), h4⟩
theorem AH.take {pl ln kd cs jo A : Nat → Int} {y s : Nat} {c v : Int} (h : AH pl ln kd cs jo A y s) (hs : s < y) (he : pl s + ln s = pl y) (h0 : 0 ≤ A s) (hb : A s ≤ 792 * (pl s + 1)) (hl : 1 ≤ ln s) (hp : 0 ≤ pl y) (hj : 0 ≤ jo (5 * kd s + kd y).toNat ∧ jo (5 * kd s + kd y).toNat ≤ 99) (hc : 0 ≤ cs y ∧ cs y ≤ 693) (ec : c = A s + jo (5 * kd s + kd y).toNat + cs y) (hv : ((A y < 0 ∨ c < A y) ∧ v = c) ∨ (¬ (A y < 0 ∨ c < A y) ∧ v = A y)) : AH pl ln kd cs jo (zup A y v) y (s + 1) := by
  have e : ∀ w, AS pl ln kd cs jo (zup A y v) y (s + 1) w ↔ AS pl ln kd cs jo A y s w ∨ w = c := by
    intro w
    rw [← AS.cast (A := A) (A2 := zup A y v) (fun z hz => zup_ne (by omega))]
    constructor
    · rintro (q | ⟨z, z1, z2, z3, z4⟩)
      · exact Or.inl (Or.inl q)
      · by_cases ez : z = s
        · subst ez; exact Or.inr (by omega)
        · exact Or.inl (Or.inr ⟨z, by omega, z2, z3, z4⟩)
    · rintro ((q | ⟨z, z1, z2, z3, z4⟩) | q)
      · exact Or.inl q
      · exact Or.inr ⟨z, by omega, z2, z3, z4⟩
      · exact Or.inr ⟨s, by omega, he, h0, by omega⟩
  have ez : zup A y v y = v := zup_eq
  rcases h with ⟨h1, h2⟩ | ⟨h1, h2, h3, h4⟩
  · refine Or.inr ⟨by omega, (e _).mpr (Or.inr (by omega)), fun w hw => ?_, by omega⟩
    rcases (e w).mp hw with q | q
    · exact absurd q (h2 w)
    · omega
  · refine Or.inr ⟨by omega, (e _).mpr ?_, fun w hw => ?_, by omega⟩
    · rw [ez]
      rcases hv with ⟨-, q⟩ | ⟨-, q⟩
      · exact Or.inr q
      · rw [q]; exact Or.inl h2
    · rcases (e w).mp hw with q | q
      · have := h3 w q; omega
      · omega
-- the rows of a cutting
def wk (N : Int → Int) (c : Int) : Nat → Int
  | 0 => c
  | j + 1 => N (wk N c j)
def PA (N : Int → Int) (c : Int) (n : Nat) : Prop := (∀ j : Nat, j < n → 0 ≤ wk N c j) ∧ wk N c n < 0
def nC (ll : Int) (pl ln kd ke : Nat → Int) (c : Int) : Int := if pl (c / 16).toNat + ln (c / 16).toNat < ll then ke (12 * sb pl ln kd (c / 16).toNat + (c % 16).toNat) % 8192 else -6
def nM (rn : Nat → Int) (c : Int) : Int := rn (12 * (c / 16) + c % 16).toNat
def VC (cnt : Int) (pl ln kd bf rw : Nat → Int) (c : Int) : Prop := 0 ≤ c ∧ c / 16 < cnt ∧ bf (sb pl ln kd (c / 16).toNat) < 1000000 ∧ c % 16 < rw (c / 16).toNat
theorem CM.vc {ll cnt : Int} {pl ln kd cs fi jo bf rw rc : Nat → Int} {q k : Nat} {k5 v : Int} (hG : GN ll cnt pl ln kd cs fi) (hJ : JB jo) (hB : BFS cnt pl ln kd cs jo bf) (hr : ∀ x : Nat, (x : Int) < cnt → rw x ≤ 12) (hq : (q : Int) < ll) (hk : k ≤ 4) (hb : bf (q * 5 + k) < 1000000) (h : CM kd jo rw rc k5 (fi q) (fi (q + 1)) 0 v) : VC cnt pl ln kd bf rw (v % 8192) := by
  obtain ⟨i, s, h1, h2, h3, h4⟩ := h
  obtain ⟨g1, g2⟩ := hG.in_ (p := q) hq h1 (by omega)
  have := hr i g1
  have hc := hG.1
  have e1 : v % 8192 = 16 * i + s := by omega
  have e2 : ((16 * (i : Int) + s) / 16).toNat = i := by omega
  have g4 := BFS.on hG hJ hB g1 (k := k) hk (by rw [show (pl i).toNat = q by omega]; exact hb)
  refine ⟨by omega, by omega, ?_, ?_⟩
  · rw [e1, e2]; exact g4.2
  · rw [e1, e2]; omega
theorem nx_same {ll cnt : Int} {pl ln kd cs fi jo bf ct ke rw rc rn : Nat → Int} (hG : GN ll cnt pl ln kd cs fi) (hJ : JB jo) (hK : KW ll cnt pl ln kd cs fi jo bf ct ke) (hR : RW ll cnt pl ln kd cs fi jo rw rc rn 0) {c : Int} (hv : VC cnt pl ln kd bf rw c) : nC ll pl ln kd ke c = nM rn c ∧ (0 ≤ nM rn c → VC cnt pl ln kd bf rw (nM rn c)) := by
  obtain ⟨v1, v2, v3, v4⟩ := hv
  have hx : (((c / 16).toNat : Nat) : Int) < cnt := by omega
  have hg := hG.2.1 _ hx
  have hsp := hG.spot hx
  obtain ⟨a1, a2⟩ := AG.at hG hJ hK hR hx v3
  obtain ⟨r1, r2, r3⟩ := hR _ (by omega) hx
  obtain ⟨b1, b2⟩ := a2 (c % 16).toNat (by omega)
  have e1 : (12 * (c / 16) + c % 16).toNat = 12 * (c / 16).toNat + (c % 16).toNat := by omega
  unfold nC nM
  rw [e1]
  rcases r3 with ⟨s1, s2, s3, s4⟩ | ⟨s1, s2, s3, s4⟩
  · rw [if_neg (by omega), show (c % 16).toNat = 0 by omega, Nat.add_zero, s4]
    exact ⟨rfl, fun q => by omega⟩
  · have s5 := s2 (c % 16).toNat (by omega)
    have b3 := b2 s1
    rw [if_pos s1, b3]
    have e2 : rf cs rc rn (c / 16).toNat (c % 16).toNat % 8192 = rn (12 * (c / 16).toNat + (c % 16).toNat) := by unfold rf; omega
    rw [e2]
    refine ⟨rfl, fun _ => ?_⟩
    rw [show (pl (c / 16).toNat + ln (c / 16).toNat + 1).toNat = (pl (c / 16).toNat + ln (c / 16).toNat).toNat + 1 by omega] at s3
    have := CM.vc (q := (pl (c / 16).toNat + ln (c / 16).toNat).toNat) (k := (kd (c / 16).toNat).toNat) hG hJ hK.1 (fun x hx => (hR x (by omega) hx).1.2) (by omega) (by omega) (by rw [show (pl (c / 16).toNat + ln (c / 16).toNat).toNat * 5 + (kd (c / 16).toNat).toNat = sb pl ln kd (c / 16).toNat by omega]; exact v3) (s3.2.2.1 (c % 16).toNat (by omega))
    rw [e2] at this
    exact this
theorem wk_same {ll cnt : Int} {pl ln kd cs fi jo bf ct ke rw rc rn : Nat → Int} (hG : GN ll cnt pl ln kd cs fi) (hJ : JB jo) (hK : KW ll cnt pl ln kd cs fi jo bf ct ke) (hR : RW ll cnt pl ln kd cs fi jo rw rc rn 0) {c : Int} (hv : VC cnt pl ln kd bf rw c) : ∀ j : Nat, (∀ i : Nat, i < j → 0 ≤ wk (nC ll pl ln kd ke) c i) → wk (nC ll pl ln kd ke) c j = wk (nM rn) c j ∧ (0 ≤ wk (nM rn) c j → VC cnt pl ln kd bf rw (wk (nM rn) c j))
  | 0, _ => ⟨rfl, fun _ => hv⟩
  | j + 1, h => by
    obtain ⟨i1, i2⟩ := wk_same hG hJ hK hR hv j (fun i hi => h i (by omega))
    have h0 := h j (by omega)
    have hx := nx_same hG hJ hK hR (i2 (by omega))
    show nC ll pl ln kd ke (wk (nC ll pl ln kd ke) c j) = nM rn (wk (nM rn) c j) ∧ (0 ≤ nM rn (wk (nM rn) c j) → VC cnt pl ln kd bf rw (nM rn (wk (nM rn) c j)))
    rw [i1]
    exact hx
theorem PA.same {ll cnt : Int} {pl ln kd cs fi jo bf ct ke rw rc rn : Nat → Int} (hG : GN ll cnt pl ln kd cs fi) (hJ : JB jo) (hK : KW ll cnt pl ln kd cs fi jo bf ct ke) (hR : RW ll cnt pl ln kd cs fi jo rw rc rn 0) {c : Int} (hv : VC cnt pl ln kd bf rw c) {n m : Nat} (h : PA (nC ll pl ln kd ke) c n) (g : PA (nM rn) c m) : n = m ∧ ∀ j : Nat, j ≤ n → wk (nC ll pl ln kd ke) c j = wk (nM rn) c j := by
  have hs := wk_same hG hJ hK hR hv
  have he : ∀ j : Nat, j ≤ n → wk (nC ll pl ln kd ke) c j = wk (nM rn) c j := fun j hj => (hs j (fun i hi => h.1 i (by omega))).1
  refine ⟨?_, he⟩
  rcases Nat.lt_trichotomy n m with q | q | q
  · have a := g.1 n q
    have b := h.2
    rw [he n (Nat.le_refl _)] at b
    omega
  · exact q
  · have a := h.1 m q
    rw [he m (by omega)] at a
    have := g.2
    omega
/-- one step along a cutting, by the class's lists -/
theorem KW.go {ll cnt : Int} {pl ln kd cs fi jo bf ct ke : Nat → Int} (hG : GN ll cnt pl ln kd cs fi) (hJ : JB jo) (hc : CB ct) (hK : KW ll cnt pl ln kd cs fi jo bf ct ke) {q k r : Nat} (hq : (q : Int) < ll) (hv : (1 ≤ q ∧ k < 4) ∨ (q = 0 ∧ k = 4)) (hb : bf (5 * q + k) < 1000000) (hr : (r : Int) < ct (5 * q + k)) : ∃ y s : Nat, (y : Int) < cnt ∧ pl y = q ∧ s < 12 ∧ ke (12 * (5 * q + k) + r) % 8192 = 16 * y + s ∧ bf (sb pl ln kd y) < 1000000 ∧ (s : Int) < ct (sb pl ln kd y) := by
  obtain ⟨hBF, hEnd, hMid, hStart⟩ := id hK
  have hRS : RS1 pl ln kd cs fi jo bf ct ke q k := by
    rcases hv with ⟨v1, v2⟩ | ⟨rfl, rfl⟩
    · exact hMid q k v1 hq v2
    · exact hStart
  obtain ⟨y, y1, y2, s, s1, s2⟩ := (hRS.2 hb).1.2.2.1 r hr
  obtain ⟨g1, g2⟩ := hG.in_ hq y1 y2
  have g3 := hG.spot g1
  have g5 := hG.1
  have g6 := hc _ g3.2
  have g4 := BFS.on hG hJ hBF g1 (k := k) (by omega) (by rw [show (pl y).toNat * 5 + k = 5 * q + k by omega]; exact hb)
  have hm := wy_m (c := jo ((k : Int) * 5 + kd y).toNat + cs y) (p := y) (ke := ke) (b := sb pl ln kd y) (r := s) (by omega) (by omega)
  have s3 : ke (12 * (5 * q + k) + r) = wy (jo ((k : Int) * 5 + kd y).toNat + cs y) y ke (sb pl ln kd y) s := s2
  exact ⟨y, s, g1, g2, by omega, by rw [s3]; omega, g4.2, s1⟩
-- what is written
def oW (ln kd cd : Nat → Int) : Nat → Int
  | 0 => 0
  | j + 1 => oW ln kd cd j + ln (cd j / 16).toNat + (if kd (cd j / 16).toNat = 3 then 1 else 0) + 1
def sgv (li pl ln kd : Nat → Int) (y : Nat) (k : Int) : Int := if k < ln y then li (pl y + k).toNat else if k = ln y ∧ kd y = 3 then 63 else 124
def SG (li pl ln kd cd : Nat → Int) (n : Nat) (q v : Int) : Prop := ∃ j : Nat, j < n ∧ oW ln kd cd j ≤ q ∧ q < oW ln kd cd (j + 1) ∧ (j + 1 = n → q + 1 < oW ln kd cd (j + 1)) ∧ v = sgv li pl ln kd (cd j / 16).toNat (q - oW ln kd cd j)
theorem oW_cast {ln kd cd ln2 kd2 cd2 : Nat → Int} : ∀ n : Nat, (∀ j : Nat, j < n → cd j = cd2 j ∧ ln (cd j / 16).toNat = ln2 (cd j / 16).toNat ∧ kd (cd j / 16).toNat = kd2 (cd j / 16).toNat) → oW ln kd cd n = oW ln2 kd2 cd2 n
  | 0, _ => rfl
  | n + 1, h => by
    obtain ⟨h1, h2, h3⟩ := h n (by omega)
    show oW ln kd cd n + ln (cd n / 16).toNat + (if kd (cd n / 16).toNat = 3 then 1 else 0) + 1 = oW ln2 kd2 cd2 n + ln2 (cd2 n / 16).toNat + (if kd2 (cd2 n / 16).toNat = 3 then 1 else 0) + 1
    rw [oW_cast n (fun j hj => h j (by omega)), h2, h3, h1]
theorem oW_up {ln kd cd : Nat → Int} {a : Nat} : ∀ n : Nat, a ≤ n → (∀ j : Nat, j < n → 1 ≤ ln (cd j / 16).toNat) → oW ln kd cd a + (n - a : Nat) ≤ oW ln kd cd n
  | 0, h, _ => by rw [show a = 0 by omega]; exact Int.le_refl _
  | n + 1, h, hl => by
    by_cases e : a = n + 1
    · rw [e]; show _ + ((n + 1 - (n + 1) : Nat) : Int) ≤ _; omega
    · have := oW_up (ln := ln) (kd := kd) (cd := cd) (a := a) n (by omega) (fun j hj => hl j (by omega))
      have h2 := hl n (by omega)
      show _ ≤ oW ln kd cd n + ln (cd n / 16).toNat + (if kd (cd n / 16).toNat = 3 then 1 else 0) + 1
      split <;> omega
theorem SG.same {li pl ln kd cd li2 pl2 ln2 kd2 cd2 : Nat → Int} {n : Nat} {q v v2 : Int} (h : SG li pl ln kd cd n q v) (g : SG li2 pl2 ln2 kd2 cd2 n q v2) (e : ∀ j : Nat, j < n → cd j = cd2 j ∧ ln (cd j / 16).toNat = ln2 (cd j / 16).toNat ∧ kd (cd j / 16).toNat = kd2 (cd j / 16).toNat ∧ pl (cd j / 16).toNat = pl2 (cd j / 16).toNat ∧ 1 ≤ ln (cd j / 16).toNat ∧ ∀ k : Int, 0 ≤ k → k < ln (cd j / 16).toNat → li (pl (cd j / 16).toNat + k).toNat = li2 (pl (cd j / 16).toNat + k).toNat) : v = v2 := by
  obtain ⟨j, h1, h2, h3, h4, h5⟩ := h
  obtain ⟨i, g1, g2, g3, g4, g5⟩ := g
  have ho : ∀ m : Nat, m ≤ n → oW ln kd cd m = oW ln2 kd2 cd2 m := fun m hm => oW_cast m (fun j hj => ⟨(e j (by omega)).1, (e j (by omega)).2.1, (e j (by omega)).2.2.1⟩)
  rw [← ho i (by omega)] at g2
  rw [← ho (i + 1) (by omega)] at g3
  have hl : ∀ j : Nat, j < n → 1 ≤ ln (cd j / 16).toNat := fun j hj => (e j hj).2.2.2.2.1
  have hij : i = j := by
    rcases Nat.lt_trichotomy i j with q | q | q
    · have := oW_up (ln := ln) (kd := kd) (cd := cd) (a := i + 1) j q (fun k hk => hl k (by omega))
      omega
    · exact q
    · have := oW_up (ln := ln) (kd := kd) (cd := cd) (a := j + 1) i q (fun k hk => hl k (by omega))
      omega
  subst hij
  obtain ⟨e1, e2, e3, e4, e5, e6⟩ := e i h1
  rw [← e1, ← ho i (by omega)] at g5
  rw [h5, g5]
  unfold sgv
  rw [← e2, ← e3, ← e4]
  by_cases q1 : q - oW ln kd cd i < ln (cd i / 16).toNat
  · rw [if_pos q1, if_pos q1]; exact e6 _ (by omega) q1
  · rw [if_neg q1, if_neg q1]
-- how many ways
def sm (f : Nat → Int) : Nat → Int
  | 0 => 0
  | n + 1 => sm f n + f n
theorem sm_eq {f g : Nat → Int} : ∀ n : Nat, (∀ i : Nat, i < n → f i = g i) → sm f n = sm g n
  | 0, _ => rfl
  | n + 1, h => by
    show sm f n + f n = sm g n + g n
    rw [sm_eq n (fun i hi => h i (by omega)), h n (by omega)]
theorem sm_add {f g : Nat → Int} : ∀ n : Nat, sm (fun i => f i + g i) n = sm f n + sm g n
  | 0 => rfl
  | n + 1 => by
    show sm (fun i => f i + g i) n + (f n + g n) = sm f n + f n + (sm g n + g n)
    rw [sm_add n]; omega
theorem sm_mul {f : Nat → Int} {c : Int} : ∀ n : Nat, c * sm f n = sm (fun i => c * f i) n
  | 0 => Int.mul_zero c
  | n + 1 => by
    show c * (sm f n + f n) = sm (fun i => c * f i) n + c * f n
    rw [Int.mul_add, sm_mul n]
theorem sm_zero {f : Nat → Int} : ∀ n : Nat, (∀ i : Nat, i < n → f i = 0) → sm f n = 0
  | 0, _ => rfl
  | n + 1, h => by
    show sm f n + f n = 0
    rw [sm_zero n (fun i hi => h i (by omega)), h n (by omega)]; rfl
theorem sm_one {f g : Nat → Int} {s : Nat} {d : Int} : ∀ n : Nat, s < n → (∀ i : Nat, i < n → i ≠ s → f i = g i) → f s = g s + d → sm f n = sm g n + d
  | 0, h, _, _ => by omega
  | n + 1, h, h1, h2 => by
    show sm f n + f n = sm g n + g n + d
    by_cases e : s = n
    · subst e
      rw [sm_eq s (fun i hi => h1 i (by omega) (by omega)), h2]; omega
    · rw [sm_one n (by omega) (fun i hi hn => h1 i (by omega) hn) h2, h1 n (by omega) (by omega)]; omega
theorem sm_pick {g : Nat → Int} {p : Nat} (n : Nat) (h : p < n) : sm (fun i => if p = i then g i else 0) n = g p := by
  have := sm_one (f := fun i => if p = i then g i else 0) (g := fun _ => 0) (s := p) (d := g p) n h (fun i _ hn => if_neg (fun q => hn q.symm)) (by show (if p = p then g p else 0) = _; rw [if_pos rfl]; omega)
  rw [this, sm_zero n (fun _ _ => rfl)]; omega
theorem sm_swap {F : Nat → Nat → Int} {n : Nat} : ∀ m : Nat, sm (fun p => sm (fun i => F p i) n) m = sm (fun i => sm (fun p => F p i) m) n
  | 0 => (sm_zero n (fun _ _ => rfl)).symm
  | m + 1 => by
    show sm (fun p => sm (fun i => F p i) n) m + sm (fun i => F m i) n = sm (fun i => sm (fun p => F p i) m + F m i) n
    rw [sm_add, sm_swap m]
theorem sm_head {f : Nat → Int} : ∀ n : Nat, sm f (n + 1) = f 0 + sm (fun i => f (i + 1)) n
  | 0 => by show 0 + f 0 = f 0 + 0; omega
  | n + 1 => by
    show sm f (n + 1) + f (n + 1) = f 0 + (sm (fun i => f (i + 1)) n + f (n + 1))
    rw [sm_head n]; omega
def cg (a b : Int) : Prop := (1000003 : Int) ∣ a - b
theorem cg_mul {a b : Int} (h : cg a b) (c : Int) : cg (c * a) (c * b) := by
  obtain ⟨k, hk⟩ := h
  exact ⟨c * k, by rw [← Int.mul_sub, hk, Int.mul_left_comm]⟩
theorem cg_sm {f g : Nat → Int} : ∀ n : Nat, (∀ i : Nat, i < n → cg (f i) (g i)) → cg (sm f n) (sm g n)
  | 0, _ => ⟨0, rfl⟩
  | n + 1, h => by
    obtain ⟨a, ha⟩ := cg_sm n (fun i hi => h i (by omega))
    obtain ⟨b, hb⟩ := h n (by omega)
    refine ⟨a + b, ?_⟩
    show sm f n + f n - (sm g n + g n) = _
    omega
/-- ways from the first letter on -/
def WX (ll cnt : Int) (pl ln X : Nat → Int) : Prop := ∀ q : Nat, (q : Int) ≤ ll → cg (X q) ((if q = 0 then 1 else 0) + sm (fun i => if pl i + ln i = q then X (pl i).toNat else 0) cnt.toNat)
/-- ways to the last -/
def WY (ll cnt : Int) (pl ln Y : Nat → Int) : Prop := Y ll.toNat = 1 ∧ ∀ q : Nat, (q : Int) < ll → cg (Y q) (sm (fun i => if pl i = q then Y (pl i + ln i).toNat else 0) cnt.toNat)
theorem ways_same {ll cnt : Int} {pl ln X Y : Nat → Int} (hl : 0 ≤ ll) (hp : ∀ i : Nat, (i : Int) < cnt → 0 ≤ pl i ∧ 1 ≤ ln i ∧ pl i + ln i ≤ ll) (hX : WX ll cnt pl ln X) (hY : WY ll cnt pl ln Y) (x1 : 0 ≤ X ll.toNat ∧ X ll.toNat < 1000003) (y1 : 0 ≤ Y 0 ∧ Y 0 < 1000003) : X ll.toNat = Y 0 := by
  obtain ⟨hY1, hY2⟩ := hY
  have hB : cg (sm (fun q => X q * Y q) ll.toNat) (sm (fun i => X (pl i).toNat * Y (pl i + ln i).toNat) cnt.toNat) := by
    have h1 := cg_sm (f := fun q => X q * Y q) (g := fun q => X q * sm (fun i => if pl i = q then Y (pl i + ln i).toNat else 0) cnt.toNat) ll.toNat (fun q hq => cg_mul (hY2 q (by omega)) _)
    have h2 : sm (fun q => X q * sm (fun i => if pl i = (q : Int) then Y (pl i + ln i).toNat else 0) cnt.toNat) ll.toNat = sm (fun i => X (pl i).toNat * Y (pl i + ln i).toNat) cnt.toNat := by
      rw [sm_eq (g := fun q => sm (fun i => X q * (if pl i = (q : Int) then Y (pl i + ln i).toNat else 0)) cnt.toNat) ll.toNat (fun q hq => sm_mul _), sm_swap]
      refine sm_eq _ (fun i hi => ?_)
      have hi2 := hp i (by omega)
      rw [sm_eq (g := fun q => if (pl i).toNat = q then X q * Y (pl i + ln i).toNat else 0) ll.toNat (fun q hq => ?_), sm_pick ll.toNat (by omega)]
      by_cases e : pl i = (q : Int)
      · rw [if_pos e, if_pos (by omega)]
      · rw [if_neg e, if_neg (by omega), Int.mul_zero]
    rw [h2] at h1
    exact h1
  have hF : cg (sm (fun q => Y (q + 1) * X (q + 1)) ll.toNat) (sm (fun i => X (pl i).toNat * Y (pl i + ln i).toNat) cnt.toNat) := by
    have h1 := cg_sm (f := fun q => Y (q + 1) * X (q + 1)) (g := fun q => Y (q + 1) * ((if q + 1 = 0 then 1 else 0) + sm (fun i => if pl i + ln i = ((q + 1 : Nat) : Int) then X (pl i).toNat else 0) cnt.toNat)) ll.toNat (fun q hq => cg_mul (hX (q + 1) (by omega)) _)
    have h2 : sm (fun q => Y (q + 1) * ((if q + 1 = 0 then 1 else 0) + sm (fun i => if pl i + ln i = ((q + 1 : Nat) : Int) then X (pl i).toNat else 0) cnt.toNat)) ll.toNat = sm (fun i => X (pl i).toNat * Y (pl i + ln i).toNat) cnt.toNat := by
      rw [sm_eq (g := fun q => sm (fun i => Y (q + 1) * (if pl i + ln i = ((q + 1 : Nat) : Int) then X (pl i).toNat else 0)) cnt.toNat) ll.toNat (fun q hq => by rw [if_neg (by omega), Int.zero_add]; exact sm_mul _), sm_swap]
      refine sm_eq _ (fun i hi => ?_)
      have hi2 := hp i (by omega)
      rw [sm_eq (g := fun q => if (pl i + ln i - 1).toNat = q then Y (q + 1) * X (pl i).toNat else 0) ll.toNat (fun q hq => ?_), sm_pick ll.toNat (by omega), show (pl i + ln i - 1).toNat + 1 = (pl i + ln i).toNat by omega, Int.mul_comm]
      by_cases e : pl i + ln i = ((q + 1 : Nat) : Int)
      · rw [if_pos e, if_pos (by omega)]
      · rw [if_neg e, if_neg (by omega), Int.mul_zero]
    rw [h2] at h1
    exact h1
  have hX0 : cg (X 0) 1 := by
    have := hX 0 (by omega)
    rw [sm_zero cnt.toNat (fun i hi => if_neg (by have := hp i (by omega); omega)), if_pos rfl] at this
    exact this
  have hs : sm (fun q => X q * Y q) (ll.toNat + 1) = X 0 * Y 0 + sm (fun q => Y (q + 1) * X (q + 1)) ll.toNat := by
    rw [sm_head]
    congr 1
    exact sm_eq _ (fun q _ => Int.mul_comm _ _)
  have hs2 : sm (fun q => X q * Y q) (ll.toNat + 1) = sm (fun q => X q * Y q) ll.toNat + X ll.toNat := by
    show sm (fun q => X q * Y q) ll.toNat + X ll.toNat * Y ll.toNat = _
    rw [hY1, Int.mul_one]
  have h0 := cg_mul hX0 (Y 0)
  rw [Int.mul_comm (Y 0) (X 0), Int.mul_one] at h0
  obtain ⟨a, ha⟩ := hB
  obtain ⟨b, hb⟩ := hF
  obtain ⟨c, hc⟩ := h0
  have : X ll.toNat - Y 0 = 1000003 * (c + b - a) := by omega
  omega
theorem zup_same {g : Nat → Int} {k : Nat} {v : Int} (h : v = g k) : zup g k v = g := by
  funext j
  by_cases e : j = k
  · rw [e, zup_eq, h]
  · exact zup_ne e
theorem cg_of {a b c : Int} (h : cg a b) (e : c = (a + 0) % 1000003 ∨ c = a) : cg c b := by
  obtain ⟨k, hk⟩ := h
  rcases e with e | e
  · exact ⟨k - a / 1000003, by omega⟩
  · exact ⟨k, by omega⟩
theorem cg_add {a b d : Int} (h : cg a b) : cg ((a + d) % 1000003) (b + d) := by
  obtain ⟨k, hk⟩ := h
  exact ⟨k - (a + d) / 1000003, by omega⟩
def WYs (ll cnt s : Int) (pl ln Y : Nat → Int) : Prop := (∀ q : Nat, (q : Int) ≤ ll → 0 ≤ Y q ∧ Y q < 1000003) ∧ Y ll.toNat = 1 ∧ ∀ q : Nat, (q : Int) < ll → cg (Y q) (sm (fun i => if s < (i : Int) ∧ pl i = q then Y (pl i + ln i).toNat else 0) cnt.toNat)
theorem WYs.zero {ll cnt : Int} {pl ln Y : Nat → Int} (h : ∀ j : Nat, (j : Int) < ll → Y j = 0) (hl : 0 ≤ ll) : WYs ll cnt (cnt - 1) pl ln (zup Y ll.toNat 1) := by
  refine ⟨fun q hq => ?_, zup_eq, fun q hq => ?_⟩
  · by_cases e : q = ll.toNat
    · rw [e, zup_eq]; omega
    · rw [zup_ne e, h q (by omega)]; omega
  · rw [zup_ne (by omega), h q hq, sm_zero _ (fun i hi => if_neg (by omega))]
    exact ⟨0, rfl⟩
theorem WYs.step {ll cnt s : Int} {pl ln kd cs fi Y : Nat → Int} (hG : GN ll cnt pl ln kd cs fi) (h : WYs ll cnt s pl ln Y) (h0 : 0 ≤ s) (h1 : s < cnt) {v : Int} (hv : v = (Y (pl s.toNat).toNat + Y (pl s.toNat + ln s.toNat).toNat) % 1000003) : WYs ll cnt (s + -1) pl ln (zup Y (pl s.toNat).toNat v) := by
  obtain ⟨a1, a2, a3⟩ := h
  have hs := hG.at h0 h1
  have hl := hG.1
  have hend : ∀ i : Nat, s ≤ (i : Int) → (i : Int) < cnt → zup Y (pl s.toNat).toNat v (pl i + ln i).toNat = Y (pl i + ln i).toNat := by
    intro i i1 i2
    have hi := hG.2.1 i i2
    have hp : pl s.toNat ≤ pl i := by
      by_cases e : i = s.toNat
      · rw [e]; exact Int.le_refl _
      · exact hG.2.2.2.1 s.toNat i (by omega) i2
    exact zup_ne (by omega)
  refine ⟨fun q hq => ?_, by rw [zup_ne (by omega)]; exact a2, fun q hq => ?_⟩
  · by_cases e : q = (pl s.toNat).toNat
    · rw [e, zup_eq]; omega
    · rw [zup_ne e]; exact a1 q hq
  · by_cases e : q = (pl s.toNat).toNat
    · have hsum : sm (fun i => if s + -1 < (i : Int) ∧ pl i = q then zup Y (pl s.toNat).toNat v (pl i + ln i).toNat else 0) cnt.toNat = sm (fun i => if s < (i : Int) ∧ pl i = q then Y (pl i + ln i).toNat else 0) cnt.toNat + Y (pl s.toNat + ln s.toNat).toNat := by
        refine sm_one (s := s.toNat) cnt.toNat (by omega) (fun i hi hn => ?_) ?_
        · by_cases c : s < (i : Int) ∧ pl i = q
          · rw [if_pos c, if_pos (by omega), hend i (by omega) (by omega)]
          · rw [if_neg c, if_neg (by omega)]
        · rw [if_pos (by omega), if_neg (by omega), hend s.toNat (by omega) (by omega)]
          omega
      rw [hsum, e, zup_eq, hv]
      have := a3 q hq
      rw [e] at this
      exact cg_add this
    · rw [zup_ne e]
      have hsum : sm (fun i => if s + -1 < (i : Int) ∧ pl i = q then zup Y (pl s.toNat).toNat v (pl i + ln i).toNat else 0) cnt.toNat = sm (fun i => if s < (i : Int) ∧ pl i = q then Y (pl i + ln i).toNat else 0) cnt.toNat := by
        refine sm_eq cnt.toNat (fun i hi => ?_)
        by_cases c : s < (i : Int) ∧ pl i = q
        · rw [if_pos c, if_pos (by omega), hend i (by omega) (by omega)]
        · rw [if_neg c, if_neg ?_]
          rintro ⟨c1, c2⟩
          have : i = s.toNat := by omega
          subst this
          omega
      rw [hsum]
      exact a3 q hq
theorem WYs.done {ll cnt s : Int} {pl ln Y : Nat → Int} (h : WYs ll cnt s pl ln Y) (hs : s < 0) (hl : 0 ≤ ll) : WY ll cnt pl ln Y ∧ 0 ≤ Y 0 ∧ Y 0 < 1000003 := by
  obtain ⟨a1, a2, a3⟩ := h
  refine ⟨⟨a2, fun q hq => ?_⟩, a1 0 (by omega)⟩
  have := a3 q hq
  rw [sm_eq (g := fun i => if pl i = (q : Int) then Y (pl i + ln i).toNat else 0) cnt.toNat (fun i hi => ?_)] at this
  · exact this
  · by_cases c : pl i = (q : Int)
    · rw [if_pos c, if_pos ⟨by omega, c⟩]
    · rw [if_neg c, if_neg (fun z => c z.2)]
def WXs (cnt t : Int) (pl ln X : Nat → Int) : Prop := ∀ q : Nat, (q : Int) < t → (0 ≤ X q ∧ X q < 1000003) ∧ cg (X q) ((if q = 0 then 1 else 0) + sm (fun i => if pl i + ln i = q then X (pl i).toNat else 0) cnt.toNat)
def WXi (t x : Int) (pl ln X : Nat → Int) : Prop := (0 ≤ X t.toNat ∧ X t.toNat < 1000003) ∧ cg (X t.toNat) ((if t.toNat = 0 then 1 else 0) + sm (fun i => if pl i + ln i = t then X (pl i).toNat else 0) x.toNat)
theorem WXs.keep {cnt t v : Int} {pl ln X : Nat → Int} (h : WXs cnt t pl ln X) (hp : ∀ i : Nat, (i : Int) < cnt → 0 ≤ pl i ∧ 1 ≤ ln i) : WXs cnt t pl ln (zup X t.toNat v) := by
  intro q hq
  obtain ⟨a, b⟩ := h q hq
  rw [zup_ne (by omega)]
  refine ⟨a, ?_⟩
  rw [sm_eq (g := fun i => if pl i + ln i = (q : Int) then X (pl i).toNat else 0) cnt.toNat (fun i hi => ?_)]
  · exact b
  · by_cases c : pl i + ln i = (q : Int)
    · have := hp i (by omega)
      rw [if_pos c, if_pos c, zup_ne (by omega)]
    · rw [if_neg c, if_neg c]
theorem WXi.zero {t v : Int} {pl ln X : Nat → Int} (h0 : 0 ≤ t) (hv : v = if t = 0 then 1 else 0) : WXi t 0 pl ln (zup X t.toNat v) := by
  unfold WXi
  rw [zup_eq, hv]
  by_cases e : t = 0
  · rw [if_pos e, if_pos (by omega)]
    exact ⟨by omega, ⟨0, rfl⟩⟩
  · rw [if_neg e, if_neg (by omega)]
    exact ⟨by omega, ⟨0, rfl⟩⟩
theorem WXi.step {cnt t x v : Int} {pl ln X : Nat → Int} (h : WXi t x pl ln X) (hp : ∀ i : Nat, (i : Int) < cnt → 0 ≤ pl i ∧ 1 ≤ ln i) (h0 : 0 ≤ x) (h1 : x < cnt) (ht : 0 ≤ t) (hv : (pl x.toNat + ln x.toNat = t ∧ v = (X t.toNat + X (pl x.toNat).toNat) % 1000003) ∨ (pl x.toNat + ln x.toNat ≠ t ∧ v = X t.toNat)) : WXi t (x + 1) pl ln (zup X t.toNat v) := by
  obtain ⟨a, b⟩ := h
  unfold WXi
  rw [zup_eq, show (x + 1).toNat = x.toNat + 1 by omega]
  refine ⟨by omega, ?_⟩
  have hs : sm (fun i => if pl i + ln i = t then zup X t.toNat v (pl i).toNat else 0) (x.toNat + 1) = sm (fun i => if pl i + ln i = t then X (pl i).toNat else 0) x.toNat + (if pl x.toNat + ln x.toNat = t then X (pl x.toNat).toNat else 0) := by
    show sm (fun i => if pl i + ln i = t then zup X t.toNat v (pl i).toNat else 0) x.toNat + (if pl x.toNat + ln x.toNat = t then zup X t.toNat v (pl x.toNat).toNat else 0) = _
    have hz : ∀ i : Nat, (i : Int) < cnt → pl i + ln i = t → zup X t.toNat v (pl i).toNat = X (pl i).toNat := fun i hi c => by
      have := hp i hi
      exact zup_ne (by omega)
    rw [sm_eq (g := fun i => if pl i + ln i = t then X (pl i).toNat else 0) x.toNat (fun i hi => ?_)]
    · congr 1
      by_cases c : pl x.toNat + ln x.toNat = t
      · rw [if_pos c, if_pos c, hz _ (by omega) c]
      · rw [if_neg c, if_neg c]
    · by_cases c : pl i + ln i = t
      · rw [if_pos c, if_pos c, hz i (by omega) c]
      · rw [if_neg c, if_neg c]
  rw [hs]
  rcases hv with ⟨c, e⟩ | ⟨c, e⟩
  · rw [if_pos c, e, ← Int.add_assoc]; exact cg_add b
  · rw [if_neg c, e, Int.add_zero]; exact b
theorem WXs.next {cnt t x : Int} {pl ln X : Nat → Int} (h : WXs cnt t pl ln X) (g : WXi t x pl ln X) (hx : x = cnt) (ht : 0 ≤ t) : WXs cnt (t + 1) pl ln X := by
  intro q hq
  by_cases e : q = t.toNat
  · subst hx
    obtain ⟨a, b⟩ := g
    rw [e]
    refine ⟨a, ?_⟩
    rw [show (((t.toNat : Nat)) : Int) = t by omega]
    exact b
  · exact h q (by omega)
