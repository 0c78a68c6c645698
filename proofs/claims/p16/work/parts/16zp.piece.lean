/-! the pieces, as both sides lay them -/
noncomputable def bo (p : Prop) : Bool := @decide p (Classical.propDecidable p)
theorem bo_t {p : Prop} : bo p = true ↔ p := @decide_eq_true_iff p (Classical.propDecidable p)
def clO (v : Int) : Int := if v = 97 ∨ v = 101 then 0 else 1
theorem ST.same {le le2 row row2 : Nat → Int} {len p e : Int} {w : Nat} (h : ST le len w row p e) (h0 : 0 ≤ p) (h1 : ∀ i : Nat, (i : Int) < len → le (6 * w + i) = le2 (6 * w + i)) (h2 : ∀ j : Nat, (j : Int) < e → row j = row2 j) : ST le2 len w row2 p e := by
  obtain ⟨a, b⟩ := h
  refine ⟨a, fun i hi => ?_⟩
  rw [← h1 i hi, b i hi, h2 _ (by omega)]
def AW (dc : Int) (le si li : Nat → Int) (ll p : Int) : Prop := ∃ w : Nat, (w : Int) < dc ∧ ST le (si w) w li p ll
theorem AW.step {w ll p : Int} {le si li : Nat → Int} (h0 : 0 ≤ w) : AW (w + 1) le si li ll p ↔ AW w le si li ll p ∨ ST le (si w.toNat) w.toNat li p ll := by
  constructor
  · rintro ⟨v, h1, h2⟩
    by_cases e : (v : Int) = w
    · have ev : v = w.toNat := by omega
      subst ev; exact Or.inr h2
    · exact Or.inl ⟨v, by omega, h2⟩
  · rintro (⟨v, h1, h2⟩ | h)
    · exact ⟨v, by omega, h2⟩
    · exact ⟨w.toNat, by omega, h⟩
theorem AW.zero {ll p : Int} {le si li : Nat → Int} : ¬ AW 0 le si li ll p := by
  rintro ⟨v, h1, h2⟩; omega
/-- the run at a place: so many letters of one class, six at most -/
def RN (li : Nat → Int) (ll p r : Int) : Prop := 1 ≤ r ∧ r ≤ 6 ∧ p + r ≤ ll ∧ (∀ j : Nat, (j : Int) < r → clO (li (p.toNat + j)) = clO (li p.toNat)) ∧ (r = 6 ∨ p + r = ll ∨ clO (li (p + r).toNat) ≠ clO (li p.toNat))
theorem RN.same {li : Nat → Int} {ll p r r2 : Int} (h : RN li ll p r) (g : RN li ll p r2) (h0 : 0 ≤ p) : r = r2 := by
  obtain ⟨h1, h2, h3, h4, h5⟩ := h
  obtain ⟨g1, g2, g3, g4, g5⟩ := g
  rcases Int.lt_trichotomy r r2 with q | q | q
  · have a := g4 r.toNat (by omega)
    rw [show p.toNat + r.toNat = (p + r).toNat by omega] at a
    omega
  · exact q
  · have a := h4 r2.toNat (by omega)
    rw [show p.toNat + r2.toNat = (p + r2).toNat by omega] at a
    omega
theorem RN.cast {li li2 : Nat → Int} {ll p r : Int} (h : RN li ll p r) (h0 : 0 ≤ p) (e : ∀ j : Nat, (j : Int) < ll → li j = li2 j) : RN li2 ll p r := by
  obtain ⟨h1, h2, h3, h4, h5⟩ := h
  have e0 := e p.toNat (by omega)
  refine ⟨h1, h2, h3, fun j hj => ?_, ?_⟩
  · rw [← e0, ← e (p.toNat + j) (by omega)]; exact h4 j hj
  · rcases h5 with q | q | q
    · exact Or.inl q
    · exact Or.inr (Or.inl q)
    · by_cases q2 : p + r = ll
      · exact Or.inr (Or.inl q2)
      · refine Or.inr (Or.inr ?_)
        rw [← e0, ← e (p + r).toNat (by omega)]; exact q
def WD (dc : Int) (le si ru li : Nat → Int) (ll p : Int) : Prop := ru 0 = 1 ∨ (ru 0 = 0 ∧ ¬ AW dc le si li ll p)
def WI (dc : Int) (le si ru li : Nat → Int) (ll p n : Int) : Prop := WD dc le si ru li ll p ∧ ∃ r, RN li ll p r ∧ (n = r ∨ (n < r ∧ 1 ≤ n ∧ n ≤ ru 3))
def WS (dc : Int) (le si ki li : Nat → Int) (ll p n k : Int) (w : Nat) : Prop := (w : Int) < dc ∧ si w = n ∧ ki w = k ∧ ST le n w li p ll
/-- what stands at a place in a length and a kind: 28 times the place, 4 times the length, the kind -/
def PK (dc : Int) (le si ki co ru li : Nat → Int) (ll : Int) (K : Nat) (w c : Int) : Prop :=
  (0 ≤ w ∧ WS dc le si ki li ll ((K / 28 : Nat) : Int) ((K % 28 / 4 : Nat) : Int) ((K % 4 : Nat) : Int) w.toNat ∧ c = co w.toNat) ∨ (w = -6 ∧ K % 4 = 3 ∧ WI dc le si ru li ll ((K / 28 : Nat) : Int) ((K % 28 / 4 : Nat) : Int) ∧ c = ru 1 + ((K % 28 / 4 : Nat) : Int) * ru 2)
def BS (dc : Int) (le si ki co ru li : Nat → Int) (ll dc2 : Int) (le2 si2 ki2 co2 ru2 li2 : Nat → Int) (ll2 : Int) : Prop := DQ dc le si ki co dc2 le2 si2 ki2 co2 ∧ (∀ j : Nat, j < 4 → ru j = ru2 j) ∧ ll = ll2 ∧ ∀ j : Nat, (j : Int) < ll → li j = li2 j
theorem BS.symm {dc ll dc2 ll2 : Int} {le si ki co ru li le2 si2 ki2 co2 ru2 li2 : Nat → Int} (h : BS dc le si ki co ru li ll dc2 le2 si2 ki2 co2 ru2 li2 ll2) : BS dc2 le2 si2 ki2 co2 ru2 li2 ll2 dc le si ki co ru li ll := by
  obtain ⟨⟨d1, d2⟩, r, l1, l2⟩ := h
  subst d1; subst l1
  refine ⟨⟨rfl, fun w hw => ?_⟩, fun j hj => (r j hj).symm, rfl, fun j hj => (l2 j hj).symm⟩
  obtain ⟨a, b, c, d⟩ := d2 w hw
  exact ⟨a.symm, b.symm, c.symm, fun i hi => (d i (by omega)).symm⟩
theorem BS.aw {dc ll dc2 ll2 p : Int} {le si ki co ru li le2 si2 ki2 co2 ru2 li2 : Nat → Int} (h : BS dc le si ki co ru li ll dc2 le2 si2 ki2 co2 ru2 li2 ll2) (hp : 0 ≤ p) (g : AW dc le si li ll p) : AW dc2 le2 si2 li2 ll2 p := by
  obtain ⟨⟨d1, d2⟩, r, l1, l2⟩ := h
  subst d1; subst l1
  obtain ⟨w, hw, s⟩ := g
  obtain ⟨a, b, c, d⟩ := d2 w hw
  refine ⟨w, hw, ?_⟩
  rw [← a]
  exact s.same hp d l2
theorem BS.pk {dc ll dc2 ll2 w c : Int} {le si ki co ru li le2 si2 ki2 co2 ru2 li2 : Nat → Int} {K : Nat} (h : BS dc le si ki co ru li ll dc2 le2 si2 ki2 co2 ru2 li2 ll2) (g : PK dc le si ki co ru li ll K w c) : PK dc2 le2 si2 ki2 co2 ru2 li2 ll2 K w c := by
  have hs := h.symm
  obtain ⟨⟨d1, d2⟩, r, l1, l2⟩ := id h
  rcases g with ⟨g1, ⟨g2, g3, g4, g5⟩, g6⟩ | ⟨g1, g2, ⟨g3, rr, g4, g5⟩, g6⟩
  · obtain ⟨a, b, c', d⟩ := d2 _ g2
    refine Or.inl ⟨g1, ⟨by omega, by omega, by omega, ?_⟩, by omega⟩
    rw [← l1]
    exact g5.same (by omega) (fun i hi => d i (by omega)) l2
  · have r0 := r 0 (by omega)
    have r1 := r 1 (by omega)
    have r2 := r 2 (by omega)
    have r3 := r 3 (by omega)
    refine Or.inr ⟨g1, g2, ⟨?_, rr, ?_, by omega⟩, by rw [← r1, ← r2]; exact g6⟩
    · rcases g3 with q | ⟨q1, q2⟩
      · exact Or.inl (by omega)
      · exact Or.inr ⟨by omega, fun q => q2 (hs.aw (by omega) q)⟩
    · rw [← l1]
      exact g4.cast (by omega) l2
theorem BS.q {dc ll dc2 ll2 : Int} {le si ki co ru li le2 si2 ki2 co2 ru2 li2 : Nat → Int} (h : BS dc le si ki co ru li ll dc2 le2 si2 ki2 co2 ru2 li2 ll2) : PK dc le si ki co ru li ll = PK dc2 le2 si2 ki2 co2 ru2 li2 ll2 := by
  funext K w c
  exact propext ⟨h.pk, h.symm.pk⟩
theorem PK.uq {dc ll w c w2 c2 : Int} {le si ki co ru li : Nat → Int} {K : Nat} (hD : DI dc si ki co) (hU : UQ dc le si ki) (h : PK dc le si ki co ru li ll K w c) (g : PK dc le si ki co ru li ll K w2 c2) : w2 = w ∧ c2 = c := by
  rcases h with ⟨h1, ⟨h2, h3, h4, h5⟩, h6⟩ | ⟨h1, h2, h3, h4⟩ <;> rcases g with ⟨g1, ⟨g2, g3, g4, g5⟩, g6⟩ | ⟨g1, g2, g3, g4⟩
  · have e : w.toNat = w2.toNat := hU _ _ h2 g2 (by omega) (by omega) (fun i hi => by rw [h5.2 i (by omega), g5.2 i (by omega)])
    have ew : w = w2 := by omega
    subst ew
    exact ⟨rfl, by rw [h6, g6]⟩
  · have := hD.2.2 _ h2; omega
  · have := hD.2.2 _ g2; omega
  · exact ⟨by omega, by rw [h4, g4]⟩
theorem PK.no {dc ll : Int} {le si ki co ru li : Nat → Int} {K : Nat} (hD : DI dc si ki co) (hK : K % 28 < 4) : ¬ ∃ w c, PK dc le si ki co ru li ll K w c := by
  rintro ⟨w, c, h⟩
  rcases h with ⟨h1, ⟨h2, h3, h4, h5⟩, h6⟩ | ⟨h1, h2, ⟨h3, r, h4, h5⟩, h6⟩
  · have := hD.2.2 _ h2; omega
  · have := h4.1; omega
theorem PK.in_ {dc ll w c : Int} {le si ki co ru li jo : Nat → Int} {K : Nat} (hD : DI dc si ki co) (hB : BI jo ru ll) (h : PK dc le si ki co ru li ll K w c) : 1 ≤ K % 28 / 4 ∧ ((K / 28 : Nat) : Int) + ((K % 28 / 4 : Nat) : Int) ≤ ll ∧ 0 ≤ c ∧ c ≤ 693 := by
  obtain ⟨-, b1, b2, b3, b4, b5, b6, b7, b8, b9, b10⟩ := hB
  rcases h with ⟨h1, ⟨h2, h3, h4, h5⟩, h6⟩ | ⟨h1, h2, ⟨h3, r, h4, h5⟩, h6⟩
  · have := hD.2.2 _ h2
    have := h5.1
    exact ⟨by omega, by omega, by omega, by omega⟩
  · have := h4.1
    have := h4.2.1
    have := h4.2.2.1
    have hz := zmul_b (x := ((K % 28 / 4 : Nat) : Int)) (y := ru 2) (a := 6) (b := 99) (by omega) (by omega) (by omega) (by omega)
    exact ⟨by omega, by omega, by omega, by omega⟩
theorem PK.cost {dc ll w c v n : Int} {le si ki co ru li : Nat → Int} {K : Nat} (h : PK dc le si ki co ru li ll K w c) (hn : n = ((K % 28 / 4 : Nat) : Int)) (h1 : w = -6 → v = ru 1 + ru 2 * n) (h2 : w ≠ -6 → v = co w.toNat) : v = c := by
  rcases h with ⟨g1, -, g3⟩ | ⟨g1, -, -, g4⟩
  · rw [h2 (by omega), g3]
  · rw [h1 g1, g4, hn, Int.mul_comm]
-- keys
abbrev zQ : Type := Nat → Int → Int → Prop
noncomputable def VQ (Q : zQ) (K : Nat) : Bool := bo (∃ w c, Q K w c)
theorem VQ_t {Q : zQ} {K : Nat} {w c : Int} (h : Q K w c) : VQ Q K = true := bo_t.mpr ⟨w, c, h⟩
theorem VQ_f {Q : zQ} {K : Nat} (h : ¬ ∃ w c, Q K w c) : VQ Q K = false := by
  cases e : VQ Q K with
  | false => rfl
  | true => exact absurd (bo_t.mp e) h
theorem cn_t {P : Nat → Bool} {K : Nat} (h : P K = true) : cn P (K + 1) = cn P K + 1 := by
  show cn P K + (if P K = true then 1 else 0) = _
  rw [if_pos h]
theorem cn_f {P : Nat → Bool} {K : Nat} (h : P K = false) : cn P (K + 1) = cn P K := by
  show cn P K + (if P K = true then 1 else 0) = _
  rw [h]; rfl
theorem cn_up {P : Nat → Bool} {a : Nat} : ∀ b, a ≤ b → cn P a ≤ cn P b
  | 0, h => by rw [show a = 0 by omega]; exact Nat.le_refl _
  | b + 1, h => by
    by_cases e : a = b + 1
    · rw [e]; exact Nat.le_refl _
    · exact Nat.le_trans (cn_up b (by omega)) (Nat.le_add_right _ _)
theorem cn_st {P : Nat → Bool} {K T : Nat} (h : P K = true) (hT : K < T) : cn P K < cn P T := by
  have h1 := cn_t h
  have h2 := cn_up (P := P) (a := K + 1) T hT
  omega
theorem cn_sur {P : Nat → Bool} {i : Nat} : ∀ T, i < cn P T → ∃ K, K < T ∧ P K = true ∧ cn P K = i
  | 0, h => absurd h (Nat.not_lt_zero _)
  | T + 1, h => by
    cases e : P T with
    | false =>
      rw [cn_f e] at h
      obtain ⟨K, h1, h2, h3⟩ := cn_sur (P := P) (i := i) T h
      exact ⟨K, by omega, h2, h3⟩
    | true =>
      rw [cn_t e] at h
      by_cases q : i = cn P T
      · exact ⟨T, by omega, e, q.symm⟩
      · obtain ⟨K, h1, h2, h3⟩ := cn_sur (P := P) (i := i) T (by omega)
        exact ⟨K, by omega, h2, h3⟩
def PR (Q : zQ) (T : Nat) (pl ln kd cs wd : Nat → Int) : Prop := ∀ K : Nat, K < T → ∀ w c, Q K w c → pl (cn (VQ Q) K) = ((K / 28 : Nat) : Int) ∧ ln (cn (VQ Q) K) = ((K % 28 / 4 : Nat) : Int) ∧ kd (cn (VQ Q) K) = ((K % 4 : Nat) : Int) ∧ cs (cn (VQ Q) K) = c ∧ wd (cn (VQ Q) K) = w
theorem PR.skip {Q : zQ} {T : Nat} {pl ln kd cs wd : Nat → Int} (h : PR Q T pl ln kd cs wd) (hn : ¬ ∃ w c, Q T w c) : PR Q (T + 1) pl ln kd cs wd := by
  intro K hK w c hq
  by_cases e : K = T
  · subst e; exact absurd ⟨w, c, hq⟩ hn
  · exact h K (by omega) w c hq
theorem PR.put {Q : zQ} {T n : Nat} {pl ln kd cs wd : Nat → Int} {w c p l k : Int} (h : PR Q T pl ln kd cs wd) (hq : Q T w c) (hu : ∀ w2 c2, Q T w2 c2 → w2 = w ∧ c2 = c) (hn : n = cn (VQ Q) T) (hp : p = ((T / 28 : Nat) : Int)) (hl : l = ((T % 28 / 4 : Nat) : Int)) (hk : k = ((T % 4 : Nat) : Int)) : PR Q (T + 1) (zup pl n p) (zup ln n l) (zup kd n k) (zup cs n c) (zup wd n w) := by
  intro K hK w2 c2 hq2
  by_cases e : K = T
  · subst e
    obtain ⟨e1, e2⟩ := hu w2 c2 hq2
    rw [← hn, zup_eq, zup_eq, zup_eq, zup_eq, zup_eq]
    exact ⟨hp, hl, hk, e2.symm, e1.symm⟩
  · have := cn_st (VQ_t hq2) (show K < T by omega)
    rw [zup_ne (by omega), zup_ne (by omega), zup_ne (by omega), zup_ne (by omega), zup_ne (by omega)]
    exact h K (by omega) w2 c2 hq2
theorem PR.zero {Q : zQ} {pl ln kd cs wd : Nat → Int} : PR Q 0 pl ln kd cs wd := fun K hK => absurd hK (Nat.not_lt_zero _)
/-- a net, whole: how many, the rows, where each place begins -/
def NS (Q : zQ) (ll cnt : Int) (pl ln kd cs wd fi : Nat → Int) : Prop := cnt = ((cn (VQ Q) (28 * ll.toNat) : Nat) : Int) ∧ PR Q (28 * ll.toNat) pl ln kd cs wd ∧ ∀ p : Nat, (p : Int) ≤ ll → fi p = ((cn (VQ Q) (28 * p) : Nat) : Int)
theorem NS.same {Q : zQ} {ll cnt cnt2 : Int} {pl ln kd cs wd fi pl2 ln2 kd2 cs2 wd2 fi2 : Nat → Int} (h : NS Q ll cnt pl ln kd cs wd fi) (g : NS Q ll cnt2 pl2 ln2 kd2 cs2 wd2 fi2) : cnt = cnt2 ∧ (∀ i : Nat, (i : Int) < cnt → pl i = pl2 i ∧ ln i = ln2 i ∧ kd i = kd2 i ∧ cs i = cs2 i ∧ wd i = wd2 i) ∧ ∀ p : Nat, (p : Int) ≤ ll → fi p = fi2 p := by
  obtain ⟨h1, h2, h3⟩ := h
  obtain ⟨g1, g2, g3⟩ := g
  refine ⟨by omega, fun i hi => ?_, fun p hp => by rw [h3 p hp, g3 p hp]⟩
  obtain ⟨K, k1, k2, k3⟩ := cn_sur (P := VQ Q) (i := i) (28 * ll.toNat) (by omega)
  obtain ⟨w, c, hq⟩ := bo_t.mp k2
  have a := h2 K k1 w c hq
  have b := g2 K k1 w c hq
  rw [k3] at a b
  exact ⟨by omega, by omega, by omega, by omega, by omega⟩
-- how many there may be
theorem ct_kk {sz kd : Nat → Int} {wd n k : Int} {v : Nat} (h1 : (v : Int) < wd) (hs : sz v = n) (hk : kd v = k) : ct sz kd wd n k 0 + 1 ≤ ct sz kd wd n (k + 1) 0 := by
  unfold ct
  have := cn_lt (P := fun i => decide (sz i < n ∨ (sz i = n ∧ kd i < k) ∨ (sz i = n ∧ kd i = k ∧ (i : Int) < 0))) (Q := fun i => decide (sz i < n ∨ (sz i = n ∧ kd i < k + 1) ∨ (sz i = n ∧ kd i = k + 1 ∧ (i : Int) < 0))) (fun i hi => decide_eq_true (by have := of_decide_eq_true hi; omega)) (j := v) (fun hi => by have := of_decide_eq_true hi; omega) (decide_eq_true (Or.inr (Or.inl ⟨hs, by omega⟩))) wd.toNat (by omega)
  omega
theorem PK.cap1 {dc ll : Int} {le si ki co ru li jo : Nat → Int} (hD : DI dc si ki co) (hB : BI jo ru ll) (p : Nat) : ∀ s : Nat, s ≤ 28 → ∃ wc : Int, ((cn (VQ (PK dc le si ki co ru li ll)) (28 * p + s) : Nat) : Int) ≤ ((cn (VQ (PK dc le si ki co ru li ll)) (28 * p) : Nat) : Int) + ct si ki dc ((s / 4 : Nat) : Int) ((s % 4 : Nat) : Int) 0 + wc ∧ 0 ≤ wc ∧ wc ≤ 4 ∧ (wc ≤ ((s / 4 : Nat) : Int) - 1 ∨ wc = 0) ∧ ∀ r, RN li ll (p : Int) r → ((s / 4 : Nat) : Int) ≤ r → wc ≤ 3
  | 0, _ => by
    have := Int.natCast_nonneg (cn (fun i => decide (si i < ((0 / 4 : Nat) : Int) ∨ (si i = ((0 / 4 : Nat) : Int) ∧ ki i < ((0 % 4 : Nat) : Int)) ∨ (si i = ((0 / 4 : Nat) : Int) ∧ ki i = ((0 % 4 : Nat) : Int) ∧ (i : Int) < 0))) dc.toNat)
    exact ⟨0, by unfold ct; rw [Nat.add_zero]; omega, by omega, by omega, by omega, fun r _ _ => by omega⟩
  | s + 1, hs => by
    obtain ⟨wc, w1, w2, w3, w4, w5⟩ := PK.cap1 (le := le) (li := li) hD hB p s (by omega)
    have b3 := hB.2.2.2.2.2.2.2.2.1
    have e1 : (28 * p + s) / 28 = p := by omega
    have e2 : (28 * p + s) % 28 / 4 = s / 4 := by omega
    have e3 : (28 * p + s) % 4 = s % 4 := by omega
    have ec : 28 * p + (s + 1) = 28 * p + s + 1 := by omega
    rw [ec]
    by_cases hk : s % 4 < 3
    · rw [show (s + 1) / 4 = s / 4 by omega, show (s + 1) % 4 = s % 4 + 1 by omega]
      have ek : (((s % 4 + 1 : Nat)) : Int) = ((s % 4 : Nat) : Int) + 1 := by omega
      rw [ek]
      refine ⟨wc, ?_, w2, w3, w4, w5⟩
      by_cases hv : ∃ w c, PK dc le si ki co ru li ll (28 * p + s) w c
      · obtain ⟨w, c, hq⟩ := hv
        have h1 := cn_t (VQ_t hq)
        rcases hq with ⟨g1, ⟨g2, g3, g4, g5⟩, g6⟩ | ⟨g1, g2, -, -⟩
        · rw [e2] at g3
          rw [e3] at g4
          have := ct_kk g2 g3 g4
          omega
        · omega
      · have h1 := cn_f (VQ_f hv)
        have := ct_k (sz := si) (kd := ki) (wd := dc) (n := ((s / 4 : Nat) : Int)) (k := ((s % 4 : Nat) : Int)) (w := 0)
        omega
    · rw [show (s + 1) / 4 = s / 4 + 1 by omega, show (s + 1) % 4 = 0 by omega]
      have ek : (((s / 4 + 1 : Nat)) : Int) = ((s / 4 : Nat) : Int) + 1 := by omega
      have e0 : ((0 : Nat) : Int) = 0 := rfl
      have em : ((s % 4 : Nat) : Int) = 3 := by omega
      rw [em] at w1
      rw [ek, e0]
      have hc := ct_n (sz := si) (kd := ki) (wd := dc) (n := ((s / 4 : Nat) : Int)) (w := 0) (fun i => Int.le_refl _)
      by_cases hv : ∃ w c, PK dc le si ki co ru li ll (28 * p + s) w c
      · obtain ⟨w, c, hq⟩ := hv
        have h1 := cn_t (VQ_t hq)
        rcases hq with ⟨g1, ⟨g2, g3, g4, g5⟩, g6⟩ | ⟨g1, g2, ⟨-, r, g3, g4⟩, -⟩
        · have := hD.2.2 _ g2
          omega
        · rw [e1] at g3
          rw [e2] at g4
          have hr := w5 r g3 (by omega)
          have hr1 := g3.1
          refine ⟨wc + 1, by omega, by omega, by omega, by omega, fun r2 g5 g6 => ?_⟩
          have := g3.same g5 (by omega)
          have := g3.1
          omega
      · have h1 := cn_f (VQ_f hv)
        exact ⟨wc, by omega, w2, w3, by omega, fun r g5 g6 => w5 r g5 (by omega)⟩
theorem PK.cap {dc ll : Int} {le si ki co ru li jo : Nat → Int} (hD : DI dc si ki co) (hB : BI jo ru ll) : ∀ p : Nat, cn (VQ (PK dc le si ki co ru li ll)) (28 * p) ≤ 20 * p
  | 0 => Nat.le_refl _
  | p + 1 => by
    obtain ⟨wc, w1, w2, w3, w4, w5⟩ := PK.cap1 (le := le) (li := li) hD hB p 28 (by omega)
    have h1 := PK.cap (le := le) (li := li) hD hB p
    have h2 := ct_le (sz := si) (kd := ki) (n := ((28 / 4 : Nat) : Int)) (k := ((28 % 4 : Nat) : Int)) (w := 0) hD.1
    have h3 := hD.2.1
    rw [show 28 * (p + 1) = 28 * p + 28 by omega]
    omega
-- the class's slots
def SW (w : Int) (le si ki li : Nat → Int) (ll p : Int) (sl : Nat → Int) : Prop := ∀ s : Nat, s < 28 → (sl s = -1 ∧ ¬ ∃ v, WS w le si ki li ll p ((s / 4 : Nat) : Int) ((s % 4 : Nat) : Int) v) ∨ (0 ≤ sl s ∧ WS w le si ki li ll p ((s / 4 : Nat) : Int) ((s % 4 : Nat) : Int) (sl s).toNat)
theorem SW.none {le si ki li sl : Nat → Int} {ll p : Int} (h : ∀ s : Nat, s < 28 → sl s = -1) : SW 0 le si ki li ll p sl := fun s hs => Or.inl ⟨h s hs, fun ⟨v, hv⟩ => by have := hv.1; omega⟩
theorem SW.skip {w : Int} {le si ki li sl : Nat → Int} {ll p : Int} (h : SW w le si ki li ll p sl) (h0 : 0 ≤ w) (hn : ¬ ST le (si w.toNat) w.toNat li p ll) : SW (w + 1) le si ki li ll p sl := by
  intro s hs
  rcases h s hs with ⟨h1, h2⟩ | ⟨h1, h2⟩
  · refine Or.inl ⟨h1, fun ⟨v, g1, g2, g3, g4⟩ => ?_⟩
    by_cases e : (v : Int) = w
    · have ev : v = w.toNat := by omega
      subst ev
      rw [g2] at hn
      exact hn g4
    · exact h2 ⟨v, by omega, g2, g3, g4⟩
  · exact Or.inr ⟨h1, by have := h2.1; omega, h2.2⟩
theorem SW.put {w : Int} {le si ki li sl : Nat → Int} {ll p : Int} (h : SW w le si ki li ll p sl) (h0 : 0 ≤ w) (ht : ST le (si w.toNat) w.toNat li p ll) (hk : 0 ≤ ki w.toNat ∧ ki w.toNat ≤ 2) (hl : 1 ≤ si w.toNat) : SW (w + 1) le si ki li ll p (zup sl (si w.toNat * 4 + ki w.toNat).toNat w) := by
  intro s hs
  by_cases e : s = (si w.toNat * 4 + ki w.toNat).toNat
  · refine Or.inr ?_
    have e1 : ((s / 4 : Nat) : Int) = si w.toNat := by omega
    have e2 : ((s % 4 : Nat) : Int) = ki w.toNat := by omega
    rw [e1, e2, e, zup_eq]
    exact ⟨h0, by omega, rfl, rfl, ht⟩
  · rw [zup_ne e]
    rcases h s hs with ⟨h1, h2⟩ | ⟨h1, h2⟩
    · refine Or.inl ⟨h1, fun ⟨v, g1, g2, g3, g4⟩ => ?_⟩
      by_cases ew : (v : Int) = w
      · have ev : v = w.toNat := by omega
        subst ev
        omega
      · exact h2 ⟨v, by omega, g2, g3, g4⟩
    · exact Or.inr ⟨h1, by have := h2.1; omega, h2.2⟩
def FW (sl0 sl : Nat → Int) (r m : Int) : Prop := ∀ j : Nat, j < 28 → (j % 4 = 3 ∧ (((j / 4 : Nat) : Int) = r ∨ (1 ≤ j / 4 ∧ ((j / 4 : Nat) : Int) < m)) → sl j = -6) ∧ (¬ (j % 4 = 3 ∧ (((j / 4 : Nat) : Int) = r ∨ (1 ≤ j / 4 ∧ ((j / 4 : Nat) : Int) < m))) → sl j = sl0 j)
theorem FW.first {sl : Nat → Int} {r : Int} (h : 1 ≤ r) : FW sl (zup sl (r * 4 + 3).toNat (-6)) r 1 := by
  intro j hj
  by_cases e : j = (r * 4 + 3).toNat
  · rw [e, zup_eq]
    exact ⟨fun _ => rfl, fun q => absurd ⟨by omega, by omega⟩ q⟩
  · rw [zup_ne e]
    exact ⟨fun q => by omega, fun _ => rfl⟩
theorem FW.step {sl0 sl : Nat → Int} {r m : Int} (h : FW sl0 sl r m) (h1 : 1 ≤ m) : FW sl0 (zup sl (m * 4 + 3).toNat (-6)) r (m + 1) := by
  intro j hj
  by_cases e : j = (m * 4 + 3).toNat
  · rw [e, zup_eq]
    exact ⟨fun _ => rfl, fun q => absurd ⟨by omega, by omega⟩ q⟩
  · rw [zup_ne e]
    obtain ⟨a, b⟩ := h j hj
    exact ⟨fun q => a (by omega), fun q => b (by omega)⟩
def SC (Q : zQ) (p : Int) (sl : Nat → Int) : Prop := ∀ s : Nat, s < 28 → (sl s = -1 ∧ ¬ ∃ w c, Q (28 * p.toNat + s) w c) ∨ (∃ c, Q (28 * p.toNat + s) (sl s) c)
theorem SC.off {dc ll p : Int} {le si ki co ru li sl : Nat → Int} (hw : SW dc le si ki li ll p sl) (h0 : 0 ≤ p) (hn : ¬ WD dc le si ru li ll p) : SC (PK dc le si ki co ru li ll) p sl := by
  intro s hs
  have e1 : (28 * p.toNat + s) / 28 = p.toNat := by omega
  have e2 : (28 * p.toNat + s) % 28 / 4 = s / 4 := by omega
  have e3 : (28 * p.toNat + s) % 4 = s % 4 := by omega
  have e4 : ((p.toNat : Nat) : Int) = p := by omega
  rcases hw s hs with ⟨h1, h2⟩ | ⟨h1, h2⟩
  · refine Or.inl ⟨h1, ?_⟩
    rintro ⟨w, c, ⟨g1, g2, g3⟩ | ⟨g1, g2, ⟨g3, g4⟩, g5⟩⟩
    · rw [e1, e2, e3, e4] at g2; exact h2 ⟨_, g2⟩
    · rw [e1, e4] at g3; exact hn g3
  · refine Or.inr ⟨co (sl s).toNat, Or.inl ⟨h1, ?_, rfl⟩⟩
    rw [e1, e2, e3, e4]; exact h2
theorem SC.on {dc ll p r m : Int} {le si ki co ru li sl0 sl : Nat → Int} (hD : DI dc si ki co) (hw : SW dc le si ki li ll p sl0) (h0 : 0 ≤ p) (hc : WD dc le si ru li ll p) (hr : RN li ll p r) (hf : FW sl0 sl r m) (hm : (m = r ∨ ru 3 < m) ∧ m ≤ r ∧ m ≤ ru 3 + 1) : SC (PK dc le si ki co ru li ll) p sl := by
  intro s hs
  have e1 : (28 * p.toNat + s) / 28 = p.toNat := by omega
  have e2 : (28 * p.toNat + s) % 28 / 4 = s / 4 := by omega
  have e3 : (28 * p.toNat + s) % 4 = s % 4 := by omega
  have e4 : ((p.toNat : Nat) : Int) = p := by omega
  obtain ⟨a, b⟩ := hf s hs
  by_cases q : s % 4 = 3 ∧ (((s / 4 : Nat) : Int) = r ∨ (1 ≤ s / 4 ∧ ((s / 4 : Nat) : Int) < m))
  · refine Or.inr ⟨ru 1 + ((s / 4 : Nat) : Int) * ru 2, Or.inr ⟨a q, by omega, ?_, by rw [e2]⟩⟩
    rw [e1, e2, e4]
    exact ⟨hc, r, hr, by omega⟩
  · rw [b q]
    rcases hw s hs with ⟨h1, h2⟩ | ⟨h1, h2⟩
    · refine Or.inl ⟨h1, ?_⟩
      rintro ⟨w, c, ⟨g1, g2, g3⟩ | ⟨g1, g2, ⟨g3, r2, g4, g5⟩, g6⟩⟩
      · rw [e1, e2, e3, e4] at g2; exact h2 ⟨_, g2⟩
      · rw [e1, e4] at g4
        rw [e2] at g5
        have := hr.same g4 h0
        omega
    · refine Or.inr ⟨co (sl0 s).toNat, Or.inl ⟨h1, ?_, rfl⟩⟩
      rw [e1, e2, e3, e4]; exact h2
theorem SC.nil {dc ll p : Int} {le si ki co ru li sl : Nat → Int} {s : Nat} (h : SC (PK dc le si ki co ru li ll) p sl) (hs : s < 28) (e : sl s = -1) : ¬ ∃ w c, PK dc le si ki co ru li ll (28 * p.toNat + s) w c := by
  rcases h s hs with ⟨h1, h2⟩ | ⟨c, h2⟩
  · exact h2
  · rw [e] at h2
    rcases h2 with ⟨g, -⟩ | ⟨g, -⟩ <;> omega
theorem SC.hit {Q : zQ} {p : Int} {sl : Nat → Int} {s : Nat} (h : SC Q p sl) (hs : s < 28) (e : sl s ≠ -1) : ∃ c, Q (28 * p.toNat + s) (sl s) c := by
  rcases h s hs with ⟨h1, h2⟩ | h2
  · exact absurd h1 e
  · exact h2
-- the reference's keys
theorem PK.word {dc ll t n q : Int} {le si ki co ru li : Nat → Int} {w : Nat} (h : WS dc le si ki li ll t n q w) (h0 : 0 ≤ t) (h1 : 1 ≤ n ∧ n ≤ 6) (h2 : 0 ≤ q ∧ q ≤ 3) : PK dc le si ki co ru li ll (28 * t.toNat + 4 * n.toNat + q.toNat) (w : Int) (co w) := by
  have e1 : (((28 * t.toNat + 4 * n.toNat + q.toNat) / 28 : Nat) : Int) = t := by omega
  have e2 : (((28 * t.toNat + 4 * n.toNat + q.toNat) % 28 / 4 : Nat) : Int) = n := by omega
  have e3 : (((28 * t.toNat + 4 * n.toNat + q.toNat) % 4 : Nat) : Int) = q := by omega
  refine Or.inl ⟨by omega, ?_, rfl⟩
  rw [e1, e2, e3]
  exact h
theorem PK.nowd {dc ll t n q : Int} {le si ki co ru li : Nat → Int} (h0 : 0 ≤ t) (h1 : 1 ≤ n ∧ n ≤ 6) (h2 : 0 ≤ q ∧ q ≤ 2) (hn : ¬ ∃ v, WS dc le si ki li ll t n q v) : ¬ ∃ w c, PK dc le si ki co ru li ll (28 * t.toNat + 4 * n.toNat + q.toNat) w c := by
  have e1 : (((28 * t.toNat + 4 * n.toNat + q.toNat) / 28 : Nat) : Int) = t := by omega
  have e2 : (((28 * t.toNat + 4 * n.toNat + q.toNat) % 28 / 4 : Nat) : Int) = n := by omega
  have e3 : (((28 * t.toNat + 4 * n.toNat + q.toNat) % 4 : Nat) : Int) = q := by omega
  rintro ⟨w, c, ⟨g1, g2, g3⟩ | ⟨g1, g2, -, -⟩⟩
  · rw [e1, e2, e3] at g2; exact hn ⟨_, g2⟩
  · omega
theorem PK.wildt {dc ll t n : Int} {le si ki co ru li : Nat → Int} (h : WI dc le si ru li ll t n) (h0 : 0 ≤ t) (h1 : 1 ≤ n ∧ n ≤ 6) : PK dc le si ki co ru li ll (28 * t.toNat + 4 * n.toNat + 3) (-6) (ru 1 + n * ru 2) := by
  have e1 : (((28 * t.toNat + 4 * n.toNat + 3) / 28 : Nat) : Int) = t := by omega
  have e2 : (((28 * t.toNat + 4 * n.toNat + 3) % 28 / 4 : Nat) : Int) = n := by omega
  refine Or.inr ⟨rfl, by omega, ?_, ?_⟩
  · rw [e1, e2]; exact h
  · rw [e2]
theorem PK.wildf {dc ll t n : Int} {le si ki co ru li : Nat → Int} (hD : DI dc si ki co) (h : ¬ WI dc le si ru li ll t n) (h0 : 0 ≤ t) (h1 : 1 ≤ n ∧ n ≤ 6) : ¬ ∃ w c, PK dc le si ki co ru li ll (28 * t.toNat + 4 * n.toNat + 3) w c := by
  have e1 : (((28 * t.toNat + 4 * n.toNat + 3) / 28 : Nat) : Int) = t := by omega
  have e2 : (((28 * t.toNat + 4 * n.toNat + 3) % 28 / 4 : Nat) : Int) = n := by omega
  rintro ⟨w, c, ⟨g1, ⟨g2, g3, g4, g5⟩, g6⟩ | ⟨g1, g2, g3, -⟩⟩
  · have := hD.2.2 _ g2
    omega
  · rw [e1, e2] at g3; exact h g3
theorem PK.four {dc ll : Int} {le si ki co ru li pl ln kd cs wd : Nat → Int} {T : Nat} (hD : DI dc si ki co) (hT : T % 28 = 0) (h : PR (PK dc le si ki co ru li ll) T pl ln kd cs wd) : PR (PK dc le si ki co ru li ll) (T + 4) pl ln kd cs wd ∧ cn (VQ (PK dc le si ki co ru li ll)) (T + 4) = cn (VQ (PK dc le si ki co ru li ll)) T := by
  have n0 : ¬ ∃ w c, PK dc le si ki co ru li ll T w c := PK.no hD (by omega)
  have n1 : ¬ ∃ w c, PK dc le si ki co ru li ll (T + 1) w c := PK.no hD (by omega)
  have n2 : ¬ ∃ w c, PK dc le si ki co ru li ll (T + 2) w c := PK.no hD (by omega)
  have n3 : ¬ ∃ w c, PK dc le si ki co ru li ll (T + 3) w c := PK.no hD (by omega)
  refine ⟨(((h.skip n0).skip n1).skip n2).skip n3, ?_⟩
  have c0 := cn_f (VQ_f n0)
  have c1 := cn_f (VQ_f n1)
  have c2 := cn_f (VQ_f n2)
  have c3 := cn_f (VQ_f n3)
  rw [show T + 4 = T + 3 + 1 by omega, c3, c2, c1, c0]
theorem WS.skip {dc : Int} {le si ki li : Nat → Int} {w ll p n k : Int} (h0 : 0 ≤ w) (hn : ¬ (si w.toNat = n ∧ ki w.toNat = k ∧ ST le (si w.toNat) w.toNat li p ll)) : (∃ v, WS (w + 1) le si ki li ll p n k v) ↔ (∃ v, WS w le si ki li ll p n k v) := by
  constructor
  · rintro ⟨v, g1, g2, g3, g4⟩
    by_cases e : (v : Int) = w
    · have ev : v = w.toNat := by omega
      subst ev
      exact absurd ⟨g2, g3, by rw [g2]; exact g4⟩ hn
    · exact ⟨v, by omega, g2, g3, g4⟩
  · rintro ⟨v, g1, g2, g3, g4⟩
    exact ⟨v, by omega, g2, g3, g4⟩
theorem WS.one {dc : Int} {le si ki li : Nat → Int} {w ll p n k : Int} {v : Nat} (hU : UQ dc le si ki) (h0 : 0 ≤ w) (hw : w < dc) (h : WS w le si ki li ll p n k v) (g : si w.toNat = n ∧ ki w.toNat = k ∧ ST le (si w.toNat) w.toNat li p ll) : False := by
  obtain ⟨h1, h2, h3, h4⟩ := h
  obtain ⟨g1, g2, g3⟩ := g
  have e := hU v w.toNat (by omega) (by omega) (by omega) (by omega) (fun i hi => by rw [h4.2 i (by omega), g3.2 i (by omega)])
  omega
theorem UQ.cast {dc wd : Int} {le si ki co le2 sz kd co2 : Nat → Int} (u : UQ dc le si ki) (d : DQ dc le si ki co wd le2 sz kd co2) : UQ wd le2 sz kd := by
  obtain ⟨d1, d2⟩ := d
  subst d1
  intro v w hv hw k1 k2 k3
  obtain ⟨a1, a2, a3, a4⟩ := d2 v hv
  obtain ⟨b1, b2, b3, b4⟩ := d2 w hw
  exact u v w hv hw (by omega) (by omega) (fun i hi => by rw [a4 i hi, b4 i (by omega)]; exact k3 i (by omega))
