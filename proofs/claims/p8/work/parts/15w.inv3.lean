theorem NF.ge {pl le fi : Nat → Int} {ln many : Int} (h : NF pl le fi ln) (he : fi ln.toNat = many) : ∀ (d e : Nat) (x : Nat), (e : Int) + d = ln → fi e ≤ x → (x : Int) < many → (e : Int) ≤ pl x
  | 0, e, x, h1, h2, h3 => by
    have : ln.toNat = e := by omega
    rw [this] at he
    omega
  | d + 1, e, x, h1, h2, h3 => by
    by_cases hx : (x : Int) < fi (e + 1)
    · have := (h e x (by omega) h2 hx).1
      omega
    · have := NF.ge h he d (e + 1) x (by omega) (by omega) h3
      omega
/-- what begins behind a piece comes after it -/
theorem NF.after {pl le fi : Nat → Int} {ln many : Int} (h : NF pl le fi ln) (he : fi ln.toNat = many) {x e y : Int} (hx : 0 ≤ x) (hxm : x < many) (h0 : 0 ≤ e) (h1 : e ≤ ln) (h2 : pl x.toNat < e) (hy : fi e.toNat ≤ y) : x < y := by
  by_cases hlt : x < y
  · exact hlt
  · have := NF.ge h he (ln - e).toNat e.toNat x.toNat (by omega) (by omega) (by omega)
    omega
def RR (rw nx : Nat → Int) (lo many : Int) : Prop := ∀ i : Nat, lo ≤ (i : Int) → (i : Int) < many → 0 ≤ rw i ∧ rw i ≤ 12 ∧ ∀ r : Nat, (r : Int) < rw i → nx (12 * i + r) < 0 ∨ ((i : Int) < nx (12 * i + r) / 16 ∧ nx (12 * i + r) / 16 < many ∧ nx (12 * i + r) % 16 < rw (nx (12 * i + r) / 16).toNat)
theorem RR.at {rw nx : Nat → Int} {lo many : Int} (h : RR rw nx lo many) {x : Int} (h0 : 0 ≤ x) (h1 : lo ≤ x) (h2 : x < many) : 0 ≤ rw x.toNat ∧ rw x.toNat ≤ 12 := by
  have := h x.toNat (by omega) (by omega)
  exact ⟨this.1, this.2.1⟩
theorem RR.next {rw nx : Nat → Int} {many : Int} (h : RR rw nx 0 many) {c : Int} (h0 : 0 ≤ c) (h1 : c / 16 < many) (h2 : c % 16 < rw (c / 16).toNat) {v : Int} (hv : v = nx (12 * (c / 16) + c % 16).toNat) : v < 0 ∨ (c / 16 < v / 16 ∧ v / 16 < many ∧ v % 16 < rw (v / 16).toNat) := by
  have := (h (c / 16).toNat (by omega) (by omega)).2.2 (c % 16).toNat (by omega)
  have e : 12 * (c / 16).toNat + (c % 16).toNat = (12 * (c / 16) + c % 16).toNat := by omega
  rw [e, ← hv] at this
  rcases this with q | ⟨q1, q2, q3⟩
  · exact Or.inl q
  · exact Or.inr ⟨by omega, q2, q3⟩
theorem RR.zero {rw nx : Nat → Int} {x many : Int} (h : RR rw nx (x + 1) many) (h0 : 0 ≤ x) : RR (zup rw x.toNat 0) nx x many := by
  intro i h1 h2
  by_cases e : i = x.toNat
  · subst e
    rw [zup_eq]
    exact ⟨by omega, by omega, fun r hr => by omega⟩
  · rw [zup_ne e]
    obtain ⟨g1, g2, g3⟩ := h i (by omega) h2
    refine ⟨g1, g2, fun r hr => ?_⟩
    rcases g3 r hr with q | ⟨q1, q2, q3⟩
    · exact Or.inl q
    · exact Or.inr ⟨q1, q2, by rw [zup_ne (by omega)]; exact q3⟩
theorem RR.push {rw nx : Nat → Int} {x many b : Int} (h : RR rw nx x many) (h0 : 0 ≤ x) (hxm : x < many) (hr : rw x.toNat < 12) (hb : b < 0 ∨ (x < b / 16 ∧ b / 16 < many ∧ b % 16 < rw (b / 16).toNat)) : RR (zup rw x.toNat (rw x.toNat + 1)) (zup nx (12 * x + rw x.toNat).toNat b) x many := by
  have hx := h.at h0 (Int.le_refl _) hxm
  have far : ∀ (i r : Nat), x ≤ (i : Int) → r < 12 → ¬ (i = x.toNat ∧ (r : Int) = rw x.toNat) → zup nx (12 * x + rw x.toNat).toNat b (12 * i + r) = nx (12 * i + r) := fun i r hi hr hn => zup_ne (by omega)
  intro i h1 h2
  obtain ⟨g1, g2, g3⟩ := h i h1 h2
  have keep : ∀ v : Int, (i : Int) < v / 16 → zup rw x.toNat (rw x.toNat + 1) (v / 16).toNat = rw (v / 16).toNat := fun v hv => zup_ne (by omega)
  by_cases e : i = x.toNat
  · subst e
    rw [zup_eq]
    refine ⟨by omega, by omega, fun r hlt => ?_⟩
    by_cases er : (r : Int) = rw x.toNat
    · have e2 : 12 * x.toNat + r = (12 * x + rw x.toNat).toNat := by omega
      rw [e2, zup_eq]
      rcases hb with q | ⟨q1, q2, q3⟩
      · exact Or.inl q
      · exact Or.inr ⟨by omega, q2, by rw [keep b (by omega)]; exact q3⟩
    · rw [far x.toNat r (by omega) (by omega) (fun q => er q.2)]
      rcases g3 r (by omega) with q | ⟨q1, q2, q3⟩
      · exact Or.inl q
      · exact Or.inr ⟨q1, q2, by rw [keep _ q1]; exact q3⟩
  · rw [zup_ne e]
    refine ⟨g1, g2, fun r hlt => ?_⟩
    rw [far i r h1 (by omega) (fun q => e q.1)]
    rcases g3 r hlt with q | ⟨q1, q2, q3⟩
    · exact Or.inl q
    · exact Or.inr ⟨q1, q2, by rw [keep _ q1]; exact q3⟩
theorem RR.one {rw nx : Nat → Int} {x many : Int} (h : RR rw nx (x + 1) many) (h0 : 0 ≤ x) (hxm : x < many) : RR (zup (zup rw x.toNat 0) x.toNat 1) (zup nx (12 * x).toNat (-6)) x many := by
  have := (h.zero h0).push (b := -6) h0 hxm (by rw [zup_eq]; decide) (Or.inl (by decide))
  rw [zup_eq, Int.add_zero, Int.zero_add] at this
  exact this
