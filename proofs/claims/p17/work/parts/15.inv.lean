/-! what always holds of a dictionary, a book, a net, a ranking -/
def DI (c : Int) (le ki co : Nat → Int) : Prop := 0 ≤ c ∧ c ≤ 16 ∧ ∀ j : Nat, (j : Int) < c → 1 ≤ le j ∧ le j ≤ 6 ∧ 0 ≤ ki j ∧ ki j ≤ 2 ∧ 0 ≤ co j ∧ co j ≤ 99
theorem zup_eq {g : Nat → Int} {k : Nat} {x : Int} : zup g k x k = x := by simp [zup]
theorem zup_ne {g : Nat → Int} {k j : Nat} {x : Int} (h : j ≠ k) : zup g k x j = g j := by simp [zup, h]
theorem zcp_in {f g : Nat → Int} {sp dp n j : Nat} (h : dp ≤ j) (h2 : j < dp + n) : zcp f g sp dp n j = f (sp + (j - dp)) := by simp [zcp, h, h2]
theorem zcp_out {f g : Nat → Int} {sp dp n j : Nat} (h : j < dp ∨ dp + n ≤ j) : zcp f g sp dp n j = g j := by
  have : ¬ (dp ≤ j ∧ j < dp + n) := by omega
  simp [zcp, this]
theorem DI.at {c : Int} {le ki co : Nat → Int} (h : DI c le ki co) {x : Int} (h0 : 0 ≤ x) (h1 : x < c) : 1 ≤ le x.toNat ∧ le x.toNat ≤ 6 ∧ 0 ≤ ki x.toNat ∧ ki x.toNat ≤ 2 ∧ 0 ≤ co x.toNat ∧ co x.toNat ≤ 99 := h.2.2 x.toNat (by omega)
theorem DI.add {c : Int} {le ki co : Nat → Int} (h : DI c le ki co) (hc : c < 16) {x y w : Int} (hx : 1 ≤ x ∧ x ≤ 6) (hy : 0 ≤ y ∧ y ≤ 2) (hw : 0 ≤ w ∧ w ≤ 99) : DI (c + 1) (zup le c.toNat x) (zup ki c.toNat y) (zup co c.toNat w) := by
  obtain ⟨h1, h2, h3⟩ := h
  refine ⟨by omega, by omega, fun j hj => ?_⟩
  by_cases e : j = c.toNat
  · subst e
    rw [zup_eq, zup_eq, zup_eq]; omega
  · rw [zup_ne e, zup_ne e, zup_ne e]
    exact h3 j (by omega)
theorem DI.cost {c : Int} {le ki co : Nat → Int} (h : DI c le ki co) {x w : Int} (h0 : 0 ≤ x) (h1 : x < c) (hw : 0 ≤ w ∧ w ≤ 99) : DI c le ki (zup co x.toNat w) := by
  obtain ⟨g1, g2, g3⟩ := h
  refine ⟨g1, g2, fun j hj => ?_⟩
  have := g3 j hj
  by_cases e : j = x.toNat
  · subst e
    rw [zup_eq]; omega
  · rw [zup_ne e]
    exact this
theorem DI.rem {c : Int} {le ki co : Nat → Int} (h : DI c le ki co) {x : Int} (h0 : 0 ≤ x) (h1 : x < c) {a b n : Nat} (ha : a = x.toNat + 1) (hb : b = x.toNat) (hn : n = (c - x - 1).toNat) : DI (c - 1) (zcp le le a b n) (zcp ki ki a b n) (zcp co co a b n) := by
  obtain ⟨g1, g2, g3⟩ := h
  subst ha; subst hb; subst hn
  refine ⟨by omega, by omega, fun j hj => ?_⟩
  by_cases e : j < x.toNat
  · rw [zcp_out (Or.inl e), zcp_out (Or.inl e), zcp_out (Or.inl e)]
    exact g3 j (by omega)
  · rw [zcp_in (by omega) (by omega), zcp_in (by omega) (by omega), zcp_in (by omega) (by omega)]
    exact g3 _ (by omega)
theorem DI.eq {c : Int} {le ki co le' ki' co' : Nat → Int} (h : DI c le ki co) (h1 : ∀ j : Nat, j < 16 → le' j = le j) (h2 : ∀ j : Nat, j < 16 → ki' j = ki j) (h3 : ∀ j : Nat, j < 16 → co' j = co j) : DI c le' ki' co' := by
  obtain ⟨g1, g2, g3⟩ := h
  refine ⟨g1, g2, fun j hj => ?_⟩
  rw [h1 j (by omega), h2 j (by omega), h3 j (by omega)]
  exact g3 j hj
/-- joins, rules, the line's length -/
def BI (jo ru : Nat → Int) (len : Int) : Prop := (∀ j : Nat, j < 25 → 0 ≤ jo j ∧ jo j ≤ 99) ∧ 0 ≤ ru 0 ∧ ru 0 ≤ 2 ∧ 0 ≤ ru 1 ∧ ru 1 ≤ 99 ∧ 0 ≤ ru 2 ∧ ru 2 ≤ 99 ∧ 0 ≤ ru 3 ∧ ru 3 ≤ 3 ∧ 0 ≤ len ∧ len ≤ 24
theorem BI.eq {jo ru jo' ru' : Nat → Int} {len : Int} (h : BI jo ru len) (h1 : ∀ j : Nat, j < 25 → jo' j = jo j) (h2 : ∀ j : Nat, j < 4 → ru' j = ru j) : BI jo' ru' len := by
  obtain ⟨g, g1⟩ := h
  refine ⟨fun j hj => by rw [h1 j hj]; exact g j hj, ?_⟩
  rw [h2 0 (by omega), h2 1 (by omega), h2 2 (by omega), h2 3 (by omega)]
  exact g1
theorem zcp_all {f g : Nat → Int} {n j : Nat} (h : j < n) : zcp f g 0 0 n j = f j := by rw [zcp_in (by omega) (by omega)]; congr 1; omega
