/-! what both sides share: joins, rules, images -/
def JV (one other : Int) : Prop := 0 ≤ one ∧ one ≤ 4 ∧ 0 ≤ other ∧ other ≤ 4 ∧ ¬ (one = 4 ∧ other = 4)
def JS (one other cost z : Int) (jo jo' : Nat → Int) : Prop := (¬ JV one other ∧ z = -1 ∧ jo' = jo) ∨ (JV one other ∧ (cost < 0 ∨ 99 < cost) ∧ z = -2 ∧ jo' = jo) ∨ (JV one other ∧ 0 ≤ cost ∧ cost ≤ 99 ∧ z = jo (one * 5 + other).toNat ∧ jo' = zup jo (one * 5 + other).toNat cost)
theorem JS.same {one other cost z z' : Int} {jo jo' mo mo' : Nat → Int} (h : JS one other cost z jo jo') (g : JS one other cost z' mo mo') (e : ∀ j : Nat, j < 25 → jo j = mo j) : z = z' ∧ ∀ j : Nat, j < 25 → jo' j = mo' j := by
  rcases h with ⟨h1, h2, h3⟩ | ⟨h1, h2, h3, h4⟩ | ⟨h1, h2, h3, h4, h5⟩ <;> rcases g with ⟨g1, g2, g3⟩ | ⟨g1, g2, g3, g4⟩ | ⟨g1, g2, g3, g4, g5⟩
  · subst h2; subst g2; subst h3; subst g3; exact ⟨rfl, e⟩
  · exact absurd g1 h1
  · exact absurd g1 h1
  · exact absurd h1 g1
  · subst h3; subst g3; subst h4; subst g4; exact ⟨rfl, e⟩
  · omega
  · exact absurd h1 g1
  · omega
  · obtain ⟨a1, a2, a3, a4, -⟩ := h1
    subst h4; subst g4; subst h5; subst g5
    refine ⟨e _ (by omega), fun j hj => ?_⟩
    by_cases q : j = (one * 5 + other).toNat
    · rw [q, zup_eq, zup_eq]
    · rw [zup_ne q, zup_ne q]; exact e j hj
def RV (what n : Int) : Prop := 0 ≤ what ∧ what ≤ 3 ∧ 0 ≤ n ∧ n ≤ 99 ∧ (what = 0 → n ≤ 2) ∧ (what = 3 → n ≤ 3)
def RS (what n z : Int) (ru ru' : Nat → Int) : Prop := (¬ RV what n ∧ z = -2 ∧ ru' = ru) ∨ (RV what n ∧ z = ru what.toNat ∧ ru' = zup ru what.toNat n)
theorem RS.same {what n z z' : Int} {jo jo' mo mo' : Nat → Int} (h : RS what n z jo jo') (g : RS what n z' mo mo') (e : ∀ j : Nat, j < 4 → jo j = mo j) : z = z' ∧ ∀ j : Nat, j < 4 → jo' j = mo' j := by
  rcases h with ⟨h1, h2, h3⟩ | ⟨h1, h2, h3⟩ <;> rcases g with ⟨g1, g2, g3⟩ | ⟨g1, g2, g3⟩
  · subst h2; subst g2; subst h3; subst g3; exact ⟨rfl, e⟩
  · exact absurd g1 h1
  · exact absurd h1 g1
  · obtain ⟨a1, a2, -⟩ := h1
    subst h2; subst g2; subst h3; subst g3
    refine ⟨e _ (by omega), fun j hj => ?_⟩
    by_cases q : j = what.toNat
    · rw [q, zup_eq, zup_eq]
    · rw [zup_ne q, zup_ne q]; exact e j hj
/-- what a book holds: count, letters, lengths, kinds, costs, joins, rules, line, the line's length -/
abbrev zBQ : Type := Int → (Nat → Int) → (Nat → Int) → (Nat → Int) → (Nat → Int) → (Nat → Int) → (Nat → Int) → (Nat → Int) → Int → Prop
/-- it holds the same -/
def QB (dc : Int) (le si ki co jo ru li : Nat → Int) (ll : Int) : zBQ := fun dc' le' si' ki' co' jo' ru' li' ll' => dc' = dc ∧ (∀ j : Nat, j < 96 → le' j = le j) ∧ (∀ j : Nat, j < 16 → si' j = si j) ∧ (∀ j : Nat, j < 16 → ki' j = ki j) ∧ (∀ j : Nat, j < 16 → co' j = co j) ∧ (∀ j : Nat, j < 25 → jo' j = jo j) ∧ (∀ j : Nat, j < 4 → ru' j = ru j) ∧ (∀ j : Nat, j < 24 → li' j = li j) ∧ ll' = ll
/-- it holds what the image's row has from b on: joins, rules -/
def QJ (im : Nat → Int) (b : Nat) : zBQ := fun _ _ _ _ _ jo ru _ _ => (∀ j : Nat, j < 25 → jo j = im (b + 144 + j)) ∧ (∀ j : Nat, j < 4 → ru j = im (b + 170 + j))
/-- the reference's image: what it does to its row -/
def zMQ (n z : Int) (wd ln : Int) (le sz kd co jo ru li im im' kp kp' : Nat → Int) : Prop := (¬ (n = 0 ∨ n = 1) ∧ z = -2 ∧ im' = im ∧ kp' = kp) ∨ ((n = 0 ∨ n = 1) ∧ z = 1 ∧ kp' = zup kp n.toNat 1 ∧ CO im' im (230 * n) ∧ CY im' le (230 * n) 96 ∧ CY im' sz (230 * n + 96) 16 ∧ CY im' kd (230 * n + 112) 16 ∧ CY im' co (230 * n + 128) 16 ∧ CY im' jo (230 * n + 144) 25 ∧ CY im' ru (230 * n + 170) 4 ∧ CY im' li (230 * n + 180) 24 ∧ im' (230 * n + 210).toNat = wd ∧ im' (230 * n + 211).toNat = ln)
def zMR (n z : Int) (im kp : Nat → Int) (wd ln : Int) (le sz kd co jo ru li : Nat → Int) (wd' ln' : Int) (le' sz' kd' co' jo' ru' li' : Nat → Int) : Prop :=
  (¬ (n = 0 ∨ n = 1) ∧ z = -2 ∧ wd' = wd ∧ ln' = ln ∧ le' = le ∧ sz' = sz ∧ kd' = kd ∧ co' = co ∧ jo' = jo ∧ ru' = ru ∧ li' = li) ∨
  ((n = 0 ∨ n = 1) ∧ kp n.toNat = 0 ∧ z = -3 ∧ wd' = wd ∧ ln' = ln ∧ le' = le ∧ sz' = sz ∧ kd' = kd ∧ co' = co ∧ jo' = jo ∧ ru' = ru ∧ li' = li) ∨
  ((n = 0 ∨ n = 1) ∧ kp n.toNat ≠ 0 ∧ z = 1 ∧ wd' = im (230 * n + 210).toNat ∧ ln' = im (230 * n + 211).toNat ∧ RY le' im (230 * n) 96 ∧ RY sz' im (230 * n + 96) 16 ∧ RY kd' im (230 * n + 112) 16 ∧ RY co' im (230 * n + 128) 16 ∧ RY jo' im (230 * n + 144) 25 ∧ RY ru' im (230 * n + 170) 4 ∧ RY li' im (230 * n + 180) 24)
