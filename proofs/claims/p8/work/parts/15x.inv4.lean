/-- im holds f from b on, k of them -/
def CY (im f : Nat → Int) (b k : Int) : Prop := ∀ j : Nat, (j : Int) < k → im (b + j).toNat = f j
theorem CY.nil {im f : Nat → Int} {b : Int} : CY im f b 0 := fun j hj => by omega
theorem CY.step {im f : Nat → Int} {b k : Int} (h : CY im f b k) (hb : 0 ≤ b) (hk : 0 ≤ k) : CY (zup im (b + k).toNat (f k.toNat)) f b (k + 1) := by
  intro j hj
  by_cases e : (j : Int) = k
  · have e2 : (b + j).toNat = (b + k).toNat := by omega
    have e3 : j = k.toNat := by omega
    rw [e2, zup_eq, e3]
  · rw [zup_ne (by omega)]; exact h j (by omega)
theorem CY.keep {im f : Nat → Int} {b k : Int} (h : CY im f b k) (hb : 0 ≤ b) {x v : Int} (hx : 0 ≤ x) (ho : x < b ∨ b + k ≤ x) : CY (zup im x.toNat v) f b k := by
  intro j hj
  rw [zup_ne (by omega)]; exact h j hj
def CO (im im0 : Nat → Int) (b : Int) : Prop := ∀ j : Nat, ((j : Int) < b ∨ b + 230 ≤ j) → im j = im0 j
theorem CO.put {im im0 : Nat → Int} {b x v : Int} (h : CO im im0 b) (h0 : 0 ≤ x) (h1 : b ≤ x) (h2 : x < b + 230) : CO (zup im x.toNat v) im0 b := by
  intro j hj
  rw [zup_ne (by omega)]; exact h j hj
theorem II.of {im sz kd co jo ru : Nat → Int} {b wd ln : Int} (hb : 0 ≤ b) (h1 : DI wd sz kd co) (h2 : BI jo ru ln) (c1 : CY im sz (b + 96) 16) (c2 : CY im kd (b + 112) 16) (c3 : CY im co (b + 128) 16) (c4 : CY im jo (b + 144) 25) (c5 : CY im ru (b + 170) 4) (c6 : im (b + 210).toNat = wd) (c7 : im (b + 211).toNat = ln) : II im b.toNat := by
  have e1 : ∀ (d : Int) (n j : Nat), d = n → (b + d + j).toNat = b.toNat + n + j := fun d n j h => by omega
  refine ⟨?_, ?_⟩
  · rw [show b.toNat + 210 = (b + 210).toNat by omega, c6]
    refine h1.eq (fun j hj => ?_) (fun j hj => ?_) (fun j hj => ?_)
    · rw [← e1 96 96 j rfl]; exact c1 j (by omega)
    · rw [← e1 112 112 j rfl]; exact c2 j (by omega)
    · rw [← e1 128 128 j rfl]; exact c3 j (by omega)
  · rw [show b.toNat + 211 = (b + 211).toNat by omega, c7]
    refine h2.eq (fun j hj => ?_) (fun j hj => ?_)
    · rw [← e1 144 144 j rfl]; exact c4 j (by omega)
    · rw [← e1 170 170 j rfl]; exact c5 j (by omega)
theorem II.same {im im0 : Nat → Int} {b : Nat} (h : II im0 b) (hs : ∀ j : Nat, b ≤ j → j < b + 230 → im j = im0 j) : II im b := by
  obtain ⟨h1, h2⟩ := h
  refine ⟨?_, ?_⟩
  · rw [hs (b + 210) (by omega) (by omega)]
    exact h1.eq (fun j hj => hs _ (by omega) (by omega)) (fun j hj => hs _ (by omega) (by omega)) (fun j hj => hs _ (by omega) (by omega))
  · rw [hs (b + 211) (by omega) (by omega)]
    exact h2.eq (fun j hj => hs _ (by omega) (by omega)) (fun j hj => hs _ (by omega) (by omega))
theorem MI.image {wd ln sg n : Int} {sz kd co jo ru im im0 kp : Nat → Int} (h : MI wd sz kd co jo ru ln sg im0 kp) (hn : n = 0 ∨ n = 1) (ho : CO im im0 (230 * n)) (hi : II im (230 * n).toNat) : MI wd sz kd co jo ru ln sg im (zup kp n.toNat 1) := by
  obtain ⟨h1, h2, h3, h4, h5⟩ := h
  rcases hn with rfl | rfl
  · refine ⟨h1, h2, h3, fun _ => hi, fun q => ?_⟩
    rw [zup_ne (by decide)] at q
    exact (h5 q).same (fun j q1 q2 => ho j (by omega))
  · refine ⟨h1, h2, h3, fun q => ?_, fun _ => hi⟩
    rw [zup_ne (by decide)] at q
    exact (h4 q).same (fun j q1 q2 => ho j (by omega))
/-- f holds what im has from b on, k of them -/
def RY (f im : Nat → Int) (b k : Int) : Prop := ∀ j : Nat, (j : Int) < k → f j = im (b + j).toNat
theorem RY.nil {im f : Nat → Int} {b : Int} : RY f im b 0 := fun j hj => by omega
theorem RY.step {im f : Nat → Int} {b k : Int} (h : RY f im b k) (hk : 0 ≤ k) : RY (zup f k.toNat (im (b + k).toNat)) im b (k + 1) := by
  intro j hj
  by_cases e : (j : Int) = k
  · have e3 : j = k.toNat := by omega
    rw [e3, zup_eq]
    congr 2; omega
  · rw [zup_ne (by omega)]; exact h j (by omega)
theorem II.back {im sz kd co jo ru : Nat → Int} {b : Int} (hb : 0 ≤ b) (h : II im b.toNat) (c1 : RY sz im (b + 96) 16) (c2 : RY kd im (b + 112) 16) (c3 : RY co im (b + 128) 16) (c4 : RY jo im (b + 144) 25) (c5 : RY ru im (b + 170) 4) : DI (im (b + 210).toNat) sz kd co ∧ BI jo ru (im (b + 211).toNat) := by
  obtain ⟨h1, h2⟩ := h
  have e1 : ∀ (d : Int) (n j : Nat), d = n → (b + d + j).toNat = b.toNat + n + j := fun d n j h => by omega
  refine ⟨?_, ?_⟩
  · rw [show (b + 210).toNat = b.toNat + 210 by omega]
    refine h1.eq (fun j hj => ?_) (fun j hj => ?_) (fun j hj => ?_)
    · rw [← e1 96 96 j rfl]; exact c1 j (by omega)
    · rw [← e1 112 112 j rfl]; exact c2 j (by omega)
    · rw [← e1 128 128 j rfl]; exact c3 j (by omega)
  · rw [show (b + 211).toNat = b.toNat + 211 by omega]
    refine h2.eq (fun j hj => ?_) (fun j hj => ?_)
    · rw [← e1 144 144 j rfl]; exact c4 j (by omega)
    · rw [← e1 170 170 j rfl]; exact c5 j (by omega)
