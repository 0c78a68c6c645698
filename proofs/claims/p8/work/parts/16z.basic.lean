/-! the basic state, as both sides read it -/
def lt_ (v : Int) : Prop := 97 ≤ v ∧ v ≤ 104
def dg_ (v : Int) : Prop := 48 ≤ v ∧ v ≤ 57
/-- the sign at a place, 0 where none stands -/
def sA (n : Int) (sg : Nat → Int) (a : Int) : Int := if 0 ≤ a ∧ a < n then sg a.toNat else 0
theorem sA_in {n : Int} {sg : Nat → Int} {a : Int} (h0 : 0 ≤ a) (h1 : a < n) : sA n sg a = sg a.toNat := if_pos ⟨h0, h1⟩
theorem sA_out {n : Int} {sg : Nat → Int} {a : Int} (h : a < 0 ∨ n ≤ a) : sA n sg a = 0 := if_neg (by omega)
theorem sA.same {n : Int} {sg sg' : Nat → Int} (e : ∀ j : Nat, (j : Int) < n → sg j = sg' j) (a : Int) : sA n sg a = sA n sg' a := by
  unfold sA
  split
  · exact e _ (by omega)
  · rfl
def LD (n : Int) (sg : Nat → Int) (most L : Int) : Prop := 0 ≤ L ∧ L ≤ most ∧ L ≤ n ∧ (∀ j : Nat, (j : Int) < L → lt_ (sg j)) ∧ (L = most ∨ L = n ∨ ¬ lt_ (sg L.toNat))
theorem LD.same {n most L L' : Int} {sg sg' : Nat → Int} (h : LD n sg most L) (g : LD n sg' most L') (e : ∀ j : Nat, (j : Int) < n → sg j = sg' j) : L = L' := by
  obtain ⟨h1, h2, h3, h4, h5⟩ := h
  obtain ⟨g1, g2, g3, g4, g5⟩ := g
  rcases Int.lt_trichotomy L L' with q | q | q
  · have := g4 L.toNat (by omega)
    rw [← e L.toNat (by omega)] at this
    rcases h5 with r | r | r
    · omega
    · omega
    · exact absurd this r
  · exact q
  · have := h4 L'.toNat (by omega)
    rw [e L'.toNat (by omega)] at this
    rcases g5 with r | r | r
    · omega
    · omega
    · exact absurd this r
theorem LD.step {sg : Nat → Int} {f : Int} (h : ∀ j : Nat, (j : Int) < f → lt_ (sg j)) (h0 : 0 ≤ f) (hs : lt_ (sg f.toNat)) : ∀ j : Nat, (j : Int) < f + 1 → lt_ (sg j) := by
  intro j hj
  by_cases e : j = f.toNat
  · rw [e]; exact hs
  · exact h j (by omega)
/-- the fault as a line -/
def LF (n : Int) (sg : Nat → Int) (z : Int) : Prop := ∃ L, LD n sg 24 L ∧ ((0 < L ∧ L = n ∧ z = -6) ∨ (¬ (0 < L ∧ L = n) ∧ z = L))
theorem LF.same {n z z' : Int} {sg sg' : Nat → Int} (h : LF n sg z) (g : LF n sg' z') (e : ∀ j : Nat, (j : Int) < n → sg j = sg' j) : z = z' := by
  obtain ⟨L, h1, h2⟩ := h
  obtain ⟨L', g1, g2⟩ := g
  have := h1.same g1 e
  omega
def KD (v K : Int) : Prop := (v = 110 ∧ K = 0) ∨ (v = 118 ∧ K = 1) ∨ (v = 109 ∧ K = 2) ∨ (v ≠ 110 ∧ v ≠ 118 ∧ v ≠ 109 ∧ K = -6)
def WN (n : Int) (sg : Nat → Int) (a K : Int) : Prop := ∀ j : Int, 0 ≤ j → j < 4 → sA n sg (a + j) = ztxt (4 * K + j).toNat
def AD (n : Int) (sg : Nat → Int) (a K b : Int) : Prop := (WN n sg a K ∧ b = a + 4) ∨ (¬ WN n sg a K ∧ b = a + 1)
def EN (n b z : Int) : Prop := (b = n ∧ z = -6) ∨ (b ≠ n ∧ z = b)
def CF (n : Int) (sg : Nat → Int) (a z co : Int) : Prop := (¬ dg_ (sA n sg a) ∧ z = a) ∨ (dg_ (sA n sg a) ∧ ((dg_ (sA n sg (a + 1)) ∧ co = (sA n sg a - 48) * 10 + sA n sg (a + 1) - 48 ∧ EN n (a + 2) z) ∨ (¬ dg_ (sA n sg (a + 1)) ∧ co = sA n sg a - 48 ∧ EN n (a + 1) z)))
/-- the fault as a word; what is read -/
def WF (n : Int) (sg : Nat → Int) (z le ki co : Int) : Prop := ∃ L, LD n sg 6 L ∧ le = L ∧ ((¬ (1 ≤ L ∧ sA n sg L = 61) ∧ z = L) ∨ (1 ≤ L ∧ sA n sg L = 61 ∧ ∃ K, KD (sA n sg (L + 1)) K ∧ ki = K ∧ ((K = -6 ∧ z = L + 1) ∨ (K ≠ -6 ∧ ∃ a, AD n sg (L + 1) K a ∧ CF n sg a z co))))
theorem KD.same {v K K' : Int} (h : KD v K) (g : KD v K') : K = K' := by
  unfold KD at h g; omega
theorem CF.same {n a z z' co co' : Int} {sg sg' : Nat → Int} (h : CF n sg a z co) (g : CF n sg' a z' co') (h0 : 0 ≤ a) (e : ∀ j : Nat, (j : Int) < n → sg j = sg' j) : z = z' ∧ (z = -6 → co = co') := by
  unfold CF EN dg_ at h g
  rw [sA.same e a, sA.same e (a + 1)] at h
  omega
theorem WF.same {n z z' le le' ki ki' co co' : Int} {sg sg' : Nat → Int} (h : WF n sg z le ki co) (g : WF n sg' z' le' ki' co') (e : ∀ j : Nat, (j : Int) < n → sg j = sg' j) : z = z' ∧ le = le' ∧ (z = -6 → ki = ki' ∧ co = co') := by
  obtain ⟨L, h1, h2, h3⟩ := h
  obtain ⟨L', g1, g2, g3⟩ := g
  have hL := h1.same g1 e
  subst hL
  have e1 := sA.same e L
  have hLn := h1.1
  rcases h3 with ⟨h3, h4⟩ | ⟨h3, h4, K, h5, h6, h7⟩ <;> rcases g3 with ⟨g3, g4⟩ | ⟨g3, g4, K', g5, g6, g7⟩
  · exact ⟨by omega, by omega, fun q => by omega⟩
  · exact absurd ⟨g3, e1.trans g4⟩ h3
  · exact absurd ⟨h3, e1.symm.trans h4⟩ g3
  · rw [sA.same e (L + 1)] at h5
    have hK := h5.same g5
    subst hK
    rcases h7 with ⟨h7, h8⟩ | ⟨h7, a, h8, h9⟩ <;> rcases g7 with ⟨g7, g8⟩ | ⟨g7, a', g8, g9⟩
    · exact ⟨by omega, by omega, fun q => by omega⟩
    · exact absurd h7 g7
    · exact absurd g7 h7
    · have hW : WN n sg (L + 1) K ↔ WN n sg' (L + 1) K := by
        constructor
        · intro h j j0 j1; rw [← sA.same e]; exact h j j0 j1
        · intro h j j0 j1; rw [sA.same e]; exact h j j0 j1
      have ha : a = a' ∧ 0 ≤ a := by
        rcases h8 with ⟨u, v⟩ | ⟨u, v⟩ <;> rcases g8 with ⟨u', v'⟩ | ⟨u', v'⟩
        · omega
        · exact absurd (hW.mp u) u'
        · exact absurd (hW.mpr u') u
        · omega
      obtain ⟨rfl, ha0⟩ := ha
      have := h9.same g9 ha0 e
      exact ⟨this.1, by omega, fun q => ⟨by omega, this.2 q⟩⟩
theorem ztxt_p : ∀ j, 97 ≤ ztxt j := by
  intro j
  unfold ztxt
  split <;> decide
theorem ztxt_and : ∀ j : Nat, j < 12 → (iZ (ztxt j) &&& iZ 255).toInt = ztxt j := by decide +kernel
theorem KD.z {v K : Int} (h : KD v K) (hk : K ≠ -6) : v = ztxt (4 * K + 0).toNat := by
  rcases h with ⟨h1, h2⟩ | ⟨h1, h2⟩ | ⟨h1, h2⟩ | ⟨-, -, -, h2⟩
  · subst h1; subst h2; rfl
  · subst h1; subst h2; rfl
  · subst h1; subst h2; rfl
  · exact absurd h2 hk
def KQ (v q K : Int) : Prop := (v = 110 ∧ 1 ≤ q ∧ K = 0) ∨ (v = 118 ∧ 2 ≤ q ∧ K = 1) ∨ (v = 109 ∧ 3 ≤ q ∧ K = 2) ∨ (¬ (v = 110 ∧ 1 ≤ q) ∧ ¬ (v = 118 ∧ 2 ≤ q) ∧ ¬ (v = 109 ∧ 3 ≤ q) ∧ K = -6)
def zSS (sg z n : Int) (p : Nat → Int) (n' : Int) (p' : Nat → Int) : Prop := (¬ (33 ≤ sg ∧ sg ≤ 126) ∧ z = -2 ∧ n' = n ∧ p' = p) ∨ (33 ≤ sg ∧ sg ≤ 126 ∧ n = 40 ∧ z = -4 ∧ n' = n ∧ p' = p) ∨ (33 ≤ sg ∧ sg ≤ 126 ∧ n ≠ 40 ∧ z = n + 1 ∧ n' = n + 1 ∧ p' = zup p n.toNat sg)
theorem zSS.same {sg z z2 n n2 n' n2' : Int} {p p2 p' p2' : Nat → Int} (h : zSS sg z n p n' p') (g : zSS sg z2 n2 p2 n2' p2') (h0 : 0 ≤ n) (e1 : n = n2) (e2 : ∀ j : Nat, (j : Int) < n → p j = p2 j) : z = z2 ∧ n' = n2' ∧ ∀ j : Nat, (j : Int) < n' → p' j = p2' j := by
  subst e1
  rcases h with ⟨h1, h2, h3, h4⟩ | ⟨h1, h2, h3, h4, h5, h6⟩ | ⟨h1, h2, h3, h4, h5, h6⟩ <;> rcases g with ⟨g1, g2, g3, g4⟩ | ⟨g1, g2, g3, g4, g5, g6⟩ | ⟨g1, g2, g3, g4, g5, g6⟩
  · subst h3; subst h4; subst g3; subst g4; exact ⟨by omega, rfl, e2⟩
  · omega
  · omega
  · omega
  · subst h5; subst h6; subst g5; subst g6; exact ⟨by omega, rfl, e2⟩
  · omega
  · omega
  · omega
  · subst h6; subst g6
    refine ⟨by omega, by omega, fun j hj => ?_⟩
    by_cases q : j = n.toNat
    · rw [q, zup_eq, zup_eq]
    · rw [zup_ne q, zup_ne q]; exact e2 j (by omega)
def zWP (n z n' : Int) : Prop := z = n ∧ n' = 0
def zFT (as_ n : Int) (sg : Nat → Int) (z : Int) : Prop := (as_ = 0 → ∃ a b c, WF n sg z a b c) ∧ (as_ = 1 → LF n sg z) ∧ (as_ ≠ 0 → as_ ≠ 1 → z = -2)
theorem zFT.same {as_ n n2 z z2 : Int} {sg sg2 : Nat → Int} (h : zFT as_ n sg z) (g : zFT as_ n2 sg2 z2) (e1 : n = n2) (e2 : ∀ j : Nat, (j : Int) < n → sg j = sg2 j) : z = z2 := by
  subst e1
  obtain ⟨h1, h2, h3⟩ := h
  obtain ⟨g1, g2, g3⟩ := g
  by_cases q0 : as_ = 0
  · obtain ⟨a, b, c, h1⟩ := h1 q0
    obtain ⟨a2, b2, c2, g1⟩ := g1 q0
    exact (h1.same g1 e2).1
  · by_cases q1 : as_ = 1
    · exact (h2 q1).same (g2 q1) e2
    · rw [h3 q0 q1, g3 q0 q1]
/-- a word that the pad has read: its letters, its kind -/
def MT (le si ki sg : Nat → Int) (L K : Int) (w : Nat) : Prop := si w = L ∧ ki w = K ∧ ∀ i : Nat, (i : Int) < L → le (6 * w + i) = sg i
def ST (le : Nat → Int) (len : Int) (w : Nat) (row : Nat → Int) (place end_ : Int) : Prop := len ≤ end_ - place ∧ ∀ i : Nat, (i : Int) < len → le (6 * w + i) = row (place.toNat + i)
def UQ (dc : Int) (le si ki : Nat → Int) : Prop := ∀ v w : Nat, (v : Int) < dc → (w : Int) < dc → si v = si w → ki v = ki w → (∀ i : Nat, (i : Int) < si v → le (6 * v + i) = le (6 * w + i)) → v = w
def DQ (dc : Int) (le si ki co : Nat → Int) (wd : Int) (le2 sz kd co2 : Nat → Int) : Prop := dc = wd ∧ ∀ w : Nat, (w : Int) < dc → si w = sz w ∧ ki w = kd w ∧ co w = co2 w ∧ ∀ i : Nat, (i : Int) < si w → le (6 * w + i) = le2 (6 * w + i)
def DS (dc : Int) (le si ki co : Nat → Int) (dc' : Int) (le' si' ki' co' : Nat → Int) : Prop := dc' = dc ∧ le' = le ∧ si' = si ∧ ki' = ki ∧ co' = co
/-- a word that was read is put -/
def zPT (sg : Nat → Int) (L K C z dc : Int) (le si ki co : Nat → Int) (dc' : Int) (le' si' ki' co' : Nat → Int) : Prop :=
  (z = -4 ∧ dc = 16 ∧ (∀ v : Nat, (v : Int) < dc → ¬ MT le si ki sg L K v) ∧ DS dc le si ki co dc' le' si' ki' co') ∨
  (z = dc ∧ dc < 16 ∧ (∀ v : Nat, (v : Int) < dc → ¬ MT le si ki sg L K v) ∧ dc' = dc + 1 ∧ (∀ v : Nat, (v : Int) < dc → si' v = si v ∧ ki' v = ki v ∧ co' v = co v ∧ ∀ i : Nat, i < 6 → le' (6 * v + i) = le (6 * v + i)) ∧ co' dc.toNat = C ∧ MT le' si' ki' sg L K dc.toNat) ∨
  (∃ w : Nat, z = w ∧ (w : Int) < dc ∧ MT le si ki sg L K w ∧ dc' = dc ∧ (∀ v : Nat, (v : Int) < dc → si' v = si v ∧ ki' v = ki v ∧ (v ≠ w → co' v = co v) ∧ ∀ i : Nat, i < 6 → le' (6 * v + i) = le (6 * v + i)) ∧ co' w = C)
def zLE (n : Int) (sg : Nat → Int) (z n' dc : Int) (le si ki co : Nat → Int) (dc' : Int) (le' si' ki' co' : Nat → Int) : Prop := ∃ f L K C, WF n sg f L K C ∧ ((f ≠ -6 ∧ z = -5 ∧ n' = n ∧ DS dc le si ki co dc' le' si' ki' co') ∨ (f = -6 ∧ zPT sg L K C z dc le si ki co dc' le' si' ki' co' ∧ (z = -4 → n' = n) ∧ (z ≠ -4 → n' = 0)))
theorem WF.len {n f L K C : Int} {sg : Nat → Int} (h : WF n sg f L K C) : 0 ≤ L ∧ L ≤ 6 ∧ L ≤ n := by
  obtain ⟨L', h1, h2, -⟩ := h
  subst h2
  exact ⟨h1.1, h1.2.1, h1.2.2.1⟩
theorem MT.same {le si ki sg le2 sz kd sg2 : Nat → Int} {L K : Int} {w : Nat} (h : MT le si ki sg L K w) (d : si w = sz w ∧ ki w = kd w ∧ ∀ i : Nat, (i : Int) < si w → le (6 * w + i) = le2 (6 * w + i)) (e : ∀ j : Nat, (j : Int) < L → sg j = sg2 j) : MT le2 sz kd sg2 L K w := by
  obtain ⟨h1, h2, h3⟩ := h
  obtain ⟨d1, d2, d3⟩ := d
  refine ⟨by omega, by omega, fun i hi => ?_⟩
  rw [← d3 i (by omega), h3 i hi, e i hi]
theorem zPT.same {sg sg2 : Nat → Int} {L K C z z2 dc wd dc' wd' : Int} {le si ki co le' si' ki' co' le2 sz kd co2 le2' sz' kd' co2' : Nat → Int} (h : zPT sg L K C z dc le si ki co dc' le' si' ki' co') (g : zPT sg2 L K C z2 wd le2 sz kd co2 wd' le2' sz' kd' co2') (hL : L ≤ 6) (hD : DI dc si ki co) (e : ∀ j : Nat, (j : Int) < L → sg j = sg2 j) (d : DQ dc le si ki co wd le2 sz kd co2) (u : UQ dc le si ki) : z = z2 ∧ DQ dc' le' si' ki' co' wd' le2' sz' kd' co2' ∧ UQ dc' le' si' ki' := by
  obtain ⟨d1, d2⟩ := id d
  subst d1
  have m1 : ∀ v : Nat, (v : Int) < dc → MT le si ki sg L K v → MT le2 sz kd sg2 L K v := fun v hv hm => hm.same ⟨(d2 v hv).1, (d2 v hv).2.1, (d2 v hv).2.2.2⟩ e
  have m2 : ∀ v : Nat, (v : Int) < dc → MT le2 sz kd sg2 L K v → MT le si ki sg L K v := by
    intro v hv hm
    obtain ⟨a1, a2, a3, a4⟩ := d2 v hv
    exact hm.same ⟨a1.symm, a2.symm, fun i hi => (a4 i (by omega)).symm⟩ (fun j hj => (e j hj).symm)
  have h6 : ∀ v : Nat, (v : Int) < dc → si v ≤ 6 := fun v hv => by have := hD.2.2 v hv; omega
  rcases h with ⟨h1, h2, h3, h4⟩ | ⟨h1, h2, h3, h4, h5, h7, h8⟩ | ⟨w, h1, h2, h3, h4, h5, h7⟩ <;> rcases g with ⟨g1, g2, g3, g4⟩ | ⟨g1, g2, g3, g4, g5, g7, g8⟩ | ⟨w2, g1, g2, g3, g4, g5, g7⟩
  · obtain ⟨rfl, rfl, rfl, rfl, rfl⟩ := h4
    obtain ⟨rfl, rfl, rfl, rfl, rfl⟩ := g4
    exact ⟨by omega, d, u⟩
  · omega
  · exact absurd (m2 w2 g2 g3) (h3 w2 g2)
  · omega
  · subst h4; subst g4
    refine ⟨by omega, ⟨rfl, fun v hv => ?_⟩, fun v w hv hw k1 k2 k3 => ?_⟩
    · by_cases q : v = dc.toNat
      · subst q
        obtain ⟨a1, a2, a3⟩ := h8
        obtain ⟨b1, b2, b3⟩ := g8
        refine ⟨by omega, by omega, by omega, fun i hi => ?_⟩
        rw [a3 i (by omega), b3 i (by omega), e i (by omega)]
      · have hv2 : (v : Int) < dc := by omega
        obtain ⟨a1, a2, a3, a4⟩ := h5 v hv2
        obtain ⟨b1, b2, b3, b4⟩ := g5 v hv2
        obtain ⟨c1, c2, c3, c4⟩ := d2 v hv2
        have := h6 v hv2
        refine ⟨by omega, by omega, by omega, fun i hi => ?_⟩
        rw [a4 i (by omega), b4 i (by omega), c4 i (by omega)]
    · have key : ∀ a : Nat, (a : Int) < dc → si' a = si' dc.toNat → ki' a = ki' dc.toNat → (∀ i : Nat, (i : Int) < si' a → le' (6 * a + i) = le' (6 * dc.toNat + i)) → False := by
        intro a ha q1 q2 q3
        obtain ⟨a1, a2, a3, a4⟩ := h5 a ha
        obtain ⟨b1, b2, b3⟩ := h8
        have := h6 a ha
        refine h3 a ha ⟨by omega, by omega, fun i hi => ?_⟩
        rw [← a4 i (by omega), q3 i (by omega), b3 i hi]
      by_cases qv : v = dc.toNat <;> by_cases qw : w = dc.toNat
      · omega
      · subst qv
        exact (key w (by omega) k1.symm k2.symm (fun i hi => (k3 i (by omega)).symm)).elim
      · subst qw
        exact (key v (by omega) k1 k2 k3).elim
      · have hv2 : (v : Int) < dc := by omega
        have hw2 : (w : Int) < dc := by omega
        obtain ⟨a1, a2, a3, a4⟩ := h5 v hv2
        obtain ⟨b1, b2, b3, b4⟩ := h5 w hw2
        have := h6 v hv2
        refine u v w hv2 hw2 (by omega) (by omega) (fun i hi => ?_)
        rw [← a4 i (by omega), k3 i (by omega), b4 i (by omega)]
  · exact absurd (m2 w2 g2 g3) (h3 w2 g2)
  · exact absurd (m1 w h2 h3) (g3 w h2)
  · exact absurd (m1 w h2 h3) (g3 w h2)
  · have hw : w = w2 := by
      have h3' := m2 w2 g2 g3
      refine u w w2 h2 g2 (by have := h3.1; have := h3'.1; omega) (by have := h3.2.1; have := h3'.2.1; omega) (fun i hi => ?_)
      rw [h3.2.2 i (by have := h3.1; omega), h3'.2.2 i (by have := h3.1; omega)]
    subst hw
    subst h4; subst g4
    refine ⟨by omega, ⟨rfl, fun v hv => ?_⟩, fun v x hv hx k1 k2 k3 => ?_⟩
    · obtain ⟨a1, a2, a3, a4⟩ := h5 v hv
      obtain ⟨b1, b2, b3, b4⟩ := g5 v hv
      obtain ⟨c1, c2, c3, c4⟩ := d2 v hv
      have := h6 v hv
      refine ⟨by omega, by omega, ?_, fun i hi => ?_⟩
      · by_cases q : v = w
        · subst q; omega
        · rw [a3 q, b3 q, c3]
      · rw [a4 i (by omega), b4 i (by omega), c4 i (by omega)]
    · obtain ⟨a1, a2, a3, a4⟩ := h5 v hv
      obtain ⟨b1, b2, b3, b4⟩ := h5 x hx
      have := h6 v hv
      refine u v x hv hx (by omega) (by omega) (fun i hi => ?_)
      rw [← a4 i (by omega), k3 i (by omega), b4 i (by omega)]
theorem zLE.same {n n2 z z2 n' n2' dc wd dc' wd' : Int} {sg sg2 le si ki co le' si' ki' co' le2 sz kd co2 le2' sz' kd' co2' : Nat → Int} (h : zLE n sg z n' dc le si ki co dc' le' si' ki' co') (g : zLE n2 sg2 z2 n2' wd le2 sz kd co2 wd' le2' sz' kd' co2') (hD : DI dc si ki co) (e1 : n = n2) (e2 : ∀ j : Nat, (j : Int) < n → sg j = sg2 j) (d : DQ dc le si ki co wd le2 sz kd co2) (u : UQ dc le si ki) : z = z2 ∧ (n' = n2' ∧ ∀ j : Nat, (j : Int) < n' → sg j = sg2 j) ∧ DQ dc' le' si' ki' co' wd' le2' sz' kd' co2' ∧ UQ dc' le' si' ki' := by
  subst e1
  obtain ⟨f, L, K, C, h1, h2⟩ := h
  obtain ⟨f2, L2, K2, C2, g1, g2⟩ := g
  obtain ⟨w1, w2, w3⟩ := h1.same g1 e2
  have hl := h1.len
  subst w1; subst w2
  rcases h2 with ⟨h2, h3, h4, h5⟩ | ⟨h2, h3, h4, h5⟩ <;> rcases g2 with ⟨g2, g3, g4, g5⟩ | ⟨g2, g3, g4, g5⟩
  · obtain ⟨rfl, rfl, rfl, rfl, rfl⟩ := h5
    obtain ⟨rfl, rfl, rfl, rfl, rfl⟩ := g5
    exact ⟨by omega, ⟨by omega, fun j hj => e2 j (by omega)⟩, d, u⟩
  · exact absurd g2 h2
  · exact absurd h2 g2
  · obtain ⟨rfl, rfl⟩ := w3 h2
    obtain ⟨r1, r2, r3⟩ := h3.same g3 hl.2.1 hD (fun j hj => e2 j (by omega)) d u
    exact ⟨r1, ⟨by omega, fun j hj => e2 j (by omega)⟩, r2, r3⟩
def sh (w v : Nat) : Nat := if v < w then v else v + 1
theorem sh_lo {w v : Nat} (h : v < w) : sh w v = v := if_pos h
theorem sh_hi {w v : Nat} (h : ¬ v < w) : sh w v = v + 1 := if_neg h
theorem sh_lt {w v : Nat} : sh w v ≤ v + 1 := by unfold sh; split <;> omega
theorem sh_inj {w v x : Nat} (h : sh w v = sh w x) : v = x := by unfold sh at h; split at h <;> split at h <;> omega
theorem zcp_sh {f : Nat → Int} {a b n w v : Nat} (ha : a = w + 1) (hb : b = w) (hv : v < w + n) : zcp f f a b n v = f (sh w v) := by
  by_cases h : v < w
  · rw [zcp_out (by omega), sh_lo h]
  · rw [zcp_in (by omega) (by omega), sh_hi h]; congr 1; omega
theorem zcp_sh6 {f : Nat → Int} {a b n w v i m : Nat} (ha : a = 6 * w + 6) (hb : b = 6 * w) (hn : n = 6 * m) (hv : v < w + m) (hi : i < 6) : zcp f f a b n (6 * v + i) = f (6 * sh w v + i) := by
  by_cases h : v < w
  · rw [zcp_out (by omega), sh_lo h]
  · rw [zcp_in (by omega) (by omega), sh_hi h]; congr 1; omega
def zRM (w : Nat) (dc : Int) (le si ki co le' si' ki' co' : Nat → Int) : Prop := ∀ v : Nat, (v : Int) < dc - 1 → si' v = si (sh w v) ∧ ki' v = ki (sh w v) ∧ co' v = co (sh w v) ∧ ∀ i : Nat, i < 6 → le' (6 * v + i) = le (6 * sh w v + i)
def zFG (w z dc : Int) (le si ki co : Nat → Int) (dc' : Int) (le' si' ki' co' : Nat → Int) : Prop := (¬ (0 ≤ w ∧ w < dc) ∧ z = -1 ∧ DS dc le si ki co dc' le' si' ki' co') ∨ (0 ≤ w ∧ w < dc ∧ z = dc - 1 ∧ dc' = dc - 1 ∧ zRM w.toNat dc le si ki co le' si' ki' co')
theorem zFG.same {w z z2 dc wd dc' wd' : Int} {le si ki co le' si' ki' co' le2 sz kd co2 le2' sz' kd' co2' : Nat → Int} (h : zFG w z dc le si ki co dc' le' si' ki' co') (g : zFG w z2 wd le2 sz kd co2 wd' le2' sz' kd' co2') (hD : DI dc si ki co) (d : DQ dc le si ki co wd le2 sz kd co2) (u : UQ dc le si ki) : z = z2 ∧ DQ dc' le' si' ki' co' wd' le2' sz' kd' co2' ∧ UQ dc' le' si' ki' := by
  obtain ⟨d1, d2⟩ := id d
  subst d1
  rcases h with ⟨h1, h2, h3⟩ | ⟨h1, h2, h3, h4, h5⟩ <;> rcases g with ⟨g1, g2, g3⟩ | ⟨g1, g2, g3, g4, g5⟩
  · obtain ⟨rfl, rfl, rfl, rfl, rfl⟩ := h3
    obtain ⟨rfl, rfl, rfl, rfl, rfl⟩ := g3
    exact ⟨by omega, d, u⟩
  · exact absurd ⟨g1, g2⟩ h1
  · exact absurd ⟨h1, h2⟩ g1
  · subst h4; subst g4
    have hlt : ∀ v : Nat, (v : Int) < dc - 1 → ((sh w.toNat v : Nat) : Int) < dc := fun v hv => by have := sh_lt (w := w.toNat) (v := v); omega
    have h6 : ∀ v : Nat, (v : Int) < dc → si v ≤ 6 := fun v hv => by have := hD.2.2 v hv; omega
    refine ⟨by omega, ⟨rfl, fun v hv => ?_⟩, fun v x hv hx k1 k2 k3 => ?_⟩
    · obtain ⟨a1, a2, a3, a4⟩ := h5 v hv
      obtain ⟨b1, b2, b3, b4⟩ := g5 v hv
      obtain ⟨c1, c2, c3, c4⟩ := d2 _ (hlt v hv)
      have := h6 _ (hlt v hv)
      refine ⟨by omega, by omega, by omega, fun i hi => ?_⟩
      rw [a4 i (by omega), b4 i (by omega), c4 i (by omega)]
    · obtain ⟨a1, a2, a3, a4⟩ := h5 v hv
      obtain ⟨b1, b2, b3, b4⟩ := h5 x hx
      have := h6 _ (hlt v hv)
      refine sh_inj (u _ _ (hlt v hv) (hlt x hx) (by omega) (by omega) (fun i hi => ?_))
      rw [← a4 i (by omega), k3 i (by omega), b4 i (by omega)]
def TL (le si ki co : Nat → Int) (w : Nat) (what z : Int) : Prop := (what = 0 → z = si w) ∧ (what = 1 → z = ki w) ∧ (what = 2 → z = co w) ∧ (3 ≤ what → what - 3 < si w → z = le (6 * w + (what - 3).toNat)) ∧ (3 ≤ what → si w ≤ what - 3 → z = -6)
def zWS (dc : Int) (le si ki co : Nat → Int) (w what z : Int) : Prop := (¬ (0 ≤ w ∧ w < dc) ∧ z = -1) ∨ (0 ≤ w ∧ w < dc ∧ what < 0 ∧ z = -2) ∨ (0 ≤ w ∧ w < dc ∧ 0 ≤ what ∧ TL le si ki co w.toNat what z)
theorem zWS.same {dc wd w what z z2 : Int} {le si ki co le2 sz kd co2 : Nat → Int} (h : zWS dc le si ki co w what z) (g : zWS wd le2 sz kd co2 w what z2) (d : DQ dc le si ki co wd le2 sz kd co2) : z = z2 := by
  obtain ⟨d1, d2⟩ := d
  subst d1
  rcases h with ⟨h1, h2⟩ | ⟨h1, h2, h3, h4⟩ | ⟨h1, h2, h3, h4⟩ <;> rcases g with ⟨g1, g2⟩ | ⟨g1, g2, g3, g4⟩ | ⟨g1, g2, g3, g4⟩ <;> try omega
  obtain ⟨c1, c2, c3, c4⟩ := d2 w.toNat (by omega)
  obtain ⟨a1, a2, a3, a4, a5⟩ := h4
  obtain ⟨b1, b2, b3, b4, b5⟩ := g4
  by_cases q : 3 ≤ what ∧ what - 3 < si w.toNat
  · have := c4 (what - 3).toNat (by omega)
    rw [a4 q.1 q.2, b4 q.1 (by omega), this]
  · omega
def zLN (n : Int) (sg : Nat → Int) (z n' : Int) (li : Nat → Int) (ll : Int) (li' : Nat → Int) (ll' : Int) : Prop := ∃ f, LF n sg f ∧ ((f ≠ -6 ∧ z = -5 ∧ n' = n ∧ li' = li ∧ ll' = ll) ∨ (f = -6 ∧ z = n ∧ ll' = n ∧ (∀ j : Nat, (j : Int) < n → li' j = sg j) ∧ n' = 0))
theorem zLN.same {n n2 z z2 n' n2' ll ln ll' ln' : Int} {sg sg2 li li2 li' li2' : Nat → Int} (h : zLN n sg z n' li ll li' ll') (g : zLN n2 sg2 z2 n2' li2 ln li2' ln') (e1 : n = n2) (e2 : ∀ j : Nat, (j : Int) < n → sg j = sg2 j) (l1 : ll = ln) (l2 : ∀ j : Nat, (j : Int) < ll → li j = li2 j) : z = z2 ∧ (n' = n2' ∧ ∀ j : Nat, (j : Int) < n' → sg j = sg2 j) ∧ ll' = ln' ∧ ∀ j : Nat, (j : Int) < ll' → li' j = li2' j := by
  subst e1; subst l1
  obtain ⟨f, h1, h2⟩ := h
  obtain ⟨f2, g1, g2⟩ := g
  have hf := h1.same g1 e2
  subst hf
  rcases h2 with ⟨h2, h3, h4, h5, h6⟩ | ⟨h2, h3, h4, h5, h6⟩ <;> rcases g2 with ⟨g2, g3, g4, g5, g6⟩ | ⟨g2, g3, g4, g5, g6⟩
  · subst h5; subst h6; subst g5; subst g6
    exact ⟨by omega, ⟨by omega, fun j hj => e2 j (by omega)⟩, rfl, l2⟩
  · exact absurd g2 h2
  · exact absurd h2 g2
  · refine ⟨by omega, ⟨by omega, fun j hj => e2 j (by omega)⟩, by omega, fun j hj => ?_⟩
    rw [h5 j (by omega), g5 j (by omega), e2 j (by omega)]
def zTS (n dc ll : Int) (ru jo li : Nat → Int) (what z : Int) : Prop := (what = 0 → z = n) ∧ (what = 1 → z = dc) ∧ (what = 2 → z = ll) ∧ (3 ≤ what → what ≤ 6 → z = ru (what - 3).toNat) ∧ (10 ≤ what → what < 34 → z = jo (what - 10).toNat) ∧ (100 ≤ what → what - 100 < ll → z = li (what - 100).toNat) ∧ (what < 0 ∨ (7 ≤ what ∧ what < 10) ∨ (34 ≤ what ∧ what < 100) ∨ (100 ≤ what ∧ ll ≤ what - 100) → z = -2)
theorem zTS.same {n n2 dc wd ll ln what z z2 : Int} {ru jo li ru2 jo2 li2 : Nat → Int} (h : zTS n dc ll ru jo li what z) (g : zTS n2 wd ln ru2 jo2 li2 what z2) (e1 : n = n2) (d1 : dc = wd) (l1 : ll = ln) (E1 : ∀ j : Nat, j < 25 → jo j = jo2 j) (E2 : ∀ j : Nat, j < 4 → ru j = ru2 j) (l2 : ∀ j : Nat, (j : Int) < ll → li j = li2 j) : z = z2 := by
  subst e1; subst d1; subst l1
  obtain ⟨a1, a2, a3, a4, a5, a6, a7⟩ := h
  obtain ⟨b1, b2, b3, b4, b5, b6, b7⟩ := g
  by_cases q1 : 3 ≤ what ∧ what ≤ 6
  · rw [a4 q1.1 q1.2, b4 q1.1 q1.2]; exact E2 _ (by omega)
  · by_cases q2 : 10 ≤ what ∧ what < 34
    · rw [a5 q2.1 q2.2, b5 q2.1 q2.2]; exact E1 _ (by omega)
    · by_cases q3 : 100 ≤ what ∧ what - 100 < ll
      · rw [a6 q3.1 q3.2, b6 q3.1 q3.2]; exact l2 _ (by omega)
      · clear a4 a5 a6 b4 b5 b6 E1 E2 l2
        by_cases p0 : what = 0
        · rw [a1 p0, b1 p0]
        · by_cases p1 : what = 1
          · rw [a2 p1, b2 p1]
          · by_cases p2 : what = 2
            · rw [a3 p2, b3 p2]
            · clear a1 a2 a3 b1 b2 b3
              have ho : what < 0 ∨ (7 ≤ what ∧ what < 10) ∨ (34 ≤ what ∧ what < 100) ∨ (100 ≤ what ∧ ll ≤ what - 100) := by
                clear a7 b7
                omega
              rw [a7 ho, b7 ho]
/-- a book and the reference's rows hold the same -/
def BQ (dc : Int) (le si ki co jo ru li : Nat → Int) (ll wd : Int) (le2 sz kd co2 jo2 ru2 li2 : Nat → Int) (ln : Int) : Prop := DQ dc le si ki co wd le2 sz kd co2 ∧ UQ dc le si ki ∧ (∀ j : Nat, j < 25 → jo j = jo2 j) ∧ (∀ j : Nat, j < 4 → ru j = ru2 j) ∧ ll = ln ∧ ∀ j : Nat, (j : Int) < ll → li j = li2 j
theorem BQ.cp {dc ll wd ln dc' ll' wd' ln' : Int} {le si ki co jo ru li le2 sz kd co2 jo2 ru2 li2 le' si' ki' co' jo' ru' li' le2' sz' kd' co2' jo2' ru2' li2' : Nat → Int} (h : BQ dc le si ki co jo ru li ll wd le2 sz kd co2 jo2 ru2 li2 ln) (hD : DI dc si ki co) (hl : ll ≤ 24) (q : QB dc le si ki co jo ru li ll dc' le' si' ki' co' jo' ru' li' ll') (r : QB wd le2 sz kd co2 jo2 ru2 li2 ln wd' le2' sz' kd' co2' jo2' ru2' li2' ln') : BQ dc' le' si' ki' co' jo' ru' li' ll' wd' le2' sz' kd' co2' jo2' ru2' li2' ln' := by
  obtain ⟨⟨h1, h2⟩, h3, h4, h5, h6, h7⟩ := h
  obtain ⟨q1, q2, q3, q4, q5, q6, q7, q8, q9⟩ := q
  obtain ⟨r1, r2, r3, r4, r5, r6, r7, r8, r9⟩ := r
  have hc := hD.2.1
  have h6' : ∀ v : Nat, (v : Int) < dc → si v ≤ 6 := fun v hv => by have := hD.2.2 v hv; omega
  refine ⟨⟨by omega, fun v hv => ?_⟩, fun v w hv hw k1 k2 k3 => ?_, fun j hj => ?_, fun j hj => ?_, by omega, fun j hj => ?_⟩
  · obtain ⟨a1, a2, a3, a4⟩ := h2 v (by omega)
    have e3 := q3 v (by omega); have e4 := q4 v (by omega); have e5 := q5 v (by omega)
    have f3 := r3 v (by omega); have f4 := r4 v (by omega); have f5 := r5 v (by omega)
    have := h6' v (by omega)
    refine ⟨by omega, by omega, by omega, fun i hi => ?_⟩
    rw [q2 _ (by omega), r2 _ (by omega), a4 i (by omega)]
  · have e3 := q3 v (by omega); have e4 := q4 v (by omega)
    have f3 := q3 w (by omega); have f4 := q4 w (by omega)
    have := h6' v (by omega)
    refine h3 v w (by omega) (by omega) (by omega) (by omega) (fun i hi => ?_)
    rw [← q2 _ (by omega), ← q2 _ (by omega)]
    exact k3 i (by omega)
  · rw [q6 j hj, r6 j hj, h4 j hj]
  · rw [q7 j hj, r7 j hj, h5 j hj]
  · rw [q8 j (by omega), r8 j (by omega), h7 j (by omega)]
/-- it holds what the image's row has from b on -/
def QI (im : Nat → Int) (b : Nat) : zBQ := fun dc le si ki co jo ru li ll => BQ dc le si ki co jo ru li ll (im (b + 210)) (fun j => im (b + j)) (fun j => im (b + 96 + j)) (fun j => im (b + 112 + j)) (fun j => im (b + 128 + j)) (fun j => im (b + 144 + j)) (fun j => im (b + 170 + j)) (fun j => im (b + 180 + j)) (im (b + 211))
section ZI2
variable {l : Launch} {D : va_G} {k : zK} {E : zE} {cc : ByteArray} {own : String} {nL : Nat} {R : Room} {mc ms : Nat} {rt : Option FieldType} {ini : Prop} {a0 : List Nat} {PR : Int → zW → Prop} {Z : zP}
variable {kc ks pc : Nat} {lv : List (Option zV)} {st : List zV} {ws : zW} {x y : Int}
theorem zB.i2cF (B : zB l D k E cc own nL R mc ms rt ini a0 PR Z) (hd : decode cc pc = .ok (.i2c, 1)) (h : ∀ r : Int, zR r → 0 ≤ r → r < 65536 → (0 ≤ x → x < 65536 → r = x) → Z kc ks (pc + 1) lv (.inl r :: st) ws) : Z kc ks pc lv (.inl x :: st) ws := by
  by_cases hx0 : 0 ≤ x ∧ x < 65536
  · obtain ⟨p, e, s, m, args, below, meth, c, Q, A, hx, hb, hml, hown, hts, hK, hA, hE, hEs, hin, hri, hrv, rfl⟩ := B
    intro H locs ls r1 r2 r3 r4 hP hD hS hl
    have e1 := pk_char (iZ x)
    have e3 : (iZ x).toBitVec.toNat = x.toNat := by
      show (BitVec.ofInt 32 x).toNat = x.toNat
      rw [BitVec.toNat_ofInt]
      omega
    have e2 : nI ((iZ x).toBitVec.toNat % 65536) = iZ x := by
      rw [e3, show x.toNat % 65536 = x.toNat by omega]
      refine Int32.ofInt_eq_ofNat.symm.trans ?_
      show iZ ((x.toNat : Nat) : Int) = iZ x
      rw [show ((x.toNat : Nat) : Int) = x by omega]
    refine lv_i2c hx hb hd (x := iZ x) (v := iZ x) (e1.trans e2) ?_
    exact h x ⟨by omega, by omega⟩ hx0.1 hx0.2 (fun _ _ => rfl) H locs ls r1 r2 r3 r4 hP hD hS hl
  · exact B.i2c hd (fun r a b c => h r a b c (fun g1 g2 => absurd ⟨g1, g2⟩ hx0))
theorem zsplitE (v : Int) {X : Int → Prop} (h1 : x = v → X v) (h2 : x ≠ v → X x) : X x := by
  by_cases h : x = v
  · rw [h]; exact h1 h
  · exact h2 h
end ZI2
theorem BI.l24 {jo ru : Nat → Int} {len : Int} (h : BI jo ru len) : 0 ≤ len ∧ len ≤ 24 := h.2.2.2.2.2.2.2.2.2
theorem zWP.same {n z n' n2 z2 n2' : Int} {sg sg2 : Nat → Int} (h : zWP n z n') (g : zWP n2 z2 n2') (e1 : n = n2) : z = z2 ∧ n' = n2' ∧ ∀ j : Nat, (j : Int) < n' → sg j = sg2 j := by
  unfold zWP at h g
  exact ⟨by omega, by omega, fun j hj => by omega⟩
