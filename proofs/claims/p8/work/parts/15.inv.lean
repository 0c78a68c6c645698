/-! what always holds of a dictionary, a book, a net, a ranking -/
def DI (c : Int) (le ki co : Nat → Int) : Prop := 0 ≤ c ∧ c ≤ 16 ∧ ∀ j : Nat, (j : Int) < c → 1 ≤ le j ∧ le j ≤ 6 ∧ 0 ≤ ki j ∧ ki j ≤ 2 ∧ 0 ≤ co j ∧ co j ≤ 99
theorem zup_eq {g : Nat → Int} {k : Nat} {x : Int} : zup g k x k = x := by simp [zup]
theorem zup_ne {g : Nat → Int} {k j : Nat} {x : Int} (h : j ≠ k) : zup g k x j = g j := by simp [zup, h]
theorem zcp_in {f g : Nat → Int} {sp dp n j : Nat} (h : dp ≤ j) (h2 : j < dp + n) : zcp f g sp dp n j = f (sp + (j - dp)) := by simp [zcp, h, h2]
theorem zcp_out {f g : Nat → Int} {sp dp n j : Nat} (h : j < dp ∨ dp + n ≤ j) : zcp f g sp dp n j = g j := by
  have : ¬ (dp ≤ j ∧ j < dp + n) := by omega
  simp [zcp, this]
theorem DI.at {c : Int} {le ki co : Nat → Int} (h : DI c le ki co) {x : Int} (h0 : 0 ≤ x) (h1 : x < c) : 1 ≤ le x.toNat ∧ le x.toNat ≤ 6 ∧ 0 ≤ ki x.toNat ∧ ki x.toNat ≤ 2 ∧ 0 ≤ co x.toNat ∧ co x.toNat ≤ 99 := h.2.2 x.toNat (by omega)
theorem DI.add {c : Int} {le ki co : Nat → Int} (h : DI c le ki co) (hc : c < 16) {x y w : Int} (hx : 1 ≤ x ∧ x ≤ 6) (hy : 0 ≤ y ∧ y ≤ 2) (hw : 0 ≤ w ∧ w ≤ 99) : DI (c + 1) (zup le c.toNat x) (zup ki c.toNat y) (zup co c.toNat w) := by
  obtain ⟨h1, h2, h3⟩ := h
  refine ⟨by omega, by omega, fun j hj => ?_⟩
  by_cases e : j = c.toNat
  · subst e
    rw [zup_eq, zup_eq, zup_eq]; omega
  · rw [zup_ne e, zup_ne e, zup_ne e]
    exact h3 j (by omega)
theorem DI.cost {c : Int} {le ki co : Nat → Int} (h : DI c le ki co) {x w : Int} (h0 : 0 ≤ x) (h1 : x < c) (hw : 0 ≤ w ∧ w ≤ 99) : DI c le ki (zup co x.toNat w) := by
  obtain ⟨g1, g2, g3⟩ := h
  refine ⟨g1, g2, fun j hj => ?_⟩
  have := g3 j hj
  by_cases e : j = x.toNat
  · subst e
    rw [zup_eq]; omega
  · rw [zup_ne e]
    exact this
theorem DI.rem {c : Int} {le ki co : Nat → Int} (h : DI c le ki co) {x : Int} (h0 : 0 ≤ x) (h1 : x < c) {a b n : Nat} (ha : a = x.toNat + 1) (hb : b = x.toNat) (hn : n = (c - x - 1).toNat) : DI (c - 1) (zcp le le a b n) (zcp ki ki a b n) (zcp co co a b n) := by
  obtain ⟨g1, g2, g3⟩ := h
  subst ha; subst hb; subst hn
  refine ⟨by omega, by omega, fun j hj => ?_⟩
  by_cases e : j < x.toNat
  · rw [zcp_out (Or.inl e), zcp_out (Or.inl e), zcp_out (Or.inl e)]
    exact g3 j (by omega)
  · rw [zcp_in (by omega) (by omega), zcp_in (by omega) (by omega), zcp_in (by omega) (by omega)]
    exact g3 _ (by omega)
theorem DI.eq {c : Int} {le ki co le' ki' co' : Nat → Int} (h : DI c le ki co) (h1 : ∀ j : Nat, j < 16 → le' j = le j) (h2 : ∀ j : Nat, j < 16 → ki' j = ki j) (h3 : ∀ j : Nat, j < 16 → co' j = co j) : DI c le' ki' co' := by
  obtain ⟨g1, g2, g3⟩ := h
  refine ⟨g1, g2, fun j hj => ?_⟩
  rw [h1 j (by omega), h2 j (by omega), h3 j (by omega)]
  exact g3 j hj
/-- joins, rules, the line's length -/
def BI (jo ru : Nat → Int) (len : Int) : Prop := (∀ j : Nat, j < 25 → 0 ≤ jo j ∧ jo j ≤ 99) ∧ 0 ≤ ru 0 ∧ ru 0 ≤ 2 ∧ 0 ≤ ru 1 ∧ ru 1 ≤ 99 ∧ 0 ≤ ru 2 ∧ ru 2 ≤ 99 ∧ 0 ≤ ru 3 ∧ ru 3 ≤ 3 ∧ 0 ≤ len ∧ len ≤ 24
theorem BI.eq {jo ru jo' ru' : Nat → Int} {len : Int} (h : BI jo ru len) (h1 : ∀ j : Nat, j < 25 → jo' j = jo j) (h2 : ∀ j : Nat, j < 4 → ru' j = ru j) : BI jo' ru' len := by
  obtain ⟨g, g1⟩ := h
  refine ⟨fun j hj => by rw [h1 j hj]; exact g j hj, ?_⟩
  rw [h2 0 (by omega), h2 1 (by omega), h2 2 (by omega), h2 3 (by omega)]
  exact g1
theorem zcp_all {f g : Nat → Int} {n j : Nat} (h : j < n) : zcp f g 0 0 n j = f j := by rw [zcp_in (by omega) (by omega)]; congr 1; omega
/-- what always holds of the pieces' rows, all of them -/
def PB (pl le ki co : Nat → Int) : Prop := ∀ i : Nat, i < 480 → 0 ≤ pl i ∧ 0 ≤ le i ∧ le i ≤ 6 ∧ pl i + le i ≤ 24 ∧ 0 ≤ ki i ∧ ki i ≤ 3 ∧ 0 ≤ co i ∧ co i ≤ 693
theorem PB.at {pl le ki co : Nat → Int} (h : PB pl le ki co) {x : Int} (h0 : 0 ≤ x) (h1 : x < 480) : 0 ≤ pl x.toNat ∧ 0 ≤ le x.toNat ∧ le x.toNat ≤ 6 ∧ pl x.toNat + le x.toNat ≤ 24 ∧ 0 ≤ ki x.toNat ∧ ki x.toNat ≤ 3 ∧ 0 ≤ co x.toNat ∧ co x.toNat ≤ 693 := h x.toNat (by omega)
theorem PB.add {pl le ki co : Nat → Int} (h : PB pl le ki co) (n : Nat) {a b c d : Int} (h1 : 0 ≤ a ∧ 0 ≤ b ∧ b ≤ 6 ∧ a + b ≤ 24 ∧ 0 ≤ c ∧ c ≤ 3 ∧ 0 ≤ d ∧ d ≤ 693) : PB (zup pl n a) (zup le n b) (zup ki n c) (zup co n d) := by
  intro i hi
  by_cases e : i = n
  · subst e
    rw [zup_eq, zup_eq, zup_eq, zup_eq]; exact h1
  · rw [zup_ne e, zup_ne e, zup_ne e, zup_ne e]
    exact h i hi
/-- what may stand in the slots of a place -/
def SI (sl : Nat → Int) (place len dc : Int) : Prop := ∀ s : Nat, s < 28 → sl s ≠ -1 → 4 ≤ s ∧ place + ((s / 4 : Nat) : Int) ≤ len ∧ (sl s = -6 ∨ (0 ≤ sl s ∧ sl s < dc))
theorem SI.put {sl : Nat → Int} {place len dc : Int} (h : SI sl place len dc) {x v : Int} (h0 : 4 ≤ x) (h1 : x < 28) (h2 : place + x / 4 ≤ len) (hv : v = -6 ∨ (0 ≤ v ∧ v < dc)) : SI (zup sl x.toNat v) place len dc := by
  intro s hs hn
  by_cases e : s = x.toNat
  · subst e
    rw [zup_eq]
    refine ⟨by omega, ?_, hv⟩
    omega
  · rw [zup_ne e] at hn ⊢
    exact h s hs hn
theorem SI.none {sl : Nat → Int} {place len dc : Int} (h : ∀ s : Nat, s < 28 → sl s = -1) : SI sl place len dc := fun s hs hn => absurd (h s hs) hn
/-- pieces by places, as far as they have been laid -/
def NP (pl le fi : Nat → Int) (place count : Int) : Prop := (∀ p : Nat, (p : Int) < place → 0 ≤ fi p ∧ fi p ≤ count) ∧ ∀ p i : Nat, (p : Int) < place → fi p ≤ i → (i : Int) < count → ((p : Int) + 1 < place → (i : Int) < fi (p + 1)) → pl i = p ∧ 1 ≤ le i
def NF (pl le fi : Nat → Int) (len : Int) : Prop := ∀ p i : Nat, (p : Int) < len → fi p ≤ i → (i : Int) < fi (p + 1) → pl i = p ∧ 1 ≤ le i
theorem NP.step {pl le fi pl' le' : Nat → Int} {place count count' : Int} (h : NP pl le fi place count) (h0 : 0 ≤ place) (hc : 0 ≤ count) (hcc : count ≤ count') (hold : ∀ i : Nat, (i : Int) < count → pl' i = pl i ∧ le' i = le i) (hnew : ∀ i : Nat, count ≤ i → (i : Int) < count' → pl' i = place ∧ 1 ≤ le' i) : NP pl' le' (zup fi place.toNat count) (place + 1) count' := by
  obtain ⟨g1, g2⟩ := h
  have hp : ∀ p : Nat, (p : Int) < place → zup fi place.toNat count p = fi p := fun p hp => zup_ne (by omega)
  have hp2 : ∀ p : Nat, (p : Int) = place → zup fi place.toNat count p = count := fun p hp => by
    have : p = place.toNat := by omega
    rw [this, zup_eq]
  refine ⟨fun p hlt => ?_, fun p i hlt h1 h2 h3 => ?_⟩
  · by_cases e : (p : Int) < place
    · rw [hp p e]; have := g1 p e; omega
    · rw [hp2 p (by omega)]; omega
  · by_cases e : (p : Int) < place
    · rw [hp p e] at h1
      have hi : (i : Int) < count := by
        by_cases e2 : ((p : Int) + 1) < place
        · have h4 := h3 (by omega)
          rw [hp (p + 1) (by omega)] at h4
          have := (g1 (p + 1) (by omega)).2
          omega
        · have h4 := h3 (by omega)
          rw [hp2 (p + 1) (by omega)] at h4
          exact h4
      have := g2 p i e h1 hi (fun q => by
        have h4 := h3 (by omega)
        rw [hp (p + 1) (by omega)] at h4
        exact h4)
      obtain ⟨a, b⟩ := hold i hi
      rw [a, b]; exact this
    · rw [hp2 p (by omega)] at h1
      have := hnew i h1 h2
      omega
theorem NP.done {pl le fi : Nat → Int} {len count : Int} (h : NP pl le fi len count) (h0 : 0 ≤ len) : NF pl le (zup fi len.toNat count) len := by
  obtain ⟨g1, g2⟩ := h
  intro p i hlt h1 h2
  rw [zup_ne (by omega)] at h1
  by_cases e : (p : Int) + 1 < len
  · rw [zup_ne (by omega)] at h2
    have := (g1 (p + 1) (by omega)).2
    exact g2 p i hlt h1 (by omega) (fun _ => h2)
  · have : p + 1 = len.toNat := by omega
    rw [this, zup_eq] at h2
    exact g2 p i hlt h1 h2 (fun q => absurd q e)
def FB (fi : Nat → Int) : Prop := ∀ p : Nat, p < 25 → 0 ≤ fi p ∧ fi p ≤ 480
theorem FB.put {fi : Nat → Int} (h : FB fi) (k : Nat) {c : Int} (hc : 0 ≤ c ∧ c ≤ 480) : FB (zup fi k c) := by
  intro p hp
  by_cases e : p = k
  · subst e; rw [zup_eq]; exact hc
  · rw [zup_ne e]; exact h p hp
def JB (jo : Nat → Int) : Prop := ∀ j : Nat, j < 25 → 0 ≤ jo j ∧ jo j ≤ 99
theorem JB.at {jo : Nat → Int} (h : JB jo) {x : Int} (h0 : 0 ≤ x) (h1 : x < 25) : 0 ≤ jo x.toNat ∧ jo x.toNat ≤ 99 := h x.toNat (by omega)
theorem zmul_b {x y a b : Int} (h0 : 0 ≤ x) (h1 : x ≤ a) (h2 : 0 ≤ y) (h3 : y ≤ b) : 0 ≤ x * y ∧ x * y ≤ a * b := ⟨Int.mul_nonneg h0 h2, Int.mul_le_mul h1 h3 h2 (by omega)⟩
theorem zmul_r {x y : Int} (h0 : 0 ≤ x) (h1 : x ≤ 1000) (h2 : 0 ≤ y) (h3 : y ≤ 1000) : zR (x * y) := by
  have := zmul_b h0 h1 h2 h3
  exact ⟨by omega, by omega⟩
theorem add_old {pl le pl' le' pl0 le0 : Nat → Int} {n n' c0 place v : Int} (_ : n' = n + 1) (hp : pl' = zup pl n.toNat place) (hl : le' = zup le n.toNat v) (hn : 0 ≤ n) (hc : c0 ≤ n) (old : ∀ i : Nat, (i : Int) < c0 → pl i = pl0 i ∧ le i = le0 i) : ∀ i : Nat, (i : Int) < c0 → pl' i = pl0 i ∧ le' i = le0 i := by
  intro i hi
  rw [hp, hl, zup_ne (by omega), zup_ne (by omega)]
  exact old i hi
theorem add_new {pl le pl' le' : Nat → Int} {n n' c0 place v : Int} (h1 : n' = n + 1) (hp : pl' = zup pl n.toNat place) (hl : le' = zup le n.toNat v) (hn : 0 ≤ n) (hc : c0 ≤ n) (hv : 1 ≤ v) (new : ∀ i : Nat, c0 ≤ i → (i : Int) < n → pl i = place ∧ 1 ≤ le i) : ∀ i : Nat, c0 ≤ i → (i : Int) < n' → pl' i = place ∧ 1 ≤ le' i := by
  intro i h2 h3
  by_cases e : i = n.toNat
  · rw [hp, hl, e, zup_eq, zup_eq]; exact ⟨rfl, hv⟩
  · rw [hp, hl, zup_ne e, zup_ne e]
    exact new i h2 (by omega)
theorem fill_step {g : Nat → Int} {s v : Int} (h : ∀ j : Nat, (j : Int) < s → g j = v) (h0 : 0 ≤ s) : ∀ j : Nat, (j : Int) < s + 1 → zup g s.toNat v j = v := by
  intro j hj
  by_cases e : j = s.toNat
  · rw [e, zup_eq]
  · rw [zup_ne e]; exact h j (by omega)
theorem FB.at {fi : Nat → Int} (h : FB fi) {x : Int} (h0 : 0 ≤ x) (h1 : x < 25) : 0 ≤ fi x.toNat ∧ fi x.toNat ≤ 480 := h x.toNat (by omega)
theorem NF.at {pl le fi : Nat → Int} {len : Int} (h : NF pl le fi len) {p x : Int} (h0 : 0 ≤ p) (h1 : p < len) (hx : 0 ≤ x) (h2 : fi p.toNat ≤ x) (h3 : x < fi (p + 1).toNat) : pl x.toNat = p ∧ 1 ≤ le x.toNat := by
  have e : (p + 1).toNat = p.toNat + 1 := by omega
  rw [e] at h3
  have := h p.toNat x.toNat (by omega) (by omega) (by omega)
  omega
/-- what always holds of the kept ways: a first piece that there may be, a cost that fits its place -/
def KB (ke : Nat → Int) : Prop := ∀ j : Nat, j < 1500 → 0 ≤ ke j ∧ ke j / 16 % 512 < 480 ∧ ke j / 8192 ≤ (24 - ((j / 60 : Nat) : Int)) * 792 + 99
theorem KB.at {ke : Nat → Int} (h : KB ke) {x : Int} (h0 : 0 ≤ x) (h1 : x < 1500) : 0 ≤ ke x.toNat ∧ ke x.toNat / 16 % 512 < 480 ∧ ke x.toNat / 8192 ≤ (24 - x / 60) * 792 + 99 := by
  have := h x.toNat (by omega)
  have e : ((x.toNat / 60 : Nat) : Int) = x / 60 := by omega
  rw [e] at this
  exact this
theorem KB.put {ke : Nat → Int} (h : KB ke) {x v : Int} (h0 : 0 ≤ x) (hv : 0 ≤ v) (h1 : v / 16 % 512 < 480) (h2 : v / 8192 ≤ (24 - x / 60) * 792 + 99) : KB (zup ke x.toNat v) := by
  intro j hj
  by_cases e : j = x.toNat
  · subst e
    rw [zup_eq]
    have e : ((x.toNat / 60 : Nat) : Int) = x / 60 := by omega
    rw [e]
    exact ⟨hv, h1, h2⟩
  · rw [zup_ne e]; exact h j hj
def CB (co : Nat → Int) : Prop := ∀ j : Nat, j < 125 → 0 ≤ co j ∧ co j ≤ 12
theorem CB.at {co : Nat → Int} (h : CB co) {x : Int} (h0 : 0 ≤ x) (h1 : x < 125) : 0 ≤ co x.toNat ∧ co x.toNat ≤ 12 := h x.toNat (by omega)
theorem CB.put {co : Nat → Int} (h : CB co) (k : Nat) {v : Int} (hv : 0 ≤ v ∧ v ≤ 12) : CB (zup co k v) := by
  intro j hj
  by_cases e : j = k
  · subst e; rw [zup_eq]; exact hv
  · rw [zup_ne e]; exact h j hj
def FO (fo : Nat → Int) : Prop := ∀ j : Nat, j < 24 → 0 ≤ fo j ∧ fo j < 480
theorem FO.at {fo : Nat → Int} (h : FO fo) {x : Int} (h0 : 0 ≤ x) (h1 : x < 24) : 0 ≤ fo x.toNat ∧ fo x.toNat < 480 := h x.toNat (by omega)
theorem FO.put {fo : Nat → Int} (h : FO fo) (k : Nat) {v : Int} (hv : 0 ≤ v ∧ v < 480) : FO (zup fo k v) := by
  intro j hj
  by_cases e : j = k
  · subst e; rw [zup_eq]; exact hv
  · rw [zup_ne e]; exact h j hj
theorem BI.len {jo ru : Nat → Int} {len len' : Int} (h : BI jo ru len) (h0 : 0 ≤ len') (h1 : len' ≤ 24) : BI jo ru len' := by
  obtain ⟨g, g1, g2, g3, g4, g5, g6, g7, g8, -, -⟩ := h
  exact ⟨g, g1, g2, g3, g4, g5, g6, g7, g8, h0, h1⟩
theorem BI.join {jo ru : Nat → Int} {len : Int} (h : BI jo ru len) (k : Nat) {c : Int} (hc : 0 ≤ c ∧ c ≤ 99) : BI (zup jo k c) ru len := by
  obtain ⟨g, g1⟩ := h
  refine ⟨fun j hj => ?_, g1⟩
  by_cases e : j = k
  · subst e; rw [zup_eq]; exact hc
  · rw [zup_ne e]; exact g j hj
/-- what always holds of a CutLetters -/
def CI (pco dc : Int) (dle dki dco bjo bru : Nat → Int) (bll nll ncn : Int) (npl nle nki nco nfi njo kct kke kfo : Nat → Int) (wct ns : Int) : Prop :=
  (0 ≤ pco ∧ pco ≤ 40) ∧ DI dc dle dki dco ∧ BI bjo bru bll ∧ (PB npl nle nki nco ∧ FB nfi ∧ JB njo ∧ 0 ≤ ncn ∧ ncn ≤ 480 ∧ 0 ≤ nll ∧ nll ≤ 24) ∧ (CB kct ∧ KB kke ∧ FO kfo) ∧ (0 ≤ wct ∧ wct ≤ 71) ∧ (ns ≠ 0 → NF npl nle nfi nll ∧ nll = bll)
-- ===== the reference
def II (im : Nat → Int) (b : Nat) : Prop := DI (im (b + 210)) (fun w => im (b + 96 + w)) (fun w => im (b + 112 + w)) (fun w => im (b + 128 + w)) ∧ BI (fun j => im (b + 144 + j)) (fun j => im (b + 170 + j)) (im (b + 211))
def MI (wd : Int) (sz kd co jo ru : Nat → Int) (ln sg : Int) (im kp : Nat → Int) : Prop := DI wd sz kd co ∧ BI jo ru ln ∧ (0 ≤ sg ∧ sg ≤ 40) ∧ (kp 0 ≠ 0 → II im 0) ∧ (kp 1 ≠ 0 → II im 230)
theorem DI.set {c : Int} {le ki co : Nat → Int} (h : DI c le ki co) {x a b d : Int} (h0 : 0 ≤ x) (h1 : x < c) (ha : 1 ≤ a ∧ a ≤ 6) (hb : 0 ≤ b ∧ b ≤ 2) (hd : 0 ≤ d ∧ d ≤ 99) : DI c (zup le x.toNat a) (zup ki x.toNat b) (zup co x.toNat d) := by
  obtain ⟨g1, g2, g3⟩ := h
  refine ⟨g1, g2, fun j hj => ?_⟩
  by_cases e : j = x.toNat
  · subst e
    rw [zup_eq, zup_eq, zup_eq]; omega
  · rw [zup_ne e, zup_ne e, zup_ne e]
    exact g3 j hj
theorem DI.less {c c' : Int} {le ki co : Nat → Int} (h : DI c le ki co) (h0 : 0 ≤ c') (h1 : c' ≤ c) : DI c' le ki co := ⟨h0, by have := h.2.1; omega, fun j hj => h.2.2 j (by omega)⟩
theorem BI.rule {jo ru : Nat → Int} {len : Int} (h : BI jo ru len) {w n : Int} (hw : 0 ≤ w ∧ w ≤ 3) (hn : 0 ≤ n ∧ n ≤ 99 ∧ (w = 0 → n ≤ 2) ∧ (w = 3 → n ≤ 3)) : BI jo (zup ru w.toNat n) len := by
  obtain ⟨g, g1, g2, g3, g4, g5, g6, g7, g8, g9, g10⟩ := h
  have hc : w = 0 ∨ w = 1 ∨ w = 2 ∨ w = 3 := by omega
  rcases hc with rfl | rfl | rfl | rfl
  · have e0 : zup ru (0 : Int).toNat n 0 = n := zup_eq
    have e1 : zup ru (0 : Int).toNat n 1 = ru 1 := zup_ne (by decide)
    have e2 : zup ru (0 : Int).toNat n 2 = ru 2 := zup_ne (by decide)
    have e3 : zup ru (0 : Int).toNat n 3 = ru 3 := zup_ne (by decide)
    refine ⟨g, ?_⟩
    rw [e0, e1, e2, e3]; omega
  · have e0 : zup ru (1 : Int).toNat n 0 = ru 0 := zup_ne (by decide)
    have e1 : zup ru (1 : Int).toNat n 1 = n := zup_eq
    have e2 : zup ru (1 : Int).toNat n 2 = ru 2 := zup_ne (by decide)
    have e3 : zup ru (1 : Int).toNat n 3 = ru 3 := zup_ne (by decide)
    refine ⟨g, ?_⟩
    rw [e0, e1, e2, e3]; omega
  · have e0 : zup ru (2 : Int).toNat n 0 = ru 0 := zup_ne (by decide)
    have e1 : zup ru (2 : Int).toNat n 1 = ru 1 := zup_ne (by decide)
    have e2 : zup ru (2 : Int).toNat n 2 = n := zup_eq
    have e3 : zup ru (2 : Int).toNat n 3 = ru 3 := zup_ne (by decide)
    refine ⟨g, ?_⟩
    rw [e0, e1, e2, e3]; omega
  · have e0 : zup ru (3 : Int).toNat n 0 = ru 0 := zup_ne (by decide)
    have e1 : zup ru (3 : Int).toNat n 1 = ru 1 := zup_ne (by decide)
    have e2 : zup ru (3 : Int).toNat n 2 = ru 2 := zup_ne (by decide)
    have e3 : zup ru (3 : Int).toNat n 3 = n := zup_eq
    refine ⟨g, ?_⟩
    rw [e0, e1, e2, e3]; omega
-- counting
def cn (P : Nat → Bool) : Nat → Nat
  | 0 => 0
  | m + 1 => cn P m + (if P m then 1 else 0)
theorem cn_le (P : Nat → Bool) : ∀ m, cn P m ≤ m
  | 0 => Nat.le_refl _
  | m + 1 => by
    have := cn_le P m
    unfold cn
    split <;> omega
theorem cn_mono {P Q : Nat → Bool} (h : ∀ i, P i = true → Q i = true) : ∀ m, cn P m ≤ cn Q m
  | 0 => Nat.le_refl _
  | m + 1 => by
    have := cn_mono h m
    unfold cn
    by_cases hp : P m = true
    · have := h m hp
      simp [hp, this]; omega
    · simp [hp]; split <;> omega
theorem cn_lt {P Q : Nat → Bool} (h : ∀ i, P i = true → Q i = true) {j : Nat} (hp : ¬ P j = true) (hq : Q j = true) : ∀ m, j < m → cn P m + 1 ≤ cn Q m
  | 0, hj => by omega
  | m + 1, hj => by
    unfold cn
    by_cases e : j = m
    · subst e
      have := cn_mono h j
      simp [hp, hq]; omega
    · have := cn_lt h hp hq m (by omega)
      by_cases hp' : P m = true
      · have := h m hp'
        simp [hp', this]; omega
      · simp [hp']; split <;> omega
/-- how many words come before: by size, kind, number -/
def ct (sz kd : Nat → Int) (wd n k w : Int) : Int := (cn (fun i => decide (sz i < n ∨ (sz i = n ∧ kd i < k) ∨ (sz i = n ∧ kd i = k ∧ (i : Int) < w))) wd.toNat : Nat)
theorem ct_le {sz kd : Nat → Int} {wd n k w : Int} (h : 0 ≤ wd) : ct sz kd wd n k w ≤ wd := by
  have := cn_le (fun i => decide (sz i < n ∨ (sz i = n ∧ kd i < k) ∨ (sz i = n ∧ kd i = k ∧ (i : Int) < w))) wd.toNat
  unfold ct
  omega
theorem ct_mono {sz kd : Nat → Int} {wd n k w n' k' w' : Int} (h : ∀ i : Nat, (sz i < n ∨ (sz i = n ∧ kd i < k) ∨ (sz i = n ∧ kd i = k ∧ (i : Int) < w)) → (sz i < n' ∨ (sz i = n' ∧ kd i < k') ∨ (sz i = n' ∧ kd i = k' ∧ (i : Int) < w'))) : ct sz kd wd n k w ≤ ct sz kd wd n' k' w' := by
  unfold ct
  have := cn_mono (P := fun i => decide (sz i < n ∨ (sz i = n ∧ kd i < k) ∨ (sz i = n ∧ kd i = k ∧ (i : Int) < w))) (Q := fun i => decide (sz i < n' ∨ (sz i = n' ∧ kd i < k') ∨ (sz i = n' ∧ kd i = k' ∧ (i : Int) < w'))) (fun i hi => decide_eq_true (h i (of_decide_eq_true hi))) wd.toNat
  omega
theorem ct_w {sz kd : Nat → Int} {wd n k w : Int} : ct sz kd wd n k w ≤ ct sz kd wd n k (w + 1) := ct_mono (fun i hi => by omega)
theorem ct_k {sz kd : Nat → Int} {wd n k w : Int} : ct sz kd wd n k w ≤ ct sz kd wd n (k + 1) 0 := ct_mono (fun i hi => by omega)
theorem ct_n {sz kd : Nat → Int} {wd n w : Int} (h : ∀ i : Nat, kd i ≤ kd i) : ct sz kd wd n 3 0 ≤ ct sz kd wd (n + 1) 0 0 := ct_mono (fun i hi => by omega)
theorem ct_put {sz kd : Nat → Int} {wd n k w : Int} (h0 : 0 ≤ w) (h1 : w < wd) (hs : sz w.toNat = n) (hk : kd w.toNat = k) : ct sz kd wd n k w + 1 ≤ ct sz kd wd n k (w + 1) := by
  unfold ct
  have := cn_lt (P := fun i => decide (sz i < n ∨ (sz i = n ∧ kd i < k) ∨ (sz i = n ∧ kd i = k ∧ (i : Int) < w))) (Q := fun i => decide (sz i < n ∨ (sz i = n ∧ kd i < k) ∨ (sz i = n ∧ kd i = k ∧ (i : Int) < w + 1))) (fun i hi => decide_eq_true (by have := of_decide_eq_true hi; omega)) (j := w.toNat) (fun hi => by have := of_decide_eq_true hi; omega) (decide_eq_true (Or.inr (Or.inr ⟨hs, hk, by omega⟩))) wd.toNat (by omega)
  omega
/-- the pieces that there are -/
def LB (pl le so : Nat → Int) (ln many : Int) : Prop := ∀ i : Nat, (i : Int) < many → 0 ≤ pl i ∧ 1 ≤ le i ∧ le i ≤ 6 ∧ pl i + le i ≤ ln ∧ 0 ≤ so i ∧ so i ≤ 3
theorem LB.at {pl le so : Nat → Int} {ln many : Int} (h : LB pl le so ln many) {x : Int} (h0 : 0 ≤ x) (h1 : x < many) : 0 ≤ pl x.toNat ∧ 1 ≤ le x.toNat ∧ le x.toNat ≤ 6 ∧ pl x.toNat + le x.toNat ≤ ln ∧ 0 ≤ so x.toNat ∧ so x.toNat ≤ 3 := h x.toNat (by omega)
theorem LB.push {pl le so : Nat → Int} {ln many : Int} (h : LB pl le so ln many) (h0 : 0 ≤ many) {a b c : Int} (hx : 0 ≤ a ∧ 1 ≤ b ∧ b ≤ 6 ∧ a + b ≤ ln ∧ 0 ≤ c ∧ c ≤ 3) : LB (zup pl many.toNat a) (zup le many.toNat b) (zup so many.toNat c) ln (many + 1) := by
  intro i hi
  by_cases e : i = many.toNat
  · subst e; rw [zup_eq, zup_eq, zup_eq]; exact hx
  · rw [zup_ne e, zup_ne e, zup_ne e]; exact h i (by omega)
theorem NP.begin_ {pl le fi : Nat → Int} {place count : Int} (h : NP pl le fi place count) (h0 : 0 ≤ place) (hc : 0 ≤ count) : NP pl le (zup fi place.toNat count) (place + 1) count := h.step h0 hc (Int.le_refl _) (fun _ _ => ⟨rfl, rfl⟩) (fun i h1 h2 => by omega)
theorem NP.push {pl le fi : Nat → Int} {place count n : Int} (h : NP pl le fi (place + 1) count) (h0 : 0 ≤ place) (hc : 0 ≤ count) (hn : 1 ≤ n) : NP (zup pl count.toNat place) (zup le count.toNat n) fi (place + 1) (count + 1) := by
  obtain ⟨g1, g2⟩ := h
  refine ⟨fun p hp => by have := g1 p hp; omega, fun p i hp h1 h2 h3 => ?_⟩
  by_cases e : i = count.toNat
  · subst e
    rw [zup_eq, zup_eq]
    by_cases e2 : (p : Int) + 1 < place + 1
    · have h4 := h3 e2
      have := (g1 (p + 1) (by omega)).2
      omega
    · exact ⟨by omega, hn⟩
  · rw [zup_ne e, zup_ne e]
    exact g2 p i hp h1 (by omega) h3
def BE (fi : Nat → Int) (ln many : Int) : Prop := ∀ p : Nat, (p : Int) ≤ ln → 0 ≤ fi p ∧ fi p ≤ many
theorem NP.be {pl le fi : Nat → Int} {len count : Int} (h : NP pl le fi len count) (h0 : 0 ≤ len) (hc : 0 ≤ count) : BE (zup fi len.toNat count) len count := by
  intro p hp
  by_cases e : p = len.toNat
  · subst e; rw [zup_eq]; omega
  · rw [zup_ne e]; exact h.1 p (by omega)
theorem BE.at {fi : Nat → Int} {ln many : Int} (h : BE fi ln many) {x : Int} (h0 : 0 ≤ x) (h1 : x ≤ ln) : 0 ≤ fi x.toNat ∧ fi x.toNat ≤ many := h x.toNat (by omega)
