/-! THE PLAIN MACHINE: ints are integers in range, worlds are lists of cells with such ints; a method's walk speaks of a predicate Z alone, by the rules below -/
abbrev zV : Type := Int ⊕ Option Nat
abbrev zC : Type := (Bool × Nat × (Nat → Int)) ⊕ ((Nat × (Nat → Option Nat)) ⊕ (Nat × List zV))
abbrev zW : Type := List (Nat × zC)
abbrev zK : Type := ClassId × ClassId × ClassId
abbrev zP : Type := Nat → Nat → Nat → List (Option zV) → List zV → zW → Prop
def iZ (z : Int) : Int32 := Int32.ofInt z
def zR (z : Int) : Prop := -2147483648 ≤ z ∧ z ≤ 2147483647
def zv : zV → Value
  | .inl z => .int (iZ z)
  | .inr r => va_rf r
def zc (k : zK) : zC → va_E
  | .inl (b, n, g) => .inl (if b then k.2.1 else k.1, n, .inl (fun j => iZ (g j)))
  | .inr (.inl (n, f)) => .inl (k.2.2, n, .inr (.inr (.inr (.inr f))))
  | .inr (.inr (c, fs)) => .inr (c, fs.map zv)
def zw (k : zK) (ws : zW) : va_W := ws.map (fun q => (q.1, zc k q.2))
def zty (k : zK) : List (ClassId × FieldType) := [(k.1, .int), (k.2.1, .boolean), (k.2.2, .object "CutLetters$Book")]
def zVr : zV → Prop
  | .inl z => zR z
  | .inr _ => True
def zCr : zC → Prop
  | .inl (_, _, g) => ∀ j, zR (g j)
  | .inr (.inl _) => True
  | .inr (.inr (_, fs)) => ∀ v ∈ fs, zVr v
def zWr (ws : zW) : Prop := ∀ q ∈ ws, zCr q.2
def zup (g : Nat → Int) (k : Nat) (x : Int) : Nat → Int := fun j => if j = k then x else g j
def zcp (f g : Nat → Int) (sp dp n : Nat) : Nat → Int := fun k => if dp ≤ k ∧ k < dp + n then f (sp + (k - dp)) else g k
def zput : zW → List Nat → zW → zW
  | ws, [], cs => ws ++ cs
  | ws, _ :: _, [] => ws
  | ws, i :: is, c :: cs => zput (ws.set i c) is cs
-- ints
theorem iZ_add (x y : Int) : iZ x + iZ y = iZ (x + y) := (Int32.ofInt_add x y).symm
theorem iZ_sub (x y : Int) : iZ x - iZ y = iZ (x - y) := (Int32.ofInt_sub x y).symm
theorem iZ_mul (x y : Int) : iZ x * iZ y = iZ (x * y) := (Int32.ofInt_mul x y).symm
theorem iZ_toInt {x : Int} (h : zR x) : (iZ x).toInt = x := Int32.toInt_ofInt_of_le (by have := h.1; omega) (by have := h.2; omega)
theorem iZ_of (x : Int32) : iZ x.toInt = x := Int32.ofInt_toInt x
theorem zR_of (x : Int32) : zR x.toInt := ⟨by have := x.le_toInt; omega, by have := x.toInt_lt; omega⟩
theorem iZ_lt {x y : Int} (hx : zR x) (hy : zR y) : iZ x < iZ y ↔ x < y := by rw [Int32.lt_iff_toInt_lt, iZ_toInt hx, iZ_toInt hy]
theorem iZ_le {x y : Int} (hx : zR x) (hy : zR y) : iZ x ≤ iZ y ↔ x ≤ y := by rw [Int32.le_iff_toInt_le, iZ_toInt hx, iZ_toInt hy]
theorem iZ_eq {x y : Int} (hx : zR x) (hy : zR y) : iZ x = iZ y ↔ x = y := by
  constructor
  · intro h
    have := congrArg Int32.toInt h
    rwa [iZ_toInt hx, iZ_toInt hy] at this
  · intro h; rw [h]
theorem zR_0 : zR 0 := ⟨by decide, by decide⟩
theorem iZ_0 : iZ 0 = 0 := by decide +kernel
theorem iZ_nat {x : Int} (hx : zR x) (h0 : 0 ≤ x) : (iZ x).toNatClampNeg = x.toNat := by
  rw [Int32.toNatClampNeg, iZ_toInt hx]
theorem iZ_in {x : Int} {n : Nat} (hx : zR x) (h0 : 0 ≤ x) (h1 : x < n) : vp_in (iZ x) n := by
  rw [vp_in_iff, iZ_toInt hx]; exact ⟨h0, h1⟩
theorem iZ_upd {g : Nat → Int} {k : Nat} {x : Int} : upd (fun j => iZ (g j)) k (iZ x) = fun j => iZ (zup g k x j) := by
  funext j
  by_cases h : j = k
  · simp [upd, zup, h]
  · simp [upd, zup, h]
theorem iZ_cpy {f g : Nat → Int} {sp dp n : Nat} : va_cpy (fun j => iZ (f j)) (fun j => iZ (g j)) sp dp n = fun j => iZ (zcp f g sp dp n j) := by
  funext j
  by_cases h : dp ≤ j ∧ j < dp + n
  · simp [va_cpy, zcp, h]
  · simp [va_cpy, zcp, h]
theorem zup_r {g : Nat → Int} {k : Nat} {x : Int} (h : ∀ j, zR (g j)) (hx : zR x) : ∀ j, zR (zup g k x j) := by
  intro j
  by_cases e : j = k
  · simp [zup, e, hx]
  · simp [zup, e, h j]
theorem zcp_r {f g : Nat → Int} {sp dp n : Nat} (hf : ∀ j, zR (f j)) (hg : ∀ j, zR (g j)) : ∀ j, zR (zcp f g sp dp n j) := by
  intro j
  by_cases e : dp ≤ j ∧ j < dp + n
  · simp only [zcp, if_pos e]; exact hf _
  · simp only [zcp, if_neg e]; exact hg _
-- cells
theorem zw_at {k : zK} {ws : zW} {i a : Nat} {x : zC} (h : ws[i]? = some (a, x)) : (zw k ws)[i]? = some (a, zc k x) := by
  simp [zw, List.getElem?_map, h]
theorem zw_set {k : zK} {ws : zW} {i a : Nat} {x : zC} : (zw k ws).set i (a, zc k x) = zw k (ws.set i (a, x)) := by
  simp [zw, List.map_set]
theorem zw_app {k : zK} {ws vs : zW} : zw k (ws ++ vs) = zw k ws ++ zw k vs := by simp [zw]
theorem zWr_at {ws : zW} {i a : Nat} {x : zC} (h : zWr ws) (hi : ws[i]? = some (a, x)) : zCr x := h (a, x) (List.mem_of_getElem? hi)
theorem zWr_set {ws : zW} {i a : Nat} {x : zC} (h : zWr ws) (hx : zCr x) : zWr (ws.set i (a, x)) := by
  intro q hq
  rcases List.mem_or_eq_of_mem_set hq with h1 | h1
  · exact h q h1
  · rw [h1]; exact hx
theorem zfst_set {ws : zW} {i a : Nat} {x y : zC} (hi : ws[i]? = some (a, y)) : (ws.set i (a, x)).map Prod.fst = ws.map Prod.fst := by
  rw [List.map_set]
  apply List.ext_getElem?
  intro j
  rw [List.getElem?_set]
  by_cases hj : i = j
  · subst hj
    obtain ⟨h1, h2⟩ := List.getElem?_eq_some_iff.mp hi
    simp [h1, h2]
  · simp [hj]
theorem zcat (v : zV) : (zv v).category = 1 := by
  cases v with
  | inl z => rfl
  | inr r => cases r <;> rfl
theorem zcat_sum (st : List zV) : ((st.map zv).map fun v => v.category).sum = st.length := by
  induction st with
  | nil => rfl
  | cons v st ih => simp only [List.map_cons, List.sum_cons, List.length_cons, ih, zcat]; omega
-- locals
def zL (ls : Array Slot) (nL : Nat) (lv : List (Option zV)) : Prop := ∃ l, lv_has ls nL l ∧ (∀ q ∈ l, q.2.category = 1) ∧ ∀ i v, lv[i]? = some (some v) → (i, zv v) ∈ l
theorem zL_at {ls : Array Slot} {nL : Nat} {lv : List (Option zV)} (h : zL ls nL lv) {i : Nat} {v : zV} (hi : lv[i]? = some (some v)) : ls[i]? = some (.val (zv v)) := by
  obtain ⟨l, h1, -, h3⟩ := h
  exact h1.2.2 _ (h3 i v hi)
theorem zL_st {ls : Array Slot} {nL : Nat} {lv : List (Option zV)} {l : List (Nat × Value)} {i : Nat} {v : zV} (hc : ∀ q ∈ l, q.2.category = 1) (h3 : ∀ i v, lv[i]? = some (some v) → (i, zv v) ∈ l) (h : lv_has ls nL ((i, zv v) :: l.filter (fun q => !(q.1 == i) && !(q.1 + 1 == i && q.2.category == 2)))) : zL ls nL (lv.set i (some v)) := by
  refine ⟨_, h, ?_, ?_⟩
  · intro q hq
    rcases List.mem_cons.mp hq with rfl | hq
    · exact zcat v
    · exact hc q (List.mem_filter.mp hq).1
  · intro j w hj
    rw [List.getElem?_set] at hj
    by_cases e : i = j
    · subst e
      by_cases hl : i < lv.length
      · simp [hl] at hj
        subst hj
        exact List.mem_cons_self
      · simp [hl] at hj
    · simp [e] at hj
      refine List.mem_cons_of_mem _ (List.mem_filter.mpr ⟨h3 j w hj, ?_⟩)
      have h2 := hc _ (h3 j w hj)
      have e' : ¬ j = i := fun z => e z.symm
      simp [e', h2]
