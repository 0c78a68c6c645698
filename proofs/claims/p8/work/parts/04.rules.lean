/-! what a walk may take as given of the launch's own cells: kept by everything that a method does -/
abbrev zE : Type := (Nat → Prop) → State → Heap → Prop
def zEok (E : zE) : Prop := (∀ (A : Nat → Prop) (u U : State) (H : Heap), u.WarmedH U.vm → E A u H → E A U H) ∧ (∀ (A : Nat → Prop) (u U : State) (H : Heap), U.vm = u.vm → E A u H → E A U H) ∧ (∀ (A : Nat → Prop) (U : State) (H H1 : Heap), E A U H → (∀ a : Nat, a < H.size → ¬ A a → H1[a]? = H[a]?) → E A U H1) ∧ (∀ (A B : Nat → Prop) (U : State) (H : Heap), E A U H → (∀ q, B q → A q) → E B U H)
/-- where a method's walk stands -/
def zS (p : Program) (l : Launch) (e : Env) (R : Room) (s : State) (m : MethodId) (args : Array Value) (below : List Frame) (meth : Method) (c : Code) (Q : State → Prop) (A : Nat → Prop) (D : va_G) (k : zK) (nL : Nat) (a0 : List Nat) : zP := fun kc ks pc lv st ws =>
  ∀ (H : Heap) (locs : List Loc) (ls : Array Slot), zWr ws → (∀ v ∈ st, zVr v) → (∀ (i : Nat) (v : zV), lv[i]? = some (some v) → zVr v) → a0 <+: ws.map Prod.fst → va_P D vwCl (zw k ws) H → va_D A (zw k ws) → va_S A s.heap H locs → zL ls nL lv → W p l e R s m args below meth c H locs kc ks Q (F0 m pc ls (st.map zv))
/-- the rule book of a method: its code cc, its class own, its words Ts, nL locals, the room R; PR: what must hold when it returns (an int, or 0) -/
def zB (l : Launch) (D : va_G) (k : zK) (E : zE) (cc : ByteArray) (own : String) (nL : Nat) (R : Room) (mc ms : Nat) (rt : Option FieldType) (ini : Prop) (a0 : List Nat) (PR : Int → zW → Prop) (Z : zP) : Prop :=
  ∃ (p : Program) (e : Env) (s : State) (m : MethodId) (args : Array Value) (below : List Frame) (meth : Method) (c : Code) (Q : State → Prop) (A : Nat → Prop),
    p.tables.exec = Jvm.exec ∧ c.code = cc ∧ c.maxLocals = nL ∧ s.vm.findClass own = some m.cls ∧ (∀ w ∈ zTs, w.before args s = true) ∧ va_K D vwCl (zty k) s ∧ (∀ q, s.heap.size ≤ q → A q) ∧ zEok E ∧ E A s s.heap ∧ (ini → meth.name = "<init>") ∧
    (∀ (H : Heap) (locs : List Loc) (ls : Array Slot) (pc : Nat) (z : Int) (ws : zW), rt ≠ none → decode cc pc = .ok (.ireturn, 1) → zR z → zWr ws → a0 <+: ws.map Prod.fst → PR z ws → va_P D vwCl (zw k ws) H → va_D A (zw k ws) → va_S A s.heap H locs → W p l e R s m args below meth c H locs mc ms Q (F0 m pc ls [.int (iZ z)])) ∧
    (∀ (H : Heap) (locs : List Loc) (ls : Array Slot) (pc : Nat) (ws : zW), rt = none → decode cc pc = .ok (.return_, 1) → zWr ws → a0 <+: ws.map Prod.fst → PR 0 ws → va_P D vwCl (zw k ws) H → va_D A (zw k ws) → va_S A s.heap H locs → W p l e R s m args below meth c H locs mc ms Q (F0 m pc ls [])) ∧
    Z = zS p l e R s m args below meth c Q A D k nL a0
section ZB
variable {l : Launch} {D : va_G} {k : zK} {E : zE} {cc : ByteArray} {own : String} {nL : Nat} {R : Room} {mc ms : Nat} {rt : Option FieldType} {ini : Prop} {a0 : List Nat} {PR : Int → zW → Prop} {Z : zP}
variable {kc ks pc : Nat} {lv : List (Option zV)} {st : List zV} {ws : zW} {x y : Int}
theorem zB.iconst (B : zB l D k E cc own nL R mc ms rt ini a0 PR Z) {n : Int} (hd : decode cc pc = .ok (.iconst n, 1)) (hr : zR n) (h : Z kc ks (pc + 1) lv (.inl n :: st) ws) : Z kc ks pc lv st ws := by
  obtain ⟨p, e, s, m, args, below, meth, c, Q, A, hx, hb, hml, hown, hts, hK, hA, hE, hEs, hin, hri, hrv, rfl⟩ := B
  intro H locs ls r1 r2 r3 r4 hP hD hS hl
  exact lv_iconst hx hb hd rfl (h H locs ls r1 (List.forall_mem_cons.mpr ⟨hr, r2⟩) r3 r4 hP hD hS hl)
theorem zB.bipush (B : zB l D k E cc own nL R mc ms rt ini a0 PR Z) {n : Int} (hd : decode cc pc = .ok (.bipush n, 2)) (hr : -128 ≤ n ∧ n ≤ 127) (h : Z kc ks (pc + 2) lv (.inl n :: st) ws) : Z kc ks pc lv st ws := by
  obtain ⟨p, e, s, m, args, below, meth, c, Q, A, hx, hb, hml, hown, hts, hK, hA, hE, hEs, hin, hri, hrv, rfl⟩ := B
  intro H locs ls r1 r2 r3 r4 hP hD hS hl
  refine lv_bipush hx hb hd (v := iZ n) ?_ (h H locs ls r1 (List.forall_mem_cons.mpr ⟨(⟨by omega, by omega⟩ : zR n), r2⟩) r3 r4 hP hD hS hl)
  apply Int32.toInt_inj.mp
  rw [iZ_toInt ⟨by omega, by omega⟩, Int8.toInt_toInt32, Int8.toInt_ofInt_of_le (by omega) (by omega)]
theorem zB.sipush (B : zB l D k E cc own nL R mc ms rt ini a0 PR Z) {n : Int} (hd : decode cc pc = .ok (.sipush n, 3)) (hr : -32768 ≤ n ∧ n ≤ 32767) (h : Z kc ks (pc + 3) lv (.inl n :: st) ws) : Z kc ks pc lv st ws := by
  obtain ⟨p, e, s, m, args, below, meth, c, Q, A, hx, hb, hml, hown, hts, hK, hA, hE, hEs, hin, hri, hrv, rfl⟩ := B
  intro H locs ls r1 r2 r3 r4 hP hD hS hl
  refine lv_sipush hx hb hd (v := iZ n) ?_ (h H locs ls r1 (List.forall_mem_cons.mpr ⟨(⟨by omega, by omega⟩ : zR n), r2⟩) r3 r4 hP hD hS hl)
  apply Int32.toInt_inj.mp
  rw [iZ_toInt ⟨by omega, by omega⟩, Int16.toInt_toInt32, Int16.toInt_ofInt_of_le (by omega) (by omega)]
theorem zB.ldc (B : zB l D k E cc own nL R mc ms rt ini a0 PR Z) {i : Nat} {n : Int} (hd : decode cc pc = .ok (.ldc i, 2)) (hw : Jvm.Cond.constant own i (iZ n) ∈ zTs) (hr : zR n) (h : Z kc ks (pc + 2) lv (.inl n :: st) ws) : Z kc ks pc lv st ws := by
  obtain ⟨p, e, s, m, args, below, meth, c, Q, A, hx, hb, hml, hown, hts, hK, hA, hE, hEs, hin, hri, hrv, rfl⟩ := B
  intro H locs ls r1 r2 r3 r4 hP hD hS hl
  exact lv_ldc hx hb hown (hts _ hw) hd (h H locs ls r1 (List.forall_mem_cons.mpr ⟨hr, r2⟩) r3 r4 hP hD hS hl)
theorem zB.iload_n (B : zB l D k E cc own nL R mc ms rt ini a0 PR Z) {i : Nat} {q : Fin 4} (hd : decode cc pc = .ok (.iload_n q, 1)) (hq : (q : Nat) = i) (hi : lv[i]? = some (some (.inl x))) (h : Z kc ks (pc + 1) lv (.inl x :: st) ws) : Z kc ks pc lv st ws := by
  obtain ⟨p, e, s, m, args, below, meth, c, Q, A, hx, hb, hml, hown, hts, hK, hA, hE, hEs, hin, hri, hrv, rfl⟩ := B
  intro H locs ls r1 r2 r3 r4 hP hD hS hl
  exact lv_iload_n hx hb hd hq (zL_at hl hi) (h H locs ls r1 (List.forall_mem_cons.mpr ⟨r3 i _ hi, r2⟩) r3 r4 hP hD hS hl)
theorem zB.iload (B : zB l D k E cc own nL R mc ms rt ini a0 PR Z) {i : Nat} (hd : decode cc pc = .ok (.iload i, 2)) (hi : lv[i]? = some (some (.inl x))) (h : Z kc ks (pc + 2) lv (.inl x :: st) ws) : Z kc ks pc lv st ws := by
  obtain ⟨p, e, s, m, args, below, meth, c, Q, A, hx, hb, hml, hown, hts, hK, hA, hE, hEs, hin, hri, hrv, rfl⟩ := B
  intro H locs ls r1 r2 r3 r4 hP hD hS hl
  exact lv_iload hx hb hd (zL_at hl hi) (h H locs ls r1 (List.forall_mem_cons.mpr ⟨r3 i _ hi, r2⟩) r3 r4 hP hD hS hl)
theorem zB.aload_n (B : zB l D k E cc own nL R mc ms rt ini a0 PR Z) {i a : Nat} {q : Fin 4} (hd : decode cc pc = .ok (.aload_n q, 1)) (hq : (q : Nat) = i) (hi : lv[i]? = some (some (.inr (some a)))) (h : Z kc ks (pc + 1) lv (.inr (some a) :: st) ws) : Z kc ks pc lv st ws := by
  obtain ⟨p, e, s, m, args, below, meth, c, Q, A, hx, hb, hml, hown, hts, hK, hA, hE, hEs, hin, hri, hrv, rfl⟩ := B
  intro H locs ls r1 r2 r3 r4 hP hD hS hl
  exact lv_aload_n hx hb hd hq (zL_at hl hi) (h H locs ls r1 (List.forall_mem_cons.mpr ⟨trivial, r2⟩) r3 r4 hP hD hS hl)
theorem zB.aload (B : zB l D k E cc own nL R mc ms rt ini a0 PR Z) {i a : Nat} (hd : decode cc pc = .ok (.aload i, 2)) (hi : lv[i]? = some (some (.inr (some a)))) (h : Z kc ks (pc + 2) lv (.inr (some a) :: st) ws) : Z kc ks pc lv st ws := by
  obtain ⟨p, e, s, m, args, below, meth, c, Q, A, hx, hb, hml, hown, hts, hK, hA, hE, hEs, hin, hri, hrv, rfl⟩ := B
  intro H locs ls r1 r2 r3 r4 hP hD hS hl
  exact lv_aload hx hb hd (zL_at hl hi) (h H locs ls r1 (List.forall_mem_cons.mpr ⟨trivial, r2⟩) r3 r4 hP hD hS hl)
theorem zlv_set {lv : List (Option zV)} {i : Nat} {v : zV} (h : ∀ (i : Nat) (v : zV), lv[i]? = some (some v) → zVr v) (hv : zVr v) : ∀ (j : Nat) (w : zV), (lv.set i (some v))[j]? = some (some w) → zVr w := by
  intro j w hj
  rw [List.getElem?_set] at hj
  by_cases e : i = j
  · subst e
    by_cases hl : i < lv.length
    · simp [hl] at hj
      subst hj
      exact hv
    · simp [hl] at hj
  · simp [e] at hj
    exact h j w hj
theorem zB.istore_n (B : zB l D k E cc own nL R mc ms rt ini a0 PR Z) {i : Nat} {q : Fin 4} (hd : decode cc pc = .ok (.istore_n q, 1)) (hq : (q : Nat) = i) (hn : i < nL) (h : Z kc ks (pc + 1) (lv.set i (some (.inl x))) st ws) : Z kc ks pc lv (.inl x :: st) ws := by
  obtain ⟨p, e, s, m, args, below, meth, c, Q, A, hx, hb, hml, hown, hts, hK, hA, hE, hEs, hin, hri, hrv, rfl⟩ := B
  intro H locs ls r1 r2 r3 r4 hP hD hS hl
  obtain ⟨h1, h2⟩ := List.forall_mem_cons.mp r2
  obtain ⟨ll, g1, g2, g3⟩ := hl
  exact lv_istore_n hx hb hd hq g1 hn rfl (fun ls' hl' => h H locs ls' r1 h2 (zlv_set r3 h1) r4 hP hD hS (zL_st g2 g3 hl'))
theorem zB.istore (B : zB l D k E cc own nL R mc ms rt ini a0 PR Z) {i : Nat} (hd : decode cc pc = .ok (.istore i, 2)) (hn : i < nL) (h : Z kc ks (pc + 2) (lv.set i (some (.inl x))) st ws) : Z kc ks pc lv (.inl x :: st) ws := by
  obtain ⟨p, e, s, m, args, below, meth, c, Q, A, hx, hb, hml, hown, hts, hK, hA, hE, hEs, hin, hri, hrv, rfl⟩ := B
  intro H locs ls r1 r2 r3 r4 hP hD hS hl
  obtain ⟨h1, h2⟩ := List.forall_mem_cons.mp r2
  obtain ⟨ll, g1, g2, g3⟩ := hl
  exact lv_istore hx hb hd g1 hn rfl (fun ls' hl' => h H locs ls' r1 h2 (zlv_set r3 h1) r4 hP hD hS (zL_st g2 g3 hl'))
theorem zB.astore_n (B : zB l D k E cc own nL R mc ms rt ini a0 PR Z) {i a : Nat} {q : Fin 4} (hd : decode cc pc = .ok (.astore_n q, 1)) (hq : (q : Nat) = i) (hn : i < nL) (h : Z kc ks (pc + 1) (lv.set i (some (.inr (some a)))) st ws) : Z kc ks pc lv (.inr (some a) :: st) ws := by
  obtain ⟨p, e, s, m, args, below, meth, c, Q, A, hx, hb, hml, hown, hts, hK, hA, hE, hEs, hin, hri, hrv, rfl⟩ := B
  intro H locs ls r1 r2 r3 r4 hP hD hS hl
  obtain ⟨h1, h2⟩ := List.forall_mem_cons.mp r2
  obtain ⟨ll, g1, g2, g3⟩ := hl
  exact lv_astore_n hx hb hd hq g1 hn rfl (fun ls' hl' => h H locs ls' r1 h2 (zlv_set r3 h1) r4 hP hD hS (zL_st (v := .inr (some a)) g2 g3 hl'))
theorem zB.iinc (B : zB l D k E cc own nL R mc ms rt ini a0 PR Z) {i : Nat} {n : Int} (hd : decode cc pc = .ok (.iinc i n, 3)) (hn : i < nL) (hi : lv[i]? = some (some (.inl x))) (hr : zR (x + n)) (h : Z kc ks (pc + 3) (lv.set i (some (.inl (x + n)))) st ws) : Z kc ks pc lv st ws := by
  obtain ⟨p, e, s, m, args, below, meth, c, Q, A, hx, hb, hml, hown, hts, hK, hA, hE, hEs, hin, hri, hrv, rfl⟩ := B
  intro H locs ls r1 r2 r3 r4 hP hD hS hl
  obtain ⟨ll, g1, g2, g3⟩ := hl
  obtain ⟨j, hj⟩ := List.getElem?_of_mem (g3 i _ hi)
  exact lv_iinc hx hb hd g1 hj (v := iZ (x + n)) (iZ_add x n) hn rfl (fun ls' hl' => h H locs ls' r1 r2 (zlv_set r3 hr) r4 hP hD hS (zL_st (v := .inl (x + n)) g2 g3 hl'))
-- arithmetic
theorem zB.iadd (B : zB l D k E cc own nL R mc ms rt ini a0 PR Z) (hd : decode cc pc = .ok (.iadd, 1)) (hr : zR (x + y)) (h : Z kc ks (pc + 1) lv (.inl (x + y) :: st) ws) : Z kc ks pc lv (.inl y :: .inl x :: st) ws := by
  obtain ⟨p, e, s, m, args, below, meth, c, Q, A, hx, hb, hml, hown, hts, hK, hA, hE, hEs, hin, hri, hrv, rfl⟩ := B
  intro H locs ls r1 r2 r3 r4 hP hD hS hl
  refine lv_iadd (x := iZ x) (y := iZ y) hx hb hd ?_
  rw [iZ_add]
  exact h H locs ls r1 (List.forall_mem_cons.mpr ⟨hr, (List.forall_mem_cons.mp (List.forall_mem_cons.mp r2).2).2⟩) r3 r4 hP hD hS hl
theorem zB.isub (B : zB l D k E cc own nL R mc ms rt ini a0 PR Z) (hd : decode cc pc = .ok (.isub, 1)) (hr : zR (x - y)) (h : Z kc ks (pc + 1) lv (.inl (x - y) :: st) ws) : Z kc ks pc lv (.inl y :: .inl x :: st) ws := by
  obtain ⟨p, e, s, m, args, below, meth, c, Q, A, hx, hb, hml, hown, hts, hK, hA, hE, hEs, hin, hri, hrv, rfl⟩ := B
  intro H locs ls r1 r2 r3 r4 hP hD hS hl
  refine lv_isub (x := iZ x) (y := iZ y) hx hb hd ?_
  rw [iZ_sub]
  exact h H locs ls r1 (List.forall_mem_cons.mpr ⟨hr, (List.forall_mem_cons.mp (List.forall_mem_cons.mp r2).2).2⟩) r3 r4 hP hD hS hl
theorem zB.imul (B : zB l D k E cc own nL R mc ms rt ini a0 PR Z) (hd : decode cc pc = .ok (.imul, 1)) (hr : zR (x * y)) (h : Z kc ks (pc + 1) lv (.inl (x * y) :: st) ws) : Z kc ks pc lv (.inl y :: .inl x :: st) ws := by
  obtain ⟨p, e, s, m, args, below, meth, c, Q, A, hx, hb, hml, hown, hts, hK, hA, hE, hEs, hin, hri, hrv, rfl⟩ := B
  intro H locs ls r1 r2 r3 r4 hP hD hS hl
  refine lv_imul (x := iZ x) (y := iZ y) hx hb hd ?_
  rw [iZ_mul]
  exact h H locs ls r1 (List.forall_mem_cons.mpr ⟨hr, (List.forall_mem_cons.mp (List.forall_mem_cons.mp r2).2).2⟩) r3 r4 hP hD hS hl
/-- a sum, a difference, a product that may wrap: some int -/
theorem zB.iaddw (B : zB l D k E cc own nL R mc ms rt ini a0 PR Z) (hd : decode cc pc = .ok (.iadd, 1)) (h : ∀ r : Int, zR r → (zR (x + y) → r = x + y) → Z kc ks (pc + 1) lv (.inl r :: st) ws) : Z kc ks pc lv (.inl y :: .inl x :: st) ws := by
  obtain ⟨p, e, s, m, args, below, meth, c, Q, A, hx, hb, hml, hown, hts, hK, hA, hE, hEs, hin, hri, hrv, rfl⟩ := B
  intro H locs ls r1 r2 r3 r4 hP hD hS hl
  refine lv_iadd (x := iZ x) (y := iZ y) hx hb hd ?_
  rw [iZ_add, ← iZ_of (iZ (x + y))]
  exact h _ (zR_of _) (fun q => iZ_toInt q) H locs ls r1 (List.forall_mem_cons.mpr ⟨zR_of _, (List.forall_mem_cons.mp (List.forall_mem_cons.mp r2).2).2⟩) r3 r4 hP hD hS hl
theorem zB.isubw (B : zB l D k E cc own nL R mc ms rt ini a0 PR Z) (hd : decode cc pc = .ok (.isub, 1)) (h : ∀ r : Int, zR r → (zR (x - y) → r = x - y) → Z kc ks (pc + 1) lv (.inl r :: st) ws) : Z kc ks pc lv (.inl y :: .inl x :: st) ws := by
  obtain ⟨p, e, s, m, args, below, meth, c, Q, A, hx, hb, hml, hown, hts, hK, hA, hE, hEs, hin, hri, hrv, rfl⟩ := B
  intro H locs ls r1 r2 r3 r4 hP hD hS hl
  refine lv_isub (x := iZ x) (y := iZ y) hx hb hd ?_
  rw [iZ_sub, ← iZ_of (iZ (x - y))]
  exact h _ (zR_of _) (fun q => iZ_toInt q) H locs ls r1 (List.forall_mem_cons.mpr ⟨zR_of _, (List.forall_mem_cons.mp (List.forall_mem_cons.mp r2).2).2⟩) r3 r4 hP hD hS hl
theorem zB.imulw (B : zB l D k E cc own nL R mc ms rt ini a0 PR Z) (hd : decode cc pc = .ok (.imul, 1)) (h : ∀ r : Int, zR r → (zR (x * y) → r = x * y) → Z kc ks (pc + 1) lv (.inl r :: st) ws) : Z kc ks pc lv (.inl y :: .inl x :: st) ws := by
  obtain ⟨p, e, s, m, args, below, meth, c, Q, A, hx, hb, hml, hown, hts, hK, hA, hE, hEs, hin, hri, hrv, rfl⟩ := B
  intro H locs ls r1 r2 r3 r4 hP hD hS hl
  refine lv_imul (x := iZ x) (y := iZ y) hx hb hd ?_
  rw [iZ_mul, ← iZ_of (iZ (x * y))]
  exact h _ (zR_of _) (fun q => iZ_toInt q) H locs ls r1 (List.forall_mem_cons.mpr ⟨zR_of _, (List.forall_mem_cons.mp (List.forall_mem_cons.mp r2).2).2⟩) r3 r4 hP hD hS hl
/-- and, or, xor, shl: the int that comes, by its own word -/
theorem zB.iand (B : zB l D k E cc own nL R mc ms rt ini a0 PR Z) (hd : decode cc pc = .ok (.iand, 1)) (h : ∀ r : Int, zR r → r = (iZ x &&& iZ y).toInt → Z kc ks (pc + 1) lv (.inl r :: st) ws) : Z kc ks pc lv (.inl y :: .inl x :: st) ws := by
  obtain ⟨p, e, s, m, args, below, meth, c, Q, A, hx, hb, hml, hown, hts, hK, hA, hE, hEs, hin, hri, hrv, rfl⟩ := B
  intro H locs ls r1 r2 r3 r4 hP hD hS hl
  refine lv_iand (x := iZ x) (y := iZ y) hx hb hd ?_
  rw [← iZ_of (iZ x &&& iZ y)]
  exact h _ (zR_of _) rfl H locs ls r1 (List.forall_mem_cons.mpr ⟨zR_of _, (List.forall_mem_cons.mp (List.forall_mem_cons.mp r2).2).2⟩) r3 r4 hP hD hS hl
theorem zB.ior (B : zB l D k E cc own nL R mc ms rt ini a0 PR Z) (hd : decode cc pc = .ok (.ior, 1)) (h : ∀ r : Int, zR r → r = (iZ x ||| iZ y).toInt → Z kc ks (pc + 1) lv (.inl r :: st) ws) : Z kc ks pc lv (.inl y :: .inl x :: st) ws := by
  obtain ⟨p, e, s, m, args, below, meth, c, Q, A, hx, hb, hml, hown, hts, hK, hA, hE, hEs, hin, hri, hrv, rfl⟩ := B
  intro H locs ls r1 r2 r3 r4 hP hD hS hl
  refine lv_ior (x := iZ x) (y := iZ y) hx hb hd ?_
  rw [← iZ_of (iZ x ||| iZ y)]
  exact h _ (zR_of _) rfl H locs ls r1 (List.forall_mem_cons.mpr ⟨zR_of _, (List.forall_mem_cons.mp (List.forall_mem_cons.mp r2).2).2⟩) r3 r4 hP hD hS hl
theorem zB.ixor (B : zB l D k E cc own nL R mc ms rt ini a0 PR Z) (hd : decode cc pc = .ok (.ixor, 1)) (h : ∀ r : Int, zR r → r = (iZ x ^^^ iZ y).toInt → Z kc ks (pc + 1) lv (.inl r :: st) ws) : Z kc ks pc lv (.inl y :: .inl x :: st) ws := by
  obtain ⟨p, e, s, m, args, below, meth, c, Q, A, hx, hb, hml, hown, hts, hK, hA, hE, hEs, hin, hri, hrv, rfl⟩ := B
  intro H locs ls r1 r2 r3 r4 hP hD hS hl
  refine lv_ixor (x := iZ x) (y := iZ y) hx hb hd ?_
  rw [← iZ_of (iZ x ^^^ iZ y)]
  exact h _ (zR_of _) rfl H locs ls r1 (List.forall_mem_cons.mpr ⟨zR_of _, (List.forall_mem_cons.mp (List.forall_mem_cons.mp r2).2).2⟩) r3 r4 hP hD hS hl
theorem zB.ishl (B : zB l D k E cc own nL R mc ms rt ini a0 PR Z) (hd : decode cc pc = .ok (.ishl, 1)) (h : ∀ r : Int, zR r → r = (iZ x <<< (iZ y &&& 31)).toInt → Z kc ks (pc + 1) lv (.inl r :: st) ws) : Z kc ks pc lv (.inl y :: .inl x :: st) ws := by
  obtain ⟨p, e, s, m, args, below, meth, c, Q, A, hx, hb, hml, hown, hts, hK, hA, hE, hEs, hin, hri, hrv, rfl⟩ := B
  intro H locs ls r1 r2 r3 r4 hP hD hS hl
  refine lv_ishl (x := iZ x) (y := iZ y) hx hb hd ?_
  rw [← iZ_of (iZ x <<< (iZ y &&& 31))]
  exact h _ (zR_of _) rfl H locs ls r1 (List.forall_mem_cons.mpr ⟨zR_of _, (List.forall_mem_cons.mp (List.forall_mem_cons.mp r2).2).2⟩) r3 r4 hP hD hS hl
theorem iZ_div {x y : Int} (hx : zR x) (h0 : 0 ≤ x) (hy : 0 < y) (hy2 : zR y) : iZ x / iZ y = iZ (x / y) := by
  obtain ⟨a, rfl⟩ := Int.eq_ofNat_of_zero_le h0
  obtain ⟨b, rfl⟩ := Int.eq_ofNat_of_zero_le (Int.le_of_lt hy)
  have ha : a < 2 ^ 31 := by have := hx.2; omega
  have hb : b < 2 ^ 31 := by have := hy2.2; omega
  have e := pk_div (a := a) (d := b) ha (by omega) hb
  have e1 : ∀ n : Nat, iZ (n : Int) = nI n := fun n => Int32.ofInt_eq_ofNat
  rw [e1, e1, e, ← e1]
  rfl
theorem iZ_rem {x y : Int} (hx : zR x) (h0 : 0 ≤ x) (hy : 0 < y) (hy2 : zR y) : iZ x - iZ x / iZ y * iZ y = iZ (x % y) := by
  rw [iZ_div hx h0 hy hy2, iZ_mul, iZ_sub]
  congr 1
  have := Int.emod_def x y
  rw [this, Int.mul_comm]
theorem zB.idiv (B : zB l D k E cc own nL R mc ms rt ini a0 PR Z) (hd : decode cc pc = .ok (.idiv, 1)) (h0 : 0 ≤ x) (hy : 0 < y) (h : Z kc ks (pc + 1) lv (.inl (x / y) :: st) ws) : Z kc ks pc lv (.inl y :: .inl x :: st) ws := by
  obtain ⟨p, e, s, m, args, below, meth, c, Q, A, hx, hb, hml, hown, hts, hK, hA, hE, hEs, hin, hri, hrv, rfl⟩ := B
  intro H locs ls r1 r2 r3 r4 hP hD hS hl
  obtain ⟨ry, rr⟩ := List.forall_mem_cons.mp r2
  obtain ⟨rx, rr⟩ := List.forall_mem_cons.mp rr
  have rx' : zR x := rx
  have ry' : zR y := ry
  refine lv_idiv (x := iZ x) (y := iZ y) hx hb hd (fun z => ?_) ?_
  · have := (iZ_eq ry' zR_0).mp (z.trans iZ_0.symm); omega
  · rw [iZ_div rx' h0 hy ry']
    refine h H locs ls r1 (List.forall_mem_cons.mpr ⟨?_, rr⟩) r3 r4 hP hD hS hl
    have h1 : 0 ≤ x / y := Int.ediv_nonneg h0 (by omega)
    have h2 : x / y ≤ x := Int.ediv_le_self y h0
    exact (⟨by omega, by have := rx'.2; omega⟩ : zR (x / y))
theorem zB.irem (B : zB l D k E cc own nL R mc ms rt ini a0 PR Z) (hd : decode cc pc = .ok (.irem, 1)) (h0 : 0 ≤ x) (hy : 0 < y) (h : Z kc ks (pc + 1) lv (.inl (x % y) :: st) ws) : Z kc ks pc lv (.inl y :: .inl x :: st) ws := by
  obtain ⟨p, e, s, m, args, below, meth, c, Q, A, hx, hb, hml, hown, hts, hK, hA, hE, hEs, hin, hri, hrv, rfl⟩ := B
  intro H locs ls r1 r2 r3 r4 hP hD hS hl
  obtain ⟨ry, rr⟩ := List.forall_mem_cons.mp r2
  obtain ⟨rx, rr⟩ := List.forall_mem_cons.mp rr
  have rx' : zR x := rx
  have ry' : zR y := ry
  refine lv_irem (x := iZ x) (y := iZ y) hx hb hd (fun z => ?_) ?_
  · have := (iZ_eq ry' zR_0).mp (z.trans iZ_0.symm); omega
  · rw [iZ_rem rx' h0 hy ry']
    refine h H locs ls r1 (List.forall_mem_cons.mpr ⟨?_, rr⟩) r3 r4 hP hD hS hl
    have h1 : 0 ≤ x % y := Int.emod_nonneg x (by omega)
    have h2 : x % y < y := Int.emod_lt_of_pos x hy
    exact (⟨by omega, by have := ry'.2; omega⟩ : zR (x % y))
/-- a quotient, a rest of any ints by a divisor that is no 0: some int -/
theorem zB.idivw (B : zB l D k E cc own nL R mc ms rt ini a0 PR Z) (hd : decode cc pc = .ok (.idiv, 1)) (hy : y ≠ 0) (h : ∀ r : Int, zR r → (0 ≤ x → 0 < y → r = x / y) → Z kc ks (pc + 1) lv (.inl r :: st) ws) : Z kc ks pc lv (.inl y :: .inl x :: st) ws := by
  obtain ⟨p, e, s, m, args, below, meth, c, Q, A, hx, hb, hml, hown, hts, hK, hA, hE, hEs, hin, hri, hrv, rfl⟩ := B
  intro H locs ls r1 r2 r3 r4 hP hD hS hl
  obtain ⟨ry, rr⟩ := List.forall_mem_cons.mp r2
  obtain ⟨rx, rr⟩ := List.forall_mem_cons.mp rr
  have rx' : zR x := rx
  have ry' : zR y := ry
  refine lv_idiv (x := iZ x) (y := iZ y) hx hb hd (fun z => ?_) ?_
  · exact hy ((iZ_eq ry' zR_0).mp (z.trans iZ_0.symm))
  · rw [← iZ_of (iZ x / iZ y)]
    refine h _ (zR_of _) (fun q1 q2 => ?_) H locs ls r1 (List.forall_mem_cons.mpr ⟨zR_of _, rr⟩) r3 r4 hP hD hS hl
    rw [iZ_div rx' q1 q2 ry']
    have h1 : 0 ≤ x / y := Int.ediv_nonneg q1 (by omega)
    have h2 : x / y ≤ x := Int.ediv_le_self y q1
    exact iZ_toInt ⟨by omega, by have := rx'.2; omega⟩
theorem zB.iremw (B : zB l D k E cc own nL R mc ms rt ini a0 PR Z) (hd : decode cc pc = .ok (.irem, 1)) (hy : y ≠ 0) (h : ∀ r : Int, zR r → (0 ≤ x → 0 < y → r = x % y) → Z kc ks (pc + 1) lv (.inl r :: st) ws) : Z kc ks pc lv (.inl y :: .inl x :: st) ws := by
  obtain ⟨p, e, s, m, args, below, meth, c, Q, A, hx, hb, hml, hown, hts, hK, hA, hE, hEs, hin, hri, hrv, rfl⟩ := B
  intro H locs ls r1 r2 r3 r4 hP hD hS hl
  obtain ⟨ry, rr⟩ := List.forall_mem_cons.mp r2
  obtain ⟨rx, rr⟩ := List.forall_mem_cons.mp rr
  have rx' : zR x := rx
  have ry' : zR y := ry
  refine lv_irem (x := iZ x) (y := iZ y) hx hb hd (fun z => ?_) ?_
  · exact hy ((iZ_eq ry' zR_0).mp (z.trans iZ_0.symm))
  · rw [← iZ_of (iZ x - iZ x / iZ y * iZ y)]
    refine h _ (zR_of _) (fun q1 q2 => ?_) H locs ls r1 (List.forall_mem_cons.mpr ⟨zR_of _, rr⟩) r3 r4 hP hD hS hl
    rw [iZ_rem rx' q1 q2 ry']
    have h1 : 0 ≤ x % y := Int.emod_nonneg x (by omega)
    have h2 : x % y < y := Int.emod_lt_of_pos x q2
    exact iZ_toInt ⟨by omega, by have := ry'.2; omega⟩
-- the stack
theorem zB.dup (B : zB l D k E cc own nL R mc ms rt ini a0 PR Z) {v : zV} (hd : decode cc pc = .ok (.dup, 1)) (h : Z kc ks (pc + 1) lv (v :: v :: st) ws) : Z kc ks pc lv (v :: st) ws := by
  obtain ⟨p, e, s, m, args, below, meth, c, Q, A, hx, hb, hml, hown, hts, hK, hA, hE, hEs, hin, hri, hrv, rfl⟩ := B
  intro H locs ls r1 r2 r3 r4 hP hD hS hl
  exact lv_dup (va := zv v) hx hb hd (zcat v) (h H locs ls r1 (List.forall_mem_cons.mpr ⟨r2 v List.mem_cons_self, r2⟩) r3 r4 hP hD hS hl)
theorem zB.pop (B : zB l D k E cc own nL R mc ms rt ini a0 PR Z) {v : zV} (hd : decode cc pc = .ok (.pop, 1)) (h : Z kc ks (pc + 1) lv st ws) : Z kc ks pc lv (v :: st) ws := by
  obtain ⟨p, e, s, m, args, below, meth, c, Q, A, hx, hb, hml, hown, hts, hK, hA, hE, hEs, hin, hri, hrv, rfl⟩ := B
  intro H locs ls r1 r2 r3 r4 hP hD hS hl
  exact lv_pop (va := zv v) hx hb hd (zcat v) (h H locs ls r1 (List.forall_mem_cons.mp r2).2 r3 r4 hP hD hS hl)
theorem zB.dup2 (B : zB l D k E cc own nL R mc ms rt ini a0 PR Z) {v w : zV} (hd : decode cc pc = .ok (.dup2, 1)) (h : Z kc ks (pc + 1) lv (v :: w :: v :: w :: st) ws) : Z kc ks pc lv (v :: w :: st) ws := by
  obtain ⟨p, e, s, m, args, below, meth, c, Q, A, hx, hb, hml, hown, hts, hK, hA, hE, hEs, hin, hri, hrv, rfl⟩ := B
  intro H locs ls r1 r2 r3 r4 hP hD hS hl
  exact lv_dup2_11 (va := zv v) (vb := zv w) hx hb hd (zcat v) (zcat w) (h H locs ls r1 (List.forall_mem_cons.mpr ⟨r2 v List.mem_cons_self, List.forall_mem_cons.mpr ⟨r2 w (List.mem_cons_of_mem _ List.mem_cons_self), r2⟩⟩) r3 r4 hP hD hS hl)
-- jumps
theorem zB.goto (B : zB l D k E cc own nL R mc ms rt ini a0 PR Z) {off : Int} {tgt : Nat} (hd : decode cc pc = .ok (.goto off, 3)) (ht : (pc : Int) + off = (tgt : Int)) (h : Z kc ks tgt lv st ws) : Z kc ks pc lv st ws := by
  obtain ⟨p, e, s, m, args, below, meth, c, Q, A, hx, hb, hml, hown, hts, hK, hA, hE, hEs, hin, hri, hrv, rfl⟩ := B
  intro H locs ls r1 r2 r3 r4 hP hD hS hl
  exact lv_goto hx hb hd ht (h H locs ls r1 r2 r3 r4 hP hD hS hl)
theorem zB.icmp_eq (B : zB l D k E cc own nL R mc ms rt ini a0 PR Z) {off : Int} {tgt : Nat} (hd : decode cc pc = .ok (.if_icmp .eq off, 3)) (ht : (pc : Int) + off = (tgt : Int)) (kt : x = y → Z kc ks tgt lv st ws) (kf : ¬ x = y → Z kc ks (pc + 3) lv st ws) : Z kc ks pc lv (.inl y :: .inl x :: st) ws := by
  obtain ⟨p, e, s, m, args, below, meth, c, Q, A, hx, hb, hml, hown, hts, hK, hA, hE, hEs, hin, hri, hrv, rfl⟩ := B
  intro H locs ls r1 r2 r3 r4 hP hD hS hl
  obtain ⟨ry, rr⟩ := List.forall_mem_cons.mp r2
  obtain ⟨rx, rr⟩ := List.forall_mem_cons.mp rr
  have rx : zR x := rx
  have ry : zR y := ry
  refine lv_icmp_eq (x := iZ x) (y := iZ y) hx hb hd ht (fun q => ?_) (fun q => ?_)
  · exact kt ((iZ_eq rx ry).mp q) H locs ls r1 rr r3 r4 hP hD hS hl
  · exact kf (fun z => q ((iZ_eq rx ry).mpr z)) H locs ls r1 rr r3 r4 hP hD hS hl
theorem zB.icmp_ne (B : zB l D k E cc own nL R mc ms rt ini a0 PR Z) {off : Int} {tgt : Nat} (hd : decode cc pc = .ok (.if_icmp .ne off, 3)) (ht : (pc : Int) + off = (tgt : Int)) (kt : x ≠ y → Z kc ks tgt lv st ws) (kf : x = y → Z kc ks (pc + 3) lv st ws) : Z kc ks pc lv (.inl y :: .inl x :: st) ws := by
  obtain ⟨p, e, s, m, args, below, meth, c, Q, A, hx, hb, hml, hown, hts, hK, hA, hE, hEs, hin, hri, hrv, rfl⟩ := B
  intro H locs ls r1 r2 r3 r4 hP hD hS hl
  obtain ⟨ry, rr⟩ := List.forall_mem_cons.mp r2
  obtain ⟨rx, rr⟩ := List.forall_mem_cons.mp rr
  have rx : zR x := rx
  have ry : zR y := ry
  refine lv_icmp_ne (x := iZ x) (y := iZ y) hx hb hd ht (fun q => ?_) (fun q => ?_)
  · exact kt (fun z => q ((iZ_eq rx ry).mpr z)) H locs ls r1 rr r3 r4 hP hD hS hl
  · exact kf ((iZ_eq rx ry).mp (q)) H locs ls r1 rr r3 r4 hP hD hS hl
theorem zB.icmp_lt (B : zB l D k E cc own nL R mc ms rt ini a0 PR Z) {off : Int} {tgt : Nat} (hd : decode cc pc = .ok (.if_icmp .lt off, 3)) (ht : (pc : Int) + off = (tgt : Int)) (kt : x < y → Z kc ks tgt lv st ws) (kf : ¬ x < y → Z kc ks (pc + 3) lv st ws) : Z kc ks pc lv (.inl y :: .inl x :: st) ws := by
  obtain ⟨p, e, s, m, args, below, meth, c, Q, A, hx, hb, hml, hown, hts, hK, hA, hE, hEs, hin, hri, hrv, rfl⟩ := B
  intro H locs ls r1 r2 r3 r4 hP hD hS hl
  obtain ⟨ry, rr⟩ := List.forall_mem_cons.mp r2
  obtain ⟨rx, rr⟩ := List.forall_mem_cons.mp rr
  have rx : zR x := rx
  have ry : zR y := ry
  refine lv_icmp_lt (x := iZ x) (y := iZ y) hx hb hd ht (fun q => ?_) (fun q => ?_)
  · exact kt ((iZ_lt rx ry).mp q) H locs ls r1 rr r3 r4 hP hD hS hl
  · exact kf (fun z => q ((iZ_lt rx ry).mpr z)) H locs ls r1 rr r3 r4 hP hD hS hl
theorem zB.icmp_ge (B : zB l D k E cc own nL R mc ms rt ini a0 PR Z) {off : Int} {tgt : Nat} (hd : decode cc pc = .ok (.if_icmp .ge off, 3)) (ht : (pc : Int) + off = (tgt : Int)) (kt : y ≤ x → Z kc ks tgt lv st ws) (kf : ¬ y ≤ x → Z kc ks (pc + 3) lv st ws) : Z kc ks pc lv (.inl y :: .inl x :: st) ws := by
  obtain ⟨p, e, s, m, args, below, meth, c, Q, A, hx, hb, hml, hown, hts, hK, hA, hE, hEs, hin, hri, hrv, rfl⟩ := B
  intro H locs ls r1 r2 r3 r4 hP hD hS hl
  obtain ⟨ry, rr⟩ := List.forall_mem_cons.mp r2
  obtain ⟨rx, rr⟩ := List.forall_mem_cons.mp rr
  have rx : zR x := rx
  have ry : zR y := ry
  refine lv_icmp_ge (x := iZ x) (y := iZ y) hx hb hd ht (fun q => ?_) (fun q => ?_)
  · exact kt ((iZ_le ry rx).mp q) H locs ls r1 rr r3 r4 hP hD hS hl
  · exact kf (fun z => q ((iZ_le ry rx).mpr z)) H locs ls r1 rr r3 r4 hP hD hS hl
theorem zB.icmp_gt (B : zB l D k E cc own nL R mc ms rt ini a0 PR Z) {off : Int} {tgt : Nat} (hd : decode cc pc = .ok (.if_icmp .gt off, 3)) (ht : (pc : Int) + off = (tgt : Int)) (kt : y < x → Z kc ks tgt lv st ws) (kf : ¬ y < x → Z kc ks (pc + 3) lv st ws) : Z kc ks pc lv (.inl y :: .inl x :: st) ws := by
  obtain ⟨p, e, s, m, args, below, meth, c, Q, A, hx, hb, hml, hown, hts, hK, hA, hE, hEs, hin, hri, hrv, rfl⟩ := B
  intro H locs ls r1 r2 r3 r4 hP hD hS hl
  obtain ⟨ry, rr⟩ := List.forall_mem_cons.mp r2
  obtain ⟨rx, rr⟩ := List.forall_mem_cons.mp rr
  have rx : zR x := rx
  have ry : zR y := ry
  refine lv_icmp_gt (x := iZ x) (y := iZ y) hx hb hd ht (fun q => ?_) (fun q => ?_)
  · exact kt ((iZ_lt ry rx).mp q) H locs ls r1 rr r3 r4 hP hD hS hl
  · exact kf (fun z => q ((iZ_lt ry rx).mpr z)) H locs ls r1 rr r3 r4 hP hD hS hl
theorem zB.icmp_le (B : zB l D k E cc own nL R mc ms rt ini a0 PR Z) {off : Int} {tgt : Nat} (hd : decode cc pc = .ok (.if_icmp .le off, 3)) (ht : (pc : Int) + off = (tgt : Int)) (kt : x ≤ y → Z kc ks tgt lv st ws) (kf : ¬ x ≤ y → Z kc ks (pc + 3) lv st ws) : Z kc ks pc lv (.inl y :: .inl x :: st) ws := by
  obtain ⟨p, e, s, m, args, below, meth, c, Q, A, hx, hb, hml, hown, hts, hK, hA, hE, hEs, hin, hri, hrv, rfl⟩ := B
  intro H locs ls r1 r2 r3 r4 hP hD hS hl
  obtain ⟨ry, rr⟩ := List.forall_mem_cons.mp r2
  obtain ⟨rx, rr⟩ := List.forall_mem_cons.mp rr
  have rx : zR x := rx
  have ry : zR y := ry
  refine lv_icmp_le (x := iZ x) (y := iZ y) hx hb hd ht (fun q => ?_) (fun q => ?_)
  · exact kt ((iZ_le rx ry).mp q) H locs ls r1 rr r3 r4 hP hD hS hl
  · exact kf (fun z => q ((iZ_le rx ry).mpr z)) H locs ls r1 rr r3 r4 hP hD hS hl
theorem zB.if_eq (B : zB l D k E cc own nL R mc ms rt ini a0 PR Z) {off : Int} {tgt : Nat} (hd : decode cc pc = .ok (.ifCond .eq off, 3)) (ht : (pc : Int) + off = (tgt : Int)) (kt : x = 0 → Z kc ks tgt lv st ws) (kf : ¬ x = 0 → Z kc ks (pc + 3) lv st ws) : Z kc ks pc lv (.inl x :: st) ws := by
  obtain ⟨p, e, s, m, args, below, meth, c, Q, A, hx, hb, hml, hown, hts, hK, hA, hE, hEs, hin, hri, hrv, rfl⟩ := B
  intro H locs ls r1 r2 r3 r4 hP hD hS hl
  obtain ⟨rx, rr⟩ := List.forall_mem_cons.mp r2
  have rx : zR x := rx
  refine lv_if_eq (x := iZ x) hx hb hd ht (fun q => ?_) (fun q => ?_) <;> rw [← iZ_0] at q
  · exact kt ((iZ_eq rx zR_0).mp q) H locs ls r1 rr r3 r4 hP hD hS hl
  · exact kf (fun z => q ((iZ_eq rx zR_0).mpr z)) H locs ls r1 rr r3 r4 hP hD hS hl
theorem zB.if_ne (B : zB l D k E cc own nL R mc ms rt ini a0 PR Z) {off : Int} {tgt : Nat} (hd : decode cc pc = .ok (.ifCond .ne off, 3)) (ht : (pc : Int) + off = (tgt : Int)) (kt : x ≠ 0 → Z kc ks tgt lv st ws) (kf : x = 0 → Z kc ks (pc + 3) lv st ws) : Z kc ks pc lv (.inl x :: st) ws := by
  obtain ⟨p, e, s, m, args, below, meth, c, Q, A, hx, hb, hml, hown, hts, hK, hA, hE, hEs, hin, hri, hrv, rfl⟩ := B
  intro H locs ls r1 r2 r3 r4 hP hD hS hl
  obtain ⟨rx, rr⟩ := List.forall_mem_cons.mp r2
  have rx : zR x := rx
  refine lv_if_ne (x := iZ x) hx hb hd ht (fun q => ?_) (fun q => ?_) <;> rw [← iZ_0] at q
  · exact kt (fun z => q ((iZ_eq rx zR_0).mpr z)) H locs ls r1 rr r3 r4 hP hD hS hl
  · exact kf ((iZ_eq rx zR_0).mp (q)) H locs ls r1 rr r3 r4 hP hD hS hl
theorem zB.if_lt (B : zB l D k E cc own nL R mc ms rt ini a0 PR Z) {off : Int} {tgt : Nat} (hd : decode cc pc = .ok (.ifCond .lt off, 3)) (ht : (pc : Int) + off = (tgt : Int)) (kt : x < 0 → Z kc ks tgt lv st ws) (kf : ¬ x < 0 → Z kc ks (pc + 3) lv st ws) : Z kc ks pc lv (.inl x :: st) ws := by
  obtain ⟨p, e, s, m, args, below, meth, c, Q, A, hx, hb, hml, hown, hts, hK, hA, hE, hEs, hin, hri, hrv, rfl⟩ := B
  intro H locs ls r1 r2 r3 r4 hP hD hS hl
  obtain ⟨rx, rr⟩ := List.forall_mem_cons.mp r2
  have rx : zR x := rx
  refine lv_if_lt (x := iZ x) hx hb hd ht (fun q => ?_) (fun q => ?_) <;> rw [← iZ_0] at q
  · exact kt ((iZ_lt rx zR_0).mp q) H locs ls r1 rr r3 r4 hP hD hS hl
  · exact kf (fun z => q ((iZ_lt rx zR_0).mpr z)) H locs ls r1 rr r3 r4 hP hD hS hl
theorem zB.if_ge (B : zB l D k E cc own nL R mc ms rt ini a0 PR Z) {off : Int} {tgt : Nat} (hd : decode cc pc = .ok (.ifCond .ge off, 3)) (ht : (pc : Int) + off = (tgt : Int)) (kt : 0 ≤ x → Z kc ks tgt lv st ws) (kf : ¬ 0 ≤ x → Z kc ks (pc + 3) lv st ws) : Z kc ks pc lv (.inl x :: st) ws := by
  obtain ⟨p, e, s, m, args, below, meth, c, Q, A, hx, hb, hml, hown, hts, hK, hA, hE, hEs, hin, hri, hrv, rfl⟩ := B
  intro H locs ls r1 r2 r3 r4 hP hD hS hl
  obtain ⟨rx, rr⟩ := List.forall_mem_cons.mp r2
  have rx : zR x := rx
  refine lv_if_ge (x := iZ x) hx hb hd ht (fun q => ?_) (fun q => ?_) <;> rw [← iZ_0] at q
  · exact kt ((iZ_le zR_0 rx).mp q) H locs ls r1 rr r3 r4 hP hD hS hl
  · exact kf (fun z => q ((iZ_le zR_0 rx).mpr z)) H locs ls r1 rr r3 r4 hP hD hS hl
theorem zB.if_gt (B : zB l D k E cc own nL R mc ms rt ini a0 PR Z) {off : Int} {tgt : Nat} (hd : decode cc pc = .ok (.ifCond .gt off, 3)) (ht : (pc : Int) + off = (tgt : Int)) (kt : 0 < x → Z kc ks tgt lv st ws) (kf : ¬ 0 < x → Z kc ks (pc + 3) lv st ws) : Z kc ks pc lv (.inl x :: st) ws := by
  obtain ⟨p, e, s, m, args, below, meth, c, Q, A, hx, hb, hml, hown, hts, hK, hA, hE, hEs, hin, hri, hrv, rfl⟩ := B
  intro H locs ls r1 r2 r3 r4 hP hD hS hl
  obtain ⟨rx, rr⟩ := List.forall_mem_cons.mp r2
  have rx : zR x := rx
  refine lv_if_gt (x := iZ x) hx hb hd ht (fun q => ?_) (fun q => ?_) <;> rw [← iZ_0] at q
  · exact kt ((iZ_lt zR_0 rx).mp q) H locs ls r1 rr r3 r4 hP hD hS hl
  · exact kf (fun z => q ((iZ_lt zR_0 rx).mpr z)) H locs ls r1 rr r3 r4 hP hD hS hl
theorem zB.if_le (B : zB l D k E cc own nL R mc ms rt ini a0 PR Z) {off : Int} {tgt : Nat} (hd : decode cc pc = .ok (.ifCond .le off, 3)) (ht : (pc : Int) + off = (tgt : Int)) (kt : x ≤ 0 → Z kc ks tgt lv st ws) (kf : ¬ x ≤ 0 → Z kc ks (pc + 3) lv st ws) : Z kc ks pc lv (.inl x :: st) ws := by
  obtain ⟨p, e, s, m, args, below, meth, c, Q, A, hx, hb, hml, hown, hts, hK, hA, hE, hEs, hin, hri, hrv, rfl⟩ := B
  intro H locs ls r1 r2 r3 r4 hP hD hS hl
  obtain ⟨rx, rr⟩ := List.forall_mem_cons.mp r2
  have rx : zR x := rx
  refine lv_if_le (x := iZ x) hx hb hd ht (fun q => ?_) (fun q => ?_) <;> rw [← iZ_0] at q
  · exact kt ((iZ_le rx zR_0).mp q) H locs ls r1 rr r3 r4 hP hD hS hl
  · exact kf (fun z => q ((iZ_le rx zR_0).mpr z)) H locs ls r1 rr r3 r4 hP hD hS hl
end ZB
