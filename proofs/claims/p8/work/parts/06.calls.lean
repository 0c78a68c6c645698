/-! CONTRACTS over plain worlds, how a walk gives one, how a call takes one -/
def zPre (D : va_G) (k : zK) (E : zE) (av : List zV) (wc : zW) (sz : Nat) : Array Value → State → Prop := va_Pc (av.map zv) (fun U => U.heap.size = sz ∧ va_P D vwCl (zw k wc) U.heap ∧ va_K D vwCl (zty k) U ∧ va_D (fun _ => True) (zw k wc) ∧ E (va_A (zw k wc) sz) U U.heap)
def zQi (D : va_G) (k : zK) (wc : zW) (sz : Nat) (Po : Int → zW → Prop) : Array Value → State → Outcome → State → Prop := va_Qi (fun (r : Int32) (u : zW) => ∃ z : Int, r = iZ z ∧ zR z ∧ zWr u ∧ wc.map Prod.fst <+: u.map Prod.fst ∧ Po z u) (fun u t => va_P D vwCl (zw k u) t.heap ∧ va_D (va_A (zw k wc) sz) (zw k u)) (va_A (zw k wc) sz)
def zQv (D : va_G) (k : zK) (wc : zW) (sz : Nat) (Po : Int → zW → Prop) : Array Value → State → Outcome → State → Prop := va_Qv (fun (u : zW) => zWr u ∧ wc.map Prod.fst <+: u.map Prod.fst ∧ Po 0 u) (fun u t => va_P D vwCl (zw k u) t.heap ∧ va_D (va_A (zw k wc) sz) (zw k u)) (va_A (zw k wc) sz)
/-- a method that answers an int (a boolean): Pre of arguments and cells, Post of arguments, cells, answer, cells behind it -/
def zMi (l : Launch) (D : va_G) (k : zK) (E : zE) (y : MethodName) (b : ByteArray) (n : Nat) (rt : FieldType) (rm : Room) (mc ms : Nat) (av : List zV) (wc : zW) (P : Prop) (Po : Int → zW → Prop) : Prop :=
  ∀ (sz : Nat), zWr wc → (∀ v ∈ av, zVr v) → P → Met l y (Cond.code y b n (some rt) :: zTs) rm (zPre D k E av wc sz) (zQi D k wc sz Po) mc ms (va_A (zw k wc) sz)
def zMv (l : Launch) (D : va_G) (k : zK) (E : zE) (y : MethodName) (b : ByteArray) (n : Nat) (rm : Room) (mc ms : Nat) (av : List zV) (wc : zW) (P : Prop) (Po : Int → zW → Prop) : Prop :=
  ∀ (sz : Nat), zWr wc → (∀ v ∈ av, zVr v) → P → Met l y (Cond.code y b n none :: zTs) rm (zPre D k E av wc sz) (zQv D k wc sz Po) mc ms (va_A (zw k wc) sz)
/-- locals at the entry -/
def zlv (n : Nat) (av : List zV) : List (Option zV) := av.map some ++ List.replicate (n - av.length) none
theorem zsl_len (av : List zV) : (lg_sl (av.map zv)).length = av.length := by
  induction av with
  | nil => rfl
  | cons v av ih =>
    have h : ¬ (zv v).category = 2 := by rw [zcat]; decide
    simp only [lg_sl, List.map_cons, List.flatMap_cons, if_neg h, List.length_append, List.length_cons, List.length_nil] at ih ⊢
    omega
theorem zargs_mem (av : List zV) : ∀ (j i : Nat) (v : zV), av[i]? = some v → (j + i, zv v) ∈ lv_args j (av.map zv) := by
  induction av with
  | nil => intro j i v h; simp at h
  | cons w av ih =>
    intro j i v h
    have hc : ¬ (zv w).category = 2 := by rw [zcat]; decide
    simp only [List.map_cons, lv_args, if_neg hc]
    cases i with
    | zero =>
      simp at h
      subst h
      exact List.mem_cons_self
    | succ i =>
      simp at h
      have := ih (j + 1) i v h
      rw [show j + (i + 1) = j + 1 + i by omega]
      exact List.mem_cons_of_mem _ this
theorem zargs_cat (av : List zV) : ∀ (j : Nat), ∀ q ∈ lv_args j (av.map zv), q.2.category = 1 := by
  induction av with
  | nil => intro j q h; simp [lv_args] at h
  | cons w av ih =>
    intro j q h
    have hc : ¬ (zv w).category = 2 := by rw [zcat]; decide
    simp only [List.map_cons, lv_args, if_neg hc] at h
    rcases List.mem_cons.mp h with rfl | h
    · exact zcat w
    · exact ih _ q h
theorem zlv_at {n i : Nat} {av : List zV} {v : zV} (h : (zlv n av)[i]? = some (some v)) : av[i]? = some v := by
  unfold zlv at h
  by_cases hi : i < av.length
  · rw [List.getElem?_append_left (by simpa using hi), List.getElem?_map] at h
    cases hv : av[i]? with
    | none => rw [hv] at h; cases h
    | some w => rw [hv] at h; simp at h; rw [h]
  · rw [List.getElem?_append_right (by simpa using hi), List.getElem?_replicate] at h
    split at h <;> simp at h
theorem zL_entry {n : Nat} (av : List zV) (h : av.length ≤ n) : zL ((lg_sl (av.map zv) ++ List.replicate (n - (lg_sl (av.map zv)).length) Slot.unset).toArray) n (zlv n av) := by
  refine ⟨lv_args 0 (av.map zv), lv_entry (av.map zv) (by rw [zsl_len]; exact h), zargs_cat av 0, fun i v hi => ?_⟩
  have := zargs_mem av 0 i v (zlv_at hi)
  rwa [Nat.zero_add] at this
theorem zMi.of {l : Launch} {D : va_G} {k : zK} {E : zE} {y : MethodName} {b : ByteArray} {n : Nat} {rt : FieldType} {rm : Room} {mc ms : Nat} {av : List zV} {wc : zW} {P : Prop} {Po : Int → zW → Prop} (own : String) (hE : zEok E) (hy : plainName y.cls = true) (ho : y.cls = own)
    (hlen : av.length ≤ n) (hnar : ∀ z u, P → Po z u → narrow rt (.int (iZ z)) = .int (iZ z))
    (walk : ∀ Z, P → (∀ v ∈ av, zVr v) → zWr wc → zB l D k E b own n rm mc ms (some rt) False (wc.map Prod.fst) Po Z → Z 0 0 0 (zlv n av) [] wc) : zMi l D k E y b n rt rm mc ms av wc P Po := by
  intro sz hr hav hpre
  refine Met.ofW (cc := b) (maxL := n) (ret := some rt) hy rfl ?_
  intro p e s m args below meth c s₁ Bd hml hv
  obtain ⟨rfl, hsz, hP, hK, hD0, hEs⟩ := hv
  have hx := Bd.exec
  have hb := Bd.bytes
  have hrt := Bd.returns
  have hts0 := atoms_spec (ws := Cond.code y b n (some rt) :: zTs) Bd.pre
  have hown : s.vm.findClass own = some m.cls := ho ▸ findClass_of_methodNamed Bd.named
  have hlocks := Bd.notSynchronized
  subst hsz
  have hD := hD0.self (sz := s.heap.size)
  rw [lg_entry_eq]
  refine walk (zS p l e rm s m (av.map zv).toArray below meth c (MQ below (zQi D k wc s.heap.size Po) (av.map zv).toArray s mc ms (va_A (zw k wc) s.heap.size)) (va_A (zw k wc) s.heap.size) D k n (wc.map Prod.fst)) hpre hav hr
    ⟨p, e, s, m, (av.map zv).toArray, below, meth, c, (MQ below (zQi D k wc s.heap.size Po) (av.map zv).toArray s mc ms (va_A (zw k wc) s.heap.size)), va_A (zw k wc) s.heap.size, hx, hb, hml, hown, fun w hw => hts0 w (List.mem_cons_of_mem _ hw), hK, fun q h => Or.inr h, hE, hEs, fun h => h.elim, ?_, fun _ _ _ _ _ h => absurd h (Option.some_ne_none _), rfl⟩ s.heap [] _ hr (fun _ h => by cases h) (fun i v hi => hav v (List.mem_of_getElem? (zlv_at hi))) (List.prefix_refl _) hP hD va_S.rf (zL_entry av hlen)
  intro H locs ls pc z ws _ hd rz rw0 ra hPR hP1 hD1 hS1
  exact W.zret (v := iZ z) hx hb hrt (hnar z ws hpre hPR) (fun t ht hW => ⟨⟨iZ z, ws, rfl, ⟨z, rfl, rz, rw0, ra, hPR⟩, by rw [ht]; exact hP1, hD1⟩, hS1.F ht⟩) hS1.2.2 hd
theorem zMv.of {l : Launch} {D : va_G} {k : zK} {E : zE} {y : MethodName} {b : ByteArray} {n : Nat} {rm : Room} {mc ms : Nat} {av : List zV} {wc : zW} {P : Prop} {Po : Int → zW → Prop} (own : String) (hE : zEok E) (hy : plainName y.cls = true) (ho : y.cls = own)
    (hlen : av.length ≤ n)
    (walk : ∀ Z, P → (∀ v ∈ av, zVr v) → zWr wc → zB l D k E b own n rm mc ms none (y.name = "<init>") (wc.map Prod.fst) Po Z → Z 0 0 0 (zlv n av) [] wc) : zMv l D k E y b n rm mc ms av wc P Po := by
  intro sz hr hav hpre
  refine Met.ofW (cc := b) (maxL := n) (ret := none) hy rfl ?_
  intro p e s m args below meth c s₁ Bd hml hv
  obtain ⟨rfl, hsz, hP, hK, hD0, hEs⟩ := hv
  have hx := Bd.exec
  have hb := Bd.bytes
  have hrt := Bd.returns
  have hts0 := atoms_spec (ws := Cond.code y b n none :: zTs) Bd.pre
  have hown : s.vm.findClass own = some m.cls := ho ▸ findClass_of_methodNamed Bd.named
  have hlocks := Bd.notSynchronized
  subst hsz
  have hD := hD0.self (sz := s.heap.size)
  rw [lg_entry_eq]
  refine walk (zS p l e rm s m (av.map zv).toArray below meth c (MQ below (zQv D k wc s.heap.size Po) (av.map zv).toArray s mc ms (va_A (zw k wc) s.heap.size)) (va_A (zw k wc) s.heap.size) D k n (wc.map Prod.fst)) hpre hav hr
    ⟨p, e, s, m, (av.map zv).toArray, below, meth, c, (MQ below (zQv D k wc s.heap.size Po) (av.map zv).toArray s mc ms (va_A (zw k wc) s.heap.size)), va_A (zw k wc) s.heap.size, hx, hb, hml, hown, fun w hw => hts0 w (List.mem_cons_of_mem _ hw), hK, fun q h => Or.inr h, hE, hEs, fun h => (name_of_methodNamed Bd.named Bd.method).1.trans h, fun _ _ _ _ _ _ h => absurd rfl h, ?_, rfl⟩ s.heap [] _ hr (fun _ h => by cases h) (fun i v hi => hav v (List.mem_of_getElem? (zlv_at hi))) (List.prefix_refl _) hP hD va_S.rf (zL_entry av hlen)
  intro H locs ls pc ws _ hd rw0 ra hPR hP1 hD1 hS1
  exact W.vret hx hb hrt (fun t ht hW => ⟨⟨ws, rfl, ⟨rw0, ra, hPR⟩, by rw [ht]; exact hP1, hD1⟩, hS1.F ht⟩) hS1.2.2 hd
-- what a call leaves
theorem zput_len : ∀ (is : List Nat) (ws u : zW), is.length ≤ u.length → (zput ws is u).length = ws.length + (u.length - is.length)
  | [], ws, u, _ => by simp [zput]
  | i :: is, ws, [], h => by simp at h
  | i :: is, ws, c :: u, h => by
    rw [zput, zput_len is (ws.set i c) u (by simpa using h)]
    simp
theorem zput_out : ∀ (is : List Nat) (ws u : zW) (j : Nat), j < ws.length → j ∉ is → (zput ws is u)[j]? = ws[j]?
  | [], ws, u, j, hj, _ => by rw [zput, List.getElem?_append_left hj]
  | i :: is, ws, [], j, hj, _ => by rw [zput]
  | i :: is, ws, c :: u, j, hj, hn => by
    rw [zput, zput_out is (ws.set i c) u j (by simpa using hj) (fun h => hn (List.mem_cons_of_mem _ h))]
    exact List.getElem?_set_ne (fun h => hn (by rw [h]; exact List.mem_cons_self))
theorem zput_in : ∀ (is : List Nat) (ws u : zW) (r i : Nat), va_nd is = true → is.length ≤ u.length → is[r]? = some i → i < ws.length → (zput ws is u)[i]? = u[r]?
  | [], ws, u, r, i, _, _, h, _ => by simp at h
  | j :: is, ws, [], r, i, _, h, _, _ => by simp at h
  | j :: is, ws, c :: u, r, i, hn, hl, h, hi => by
    simp only [va_nd, Bool.and_eq_true, decide_eq_true_eq] at hn
    rw [zput]
    cases r with
    | zero =>
      simp at h
      subst h
      rw [zput_out is (ws.set j c) u j (by simpa using hi) hn.1]
      simp [hi]
    | succ r =>
      simp at h
      rw [zput_in is (ws.set j c) u r i hn.2 (by simpa using hl) h (by simpa using hi)]
      simp
theorem zput_new : ∀ (is : List Nat) (ws u : zW) (j : Nat), is.length ≤ u.length → (zput ws is u)[ws.length + j]? = u[is.length + j]?
  | [], ws, u, j, _ => by rw [zput, List.getElem?_append_right (by omega)]; simp
  | i :: is, ws, [], j, h => by simp at h
  | i :: is, ws, c :: u, j, h => by
    have := zput_new is (ws.set i c) u j (by simpa using h)
    rw [List.length_set] at this
    rw [zput, this, List.length_cons, show is.length + 1 + j = (is.length + j) + 1 by omega]
    simp
