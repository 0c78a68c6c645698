theorem zw_get {k : zK} {ws : zW} {i : Nat} {q : Nat × va_E} (h : (zw k ws)[i]? = some q) : ∃ x : zC, ws[i]? = some (q.1, x) ∧ q.2 = zc k x := by
  rw [zw, List.getElem?_map] at h
  cases hw : ws[i]? with
  | none => rw [hw] at h; cases h
  | some r =>
    rw [hw] at h
    simp at h
    subst h
    exact ⟨r.2, rfl, rfl⟩
theorem zsub_at {ws wc : zW} {is : List Nat} (h : is.map (fun i => ws[i]?) = wc.map some) {r : Nat} {q : Nat × zC} (hr : wc[r]? = some q) : ∃ i, is[r]? = some i ∧ ws[i]? = some q := by
  have h1 : (is.map (fun i => ws[i]?))[r]? = some (some q) := by rw [h, List.getElem?_map, hr]; rfl
  rw [List.getElem?_map] at h1
  cases hi : is[r]? with
  | none => rw [hi] at h1; cases h1
  | some i => rw [hi] at h1; exact ⟨i, rfl, Option.some.inj h1⟩
theorem zsub_len {ws wc : zW} {is : List Nat} (h : is.map (fun i => ws[i]?) = wc.map some) : is.length = wc.length := by
  have := congrArg List.length h
  simpa using this
theorem zsub_zw {k : zK} {ws wc : zW} {is : List Nat} (h : is.map (fun i => ws[i]?) = wc.map some) : is.map (fun i => (zw k ws)[i]?) = (zw k wc).map some := by
  have e : ∀ i : Nat, (zw k ws)[i]? = (ws[i]?).map (fun q : Nat × zC => (q.1, zc k q.2)) := fun i => by rw [zw, List.getElem?_map]
  have h2 := congrArg (List.map (Option.map (fun q : Nat × zC => (q.1, zc k q.2)))) h
  simp only [List.map_map] at h2
  have e1 : is.map (fun i => (zw k ws)[i]?) = is.map (Option.map (fun q : Nat × zC => (q.1, zc k q.2)) ∘ fun i => ws[i]?) := List.map_congr_left (fun i _ => e i)
  rw [e1, h2]
  simp [zw, Function.comp_def]
theorem zjoin {A : Nat → Prop} {D : va_G} {k : zK} {ws wc u : zW} {H H1 : Heap} {is : List Nat} (hP : va_P D vwCl (zw k ws) H) (hD : va_D A (zw k ws)) (hsub : is.map (fun i => ws[i]?) = wc.map some) (hnd : va_nd is = true)
    (hk : ∀ q : Nat, q < H.size → ¬ va_A (zw k wc) H.size q → H1[q]? = H[q]?) (hF : ∀ q, va_A (zw k wc) H.size q → A q) (hP1 : va_P D vwCl (zw k u) H1) (hD1 : va_D (va_A (zw k wc) H.size) (zw k u)) (ha : wc.map Prod.fst <+: u.map Prod.fst) :
    va_P D vwCl (zw k (zput ws is u)) H1 ∧ va_D A (zw k (zput ws is u)) ∧ (zput ws is u).map Prod.fst = ws.map Prod.fst ++ (u.map Prod.fst).drop is.length := by
  have hlen : is.length = wc.length := zsub_len hsub
  have hlu : is.length ≤ u.length := by
    have := ha.length_le
    simp at this
    omega
  -- the address of u's r-th is wc's
  have hadr : ∀ (r : Nat) (q : Nat × zC), wc[r]? = some q → ∃ x, u[r]? = some (q.1, x) := by
    intro r q hr
    obtain ⟨t, ht⟩ := ha
    have h1 : (u.map Prod.fst)[r]? = some q.1 := by
      rw [← ht, List.getElem?_append_left (by have := (List.getElem?_eq_some_iff.mp hr).1; simpa using this), List.getElem?_map, hr]; rfl
    rw [List.getElem?_map] at h1
    cases hu : u[r]? with
    | none => rw [hu] at h1; cases h1
    | some p => rw [hu] at h1; simp at h1; exact ⟨p.2, by rw [← h1]⟩
  -- which entries there are
  have key : ∀ (j a : Nat) (x : zC), (zput ws is u)[j]? = some (a, x) → (∃ r : Nat, is[r]? = some j ∧ u[r]? = some (a, x) ∧ ∃ y : zC, ws[j]? = some (a, y)) ∨ (j ∉ is ∧ ws[j]? = some (a, x)) ∨ (ws.length ≤ j ∧ u[is.length + (j - ws.length)]? = some (a, x)) := by
    intro j a x hj
    by_cases hlt : j < ws.length
    · by_cases hin : j ∈ is
      · obtain ⟨r, hr⟩ := List.getElem?_of_mem hin
        have h1 := zput_in is ws u r j hnd hlu hr hlt
        rw [hj] at h1
        have hrl : r < wc.length := by rw [← hlen]; exact (List.getElem?_eq_some_iff.mp hr).1
        obtain ⟨i, hi, hwi⟩ := zsub_at hsub (List.getElem?_eq_getElem hrl)
        rw [hr] at hi
        cases hi
        obtain ⟨x', hx'⟩ := hadr r _ (List.getElem?_eq_getElem hrl)
        rw [← h1] at hx'
        simp at hx'
        exact Or.inl ⟨r, hr, h1.symm, _, by rw [hwi, hx'.1]⟩
      · rw [zput_out is ws u j hlt hin] at hj
        exact Or.inr (Or.inl ⟨hin, hj⟩)
    · have h1 := zput_new is ws u (j - ws.length) hlu
      rw [show ws.length + (j - ws.length) = j by omega, hj] at h1
      exact Or.inr (Or.inr ⟨by omega, h1.symm⟩)
  -- an old entry that isn't the callee's
  have old : ∀ (j a : Nat) (x : zC), j ∉ is → ws[j]? = some (a, x) → a < H.size ∧ ¬ va_A (zw k wc) H.size a := by
    intro j a x hin hj
    have hl := (hP j _ (zw_at hj)).lt
    refine ⟨hl, fun h => ?_⟩
    rcases h with ⟨r, e, h⟩ | h
    · obtain ⟨y, hy, -⟩ := zw_get h
      obtain ⟨i, hi, hwi⟩ := zsub_at hsub hy
      have := hD.1 j i _ _ (zw_at hj) (zw_at hwi) rfl
      subst this
      exact hin (List.mem_of_getElem? hi)
    · exact absurd h (by have : a < H.size := hl; omega)
  refine ⟨?_, ⟨?_, ?_⟩, ?_⟩
  · intro j q hq
    obtain ⟨x, hx, he⟩ := zw_get hq
    obtain ⟨a, e⟩ := q
    simp only at hx he
    subst he
    rcases key j a x hx with ⟨r, -, hu, -⟩ | ⟨hin, hw⟩ | ⟨-, hu⟩
    · exact hP1 r _ (zw_at hu)
    · obtain ⟨h1, h2⟩ := old j a x hin hw
      exact (hP j _ (zw_at hw)).kept (hk a h1 h2)
    · exact hP1 _ _ (zw_at hu)
  · intro i j p q hi hj hpq
    obtain ⟨x, hx, -⟩ := zw_get hi
    obtain ⟨y, hy, -⟩ := zw_get hj
    rw [hpq] at hx
    rcases key i _ x hx with ⟨r, hr, hu, y1, hw⟩ | ⟨hin, hw⟩ | ⟨hge, hu⟩ <;> rcases key j _ y hy with ⟨r', hr', hu', y1', hw'⟩ | ⟨hin', hw'⟩ | ⟨hge', hu'⟩
    · exact hD.1 i j _ _ (zw_at hw) (zw_at hw') rfl
    · exact hD.1 i j _ _ (zw_at hw) (zw_at hw') rfl
    · have := hD1.1 _ _ _ _ (zw_at hu) (zw_at hu') rfl
      have := (List.getElem?_eq_some_iff.mp hr).1
      omega
    · exact hD.1 i j _ _ (zw_at hw) (zw_at hw') rfl
    · exact hD.1 i j _ _ (zw_at hw) (zw_at hw') rfl
    · exact absurd (hD1.2 _ _ (zw_at hu')) (old i _ x hin hw).2
    · have := hD1.1 _ _ _ _ (zw_at hu) (zw_at hu') rfl
      have := (List.getElem?_eq_some_iff.mp hr').1
      omega
    · exact absurd (hD1.2 _ _ (zw_at hu)) (old j _ y hin' hw').2
    · have := hD1.1 _ _ _ _ (zw_at hu) (zw_at hu') rfl
      omega
  · intro j q hq
    obtain ⟨x, hx, -⟩ := zw_get hq
    rcases key j _ x hx with ⟨r, -, -, y, hw⟩ | ⟨-, hw⟩ | ⟨-, hu⟩
    · have := hD.2 j _ (zw_at (k := k) hw); exact this
    · have := hD.2 j _ (zw_at (k := k) hw); exact this
    · have := hF _ (hD1.2 _ _ (zw_at (k := k) hu)); exact this
  · apply List.ext_getElem?
    intro j
    rw [List.getElem?_map]
    by_cases hlt : j < ws.length
    · rw [List.getElem?_append_left (by simpa using hlt), List.getElem?_map]
      have hl2 : j < (zput ws is u).length := by rw [zput_len is ws u hlu]; omega
      rw [List.getElem?_eq_getElem hl2]
      rcases key j _ _ (List.getElem?_eq_getElem hl2) with ⟨r, -, -, y, hw⟩ | ⟨-, hw⟩ | ⟨hge, -⟩
      · rw [hw]; rfl
      · rw [hw]; rfl
      · omega
    · have h1 := zput_new is ws u (j - ws.length) hlu
      rw [show ws.length + (j - ws.length) = j by omega] at h1
      rw [h1, List.getElem?_append_right (by simpa using hlt), List.getElem?_drop, List.getElem?_map]
      simp
theorem zput_r : ∀ (is : List Nat) (ws u : zW), zWr ws → zWr u → zWr (zput ws is u)
  | [], ws, u, h1, h2 => fun q hq => by
    rw [zput] at hq
    exact (List.mem_append.mp hq).elim (h1 q) (h2 q)
  | i :: is, ws, [], h1, h2 => by rw [zput]; exact h1
  | i :: is, ws, c :: u, h1, h2 => by
    rw [zput]
    refine zput_r is (ws.set i c) u ?_ (fun q hq => h2 q (List.mem_cons_of_mem _ hq))
    intro q hq
    rcases List.mem_or_eq_of_mem_set hq with h | h
    · exact h1 q h
    · rw [h]; exact h2 c List.mem_cons_self
theorem zpre_blind {D : va_G} {k : zK} {E : zE} (hE : zEok E) (av : List zV) (wc : zW) (sz : Nat) : FrameBlind (zPre D k E av wc sz) := by
  intro a U g mk q
  obtain ⟨q0, q1, qP, qK, qD, qE⟩ := q
  exact ⟨q0, q1, qP, va_K.moved (u := U) (U := U.calling g mk a) (Vm.Alike.refl U.vm) qK, qD, hE.2.1 _ U _ _ rfl qE⟩
theorem zgoodV {own C : String} {idx n : Nat} {y : MethodName} {b : ByteArray} {r : Option FieldType} (h1 : Cond.methodLink own idx y ∈ zTs) (h2 : Cond.instanceMethod y ∈ zTs) (h3 : Cond.selects C y y ∈ zTs) (h4 : Cond.initialized C ∈ zTs) (h5 : Cond.code y b n r ∈ zTs) : GoodIn zTs (wsV own idx C y (Cond.code y b n r :: zTs)) := by
  intro w hw
  have hm : w ∈ zTs := by
    rcases List.mem_append.mp hw with h | h
    · simp only [List.mem_cons, List.not_mem_nil, or_false] at h
      rcases h with rfl | rfl | rfl | rfl
      · exact h1
      · exact h2
      · exact h3
      · exact h4
    · rcases List.mem_cons.mp h with rfl | h
      · exact h5
      · exact h
  exact ⟨hm, good_of_word (zTs_good hm)⟩
theorem zgoodS {own : String} {idx n : Nat} {y : MethodName} {b : ByteArray} {r : Option FieldType} (h1 : Cond.methodLink own idx y ∈ zTs) (h2 : Cond.static y ∈ zTs) (h4 : Cond.initialized own ∈ zTs) (h5 : Cond.code y b n r ∈ zTs) : GoodIn zTs (wsS own idx y (Cond.code y b n r :: zTs)) := by
  intro w hw
  have hm : w ∈ zTs := by
    rcases List.mem_append.mp hw with h | h
    · simp only [List.mem_cons, List.not_mem_nil, or_false] at h
      rcases h with rfl | rfl | rfl
      · exact h1
      · exact h2
      · exact h4
    · rcases List.mem_cons.mp h with rfl | h
      · exact h5
      · exact h
  exact ⟨hm, good_of_word (zTs_good hm)⟩
theorem zgoodI {n : Nat} {y : MethodName} {b : ByteArray} {r : Option FieldType} (h5 : Cond.code y b n r ∈ zTs) : GoodIn zTs (Cond.code y b n r :: zTs) := by
  intro w hw
  have hm : w ∈ zTs := by
    rcases List.mem_cons.mp hw with rfl | h
    · exact h5
    · exact h
  exact ⟨hm, good_of_word (zTs_good hm)⟩
