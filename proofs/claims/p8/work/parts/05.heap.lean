section ZH
variable {l : Launch} {D : va_G} {k : zK} {E : zE} {cc : ByteArray} {own : String} {nL : Nat} {R : Room} {mc ms : Nat} {rt : Option FieldType} {ini : Prop} {a0 : List Nat} {PR : Int → zW → Prop} {Z : zP}
variable {kc ks pc : Nat} {lv : List (Option zV)} {st : List zV} {ws : zW} {x y : Int}
/-- ranges of what is held -/
theorem zB.rst (B : zB l D k E cc own nL R mc ms rt ini a0 PR Z) (h : zR x → Z kc ks pc lv (.inl x :: st) ws) : Z kc ks pc lv (.inl x :: st) ws := by
  obtain ⟨p, e, s, m, args, below, meth, c, Q, A, hx, hb, hml, hown, hts, hK, hA, hE, hEs, hin, hri, hrv, rfl⟩ := B
  intro H locs ls r1 r2 r3 r4 hP hD hS hl
  exact h (r2 _ List.mem_cons_self) H locs ls r1 r2 r3 r4 hP hD hS hl
theorem zB.rlv (B : zB l D k E cc own nL R mc ms rt ini a0 PR Z) (i : Nat) (hi : lv[i]? = some (some (.inl x))) (h : zR x → Z kc ks pc lv st ws) : Z kc ks pc lv st ws := by
  obtain ⟨p, e, s, m, args, below, meth, c, Q, A, hx, hb, hml, hown, hts, hK, hA, hE, hEs, hin, hri, hrv, rfl⟩ := B
  intro H locs ls r1 r2 r3 r4 hP hD hS hl
  exact h (r3 i _ hi) H locs ls r1 r2 r3 r4 hP hD hS hl
theorem zB.rws (B : zB l D k E cc own nL R mc ms rt ini a0 PR Z) (h : zWr ws → Z kc ks pc lv st ws) : Z kc ks pc lv st ws := by
  obtain ⟨p, e, s, m, args, below, meth, c, Q, A, hx, hb, hml, hown, hts, hK, hA, hE, hEs, hin, hri, hrv, rfl⟩ := B
  intro H locs ls r1 r2 r3 r4 hP hD hS hl
  exact h r1 H locs ls r1 r2 r3 r4 hP hD hS hl
/-- fewer cells counted is more -/
theorem zB.widen (B : zB l D k E cc own nL R mc ms rt ini a0 PR Z) {kc' ks' : Nat} (h1 : kc ≤ kc') (h2 : ks ≤ ks') (h : Z kc' ks' pc lv st ws) : Z kc ks pc lv st ws := by
  obtain ⟨p, e, s, m, args, below, meth, c, Q, A, hx, hb, hml, hown, hts, hK, hA, hE, hEs, hin, hri, hrv, rfl⟩ := B
  intro H locs ls r1 r2 r3 r4 hP hD hS hl
  exact W.widen h1 h2 (h H locs ls r1 r2 r3 r4 hP hD hS hl)
-- fields
theorem zB.getfield (B : zB l D k E cc own nL R mc ms rt ini a0 PR Z) {a index ci N : Nat} {C : String} {T : u_T} {fs : List zV} {v : zV} (i : Nat) (hi : ws[i]? = some (a, .inr (.inr (ci, fs)))) (hc : vwCl[ci]? = some (C, T, N)) (hin : ∀ w ∈ u_ws C T N, w ∈ zTs) (j : Nat) (hj : j < N) (hlink : Cond.fieldLink own index (T j).1 (T j).2.1 (T j).2.2.1 ∈ zTs) (hv : fs[j]? = some v) (hd : decode cc pc = .ok (.getfield index, 3))
    (h : Z kc ks (pc + 3) lv (v :: st) ws) : Z kc ks pc lv (.inr (some a) :: st) ws := by
  obtain ⟨p, e, s, m, args, below, meth, c, Q, A, hx, hb, hml, hown, hts, hK, hA, hE, hEs, hin0, hri, hrv, rfl⟩ := B
  intro H locs ls r1 r2 r3 r4 hP hD hS hl
  refine va_get (D := D) (v := zv v) hx hb hts hin hown hK hP i (zw_at hi) hc j hj (hts _ hlink) (fun _ q => q) (by rw [List.getElem?_map, hv]; rfl) hd ?_
  exact h H locs ls r1 (List.forall_mem_cons.mpr ⟨zWr_at r1 hi v (List.mem_of_getElem? hv), (List.forall_mem_cons.mp r2).2⟩) r3 r4 hP hD hS hl
theorem zCr_fs {ci j : Nat} {fs : List zV} {v : zV} (h : zCr (.inr (.inr (ci, fs)))) (hv : zVr v) : zCr (.inr (.inr (ci, fs.set j v))) := by
  intro q hq
  rcases List.mem_or_eq_of_mem_set hq with h1 | h1
  · exact h q h1
  · rw [h1]; exact hv
theorem zB.putfield (B : zB l D k E cc own nL R mc ms rt ini a0 PR Z) {a index ci N : Nat} {C : String} {T : u_T} {fs : List zV} {v : zV} (i : Nat) (hi : ws[i]? = some (a, .inr (.inr (ci, fs)))) (hc : vwCl[ci]? = some (C, T, N)) (hin : ∀ w ∈ u_ws C T N, w ∈ zTs) (ty0 : Nat → FieldType) (hty : ∀ k, k < N → parseFieldDescriptor (T k).2.2.1 = some (ty0 k)) (hnm : ∀ a, a < N → ∀ b, b < N → a ≠ b → (T a).2.1 ≠ (T b).2.1) (j : Nat) (hj : j < N) (hlink : Cond.fieldLink own index (T j).1 (T j).2.1 (T j).2.2.1 ∈ zTs) (hf : (T j).2.2.2 = false) (hn : narrow (ty0 j) (zv v) = zv v) (hfit : fits (ty0 j) (zv v) = true) (hl0 : j < fs.length) (hd : decode cc pc = .ok (.putfield index, 3))
    (h : Z kc ks (pc + 3) lv st (ws.set i (a, .inr (.inr (ci, fs.set j v))))) : Z kc ks pc lv (v :: .inr (some a) :: st) ws := by
  obtain ⟨p, e, s, m, args, below, meth, c, Q, A, hx, hb, hml, hown, hts, hK, hA, hE, hEs, hin0, hri, hrv, rfl⟩ := B
  intro H locs ls r1 r2 r3 r4 hP hD hS hl
  obtain ⟨rv, rr⟩ := List.forall_mem_cons.mp r2
  refine va_put (D := D) (v := zv v) hx hb hts hin ty0 hty hnm hown hK hP hD hS i (zw_at hi) hc j hj (hts _ hlink) (fun _ q => q) hf (hty j hj) hn hfit (by rw [List.length_map]; exact hl0) hd (fun H1 locs1 hP1 hD1 hS1 => ?_)
  have e2 : (zw k ws).set i (a, .inr (ci, (fs.map zv).set j (zv v))) = zw k (ws.set i (a, .inr (.inr (ci, fs.set j v)))) := by
    rw [← zw_set]; simp [zc, List.map_set]
  rw [e2] at hP1 hD1
  exact h H1 locs1 ls (zWr_set r1 (zCr_fs (zWr_at r1 hi) rv)) (List.forall_mem_cons.mp rr).2 r3 (by rw [zfst_set hi]; exact r4) hP1 hD1 hS1 hl
theorem zB.putfieldF (B : zB l D k E cc own nL R mc ms rt ini a0 PR Z) (hini : ini) {a index ci N : Nat} {C : String} {T : u_T} {fs : List zV} {v : zV} (i : Nat) (hi : ws[i]? = some (a, .inr (.inr (ci, fs)))) (hc : vwCl[ci]? = some (C, T, N)) (hin : ∀ w ∈ u_ws C T N, w ∈ zTs) (ty0 : Nat → FieldType) (hty : ∀ k, k < N → parseFieldDescriptor (T k).2.2.1 = some (ty0 k)) (hnm : ∀ a, a < N → ∀ b, b < N → a ≠ b → (T a).2.1 ≠ (T b).2.1) (j : Nat) (hj : j < N) (hlink : Cond.fieldLink own index (T j).1 (T j).2.1 (T j).2.2.1 ∈ zTs) (hf : (T j).2.2.2 = true) (hdecl : (T j).1 = own) (hn : narrow (ty0 j) (zv v) = zv v) (hfit : fits (ty0 j) (zv v) = true) (hl0 : j < fs.length) (hd : decode cc pc = .ok (.putfield index, 3))
    (h : Z kc ks (pc + 3) lv st (ws.set i (a, .inr (.inr (ci, fs.set j v))))) : Z kc ks pc lv (v :: .inr (some a) :: st) ws := by
  obtain ⟨p, e, s, m, args, below, meth, c, Q, A, hx, hb, hml, hown, hts, hK, hA, hE, hEs, hin0, hri, hrv, rfl⟩ := B
  intro H locs ls r1 r2 r3 r4 hP hD hS hl
  obtain ⟨rv, rr⟩ := List.forall_mem_cons.mp r2
  refine va_putF (D := D) (v := zv v) hx hb hts hin ty0 hty hnm hown hK hP hD hS i (zw_at hi) hc j hj (hts _ hlink) (fun _ q => q) hf (hin0 hini) hdecl (hty j hj) hn hfit (by rw [List.length_map]; exact hl0) hd (fun H1 locs1 hP1 hD1 hS1 => ?_)
  have e2 : (zw k ws).set i (a, .inr (ci, (fs.map zv).set j (zv v))) = zw k (ws.set i (a, .inr (.inr (ci, fs.set j v)))) := by
    rw [← zw_set]; simp [zc, List.map_set]
  rw [e2] at hP1 hD1
  exact h H1 locs1 ls (zWr_set r1 (zCr_fs (zWr_at r1 hi) rv)) (List.forall_mem_cons.mp rr).2 r3 (by rw [zfst_set hi]; exact r4) hP1 hD1 hS1 hl
-- arrays of ints
theorem zB.iaload (B : zB l D k E cc own nL R mc ms rt ini a0 PR Z) {a n : Nat} {g : Nat → Int} (i : Nat) (hi : ws[i]? = some (a, .inl (false, n, g))) (h0 : 0 ≤ x) (h1 : x < n) (hd : decode cc pc = .ok (.iaload, 1))
    (h : zR (g x.toNat) → Z kc ks (pc + 1) lv (.inl (g x.toNat) :: st) ws) : Z kc ks pc lv (.inl x :: .inr (some a) :: st) ws := by
  obtain ⟨p, e, s, m, args, below, meth, c, Q, A, hx, hb, hml, hown, hts, hK, hA, hE, hEs, hin0, hri, hrv, rfl⟩ := B
  intro H locs ls r1 r2 r3 r4 hP hD hS hl
  obtain ⟨rx, rr⟩ := List.forall_mem_cons.mp r2
  have rx : zR x := rx
  refine va_iald (D := D) hx hb hK hP i 0 (zw_at hi) rfl (iZ_in rx h0 h1) hd ?_
  rw [iZ_nat rx h0]
  have hg := zWr_at r1 hi x.toNat
  exact h hg H locs ls r1 (List.forall_mem_cons.mpr ⟨hg, (List.forall_mem_cons.mp rr).2⟩) r3 r4 hP hD hS hl
theorem zB.baload (B : zB l D k E cc own nL R mc ms rt ini a0 PR Z) {a n : Nat} {g : Nat → Int} (i : Nat) (hi : ws[i]? = some (a, .inl (true, n, g))) (h0 : 0 ≤ x) (h1 : x < n) (hd : decode cc pc = .ok (.baload, 1))
    (h : zR (g x.toNat) → Z kc ks (pc + 1) lv (.inl (g x.toNat) :: st) ws) : Z kc ks pc lv (.inl x :: .inr (some a) :: st) ws := by
  obtain ⟨p, e, s, m, args, below, meth, c, Q, A, hx, hb, hml, hown, hts, hK, hA, hE, hEs, hin0, hri, hrv, rfl⟩ := B
  intro H locs ls r1 r2 r3 r4 hP hD hS hl
  obtain ⟨rx, rr⟩ := List.forall_mem_cons.mp r2
  have rx : zR x := rx
  refine va_zald (D := D) hx hb hK hP i 1 (zw_at hi) rfl (iZ_in rx h0 h1) hd ?_
  rw [iZ_nat rx h0]
  have hg := zWr_at r1 hi x.toNat
  exact h hg H locs ls r1 (List.forall_mem_cons.mpr ⟨hg, (List.forall_mem_cons.mp rr).2⟩) r3 r4 hP hD hS hl
theorem zB.iastore (B : zB l D k E cc own nL R mc ms rt ini a0 PR Z) {a n : Nat} {g : Nat → Int} (i : Nat) (hi : ws[i]? = some (a, .inl (false, n, g))) (h0 : 0 ≤ x) (h1 : x < n) (hd : decode cc pc = .ok (.iastore, 1))
    (h : Z kc ks (pc + 1) lv st (ws.set i (a, .inl (false, n, zup g x.toNat y)))) : Z kc ks pc lv (.inl y :: .inl x :: .inr (some a) :: st) ws := by
  obtain ⟨p, e, s, m, args, below, meth, c, Q, A, hx, hb, hml, hown, hts, hK, hA, hE, hEs, hin0, hri, hrv, rfl⟩ := B
  intro H locs ls r1 r2 r3 r4 hP hD hS hl
  obtain ⟨ry, rr⟩ := List.forall_mem_cons.mp r2
  obtain ⟨rx, rr⟩ := List.forall_mem_cons.mp rr
  have rx : zR x := rx
  refine va_iast (D := D) hx hb hK hP hD hS i 0 (zw_at hi) rfl (iZ_in rx h0 h1) hd (fun H1 locs1 hP1 hD1 hS1 => ?_)
  rw [iZ_nat rx h0, iZ_upd] at hP1 hD1
  have e2 : (zw k ws).set i (a, zc k (.inl (false, n, zup g x.toNat y))) = zw k (ws.set i (a, .inl (false, n, zup g x.toNat y))) := zw_set
  exact h H1 locs1 ls (zWr_set r1 (zup_r (zWr_at r1 hi) ry)) (List.forall_mem_cons.mp rr).2 r3 (by rw [zfst_set hi]; exact r4) (by rw [← e2]; exact hP1) (by rw [← e2]; exact hD1) hS1 hl
theorem zB.bastore (B : zB l D k E cc own nL R mc ms rt ini a0 PR Z) {a n : Nat} {g : Nat → Int} (i : Nat) (hi : ws[i]? = some (a, .inl (true, n, g))) (h0 : 0 ≤ x) (h1 : x < n) (hy : vp_nar .boolean (iZ y) = iZ y) (hd : decode cc pc = .ok (.bastore, 1))
    (h : Z kc ks (pc + 1) lv st (ws.set i (a, .inl (true, n, zup g x.toNat y)))) : Z kc ks pc lv (.inl y :: .inl x :: .inr (some a) :: st) ws := by
  obtain ⟨p, e, s, m, args, below, meth, c, Q, A, hx, hb, hml, hown, hts, hK, hA, hE, hEs, hin0, hri, hrv, rfl⟩ := B
  intro H locs ls r1 r2 r3 r4 hP hD hS hl
  obtain ⟨ry, rr⟩ := List.forall_mem_cons.mp r2
  obtain ⟨rx, rr⟩ := List.forall_mem_cons.mp rr
  have rx : zR x := rx
  refine va_zast (D := D) hx hb hK hP hD hS i 1 (zw_at hi) rfl (iZ_in rx h0 h1) hd (fun H1 locs1 hP1 hD1 hS1 => ?_)
  rw [iZ_nat rx h0, hy, iZ_upd] at hP1 hD1
  have e2 : (zw k ws).set i (a, zc k (.inl (true, n, zup g x.toNat y))) = zw k (ws.set i (a, .inl (true, n, zup g x.toNat y))) := zw_set
  exact h H1 locs1 ls (zWr_set r1 (zup_r (zWr_at r1 hi) ry)) (List.forall_mem_cons.mp rr).2 r3 (by rw [zfst_set hi]; exact r4) (by rw [← e2]; exact hP1) (by rw [← e2]; exact hD1) hS1 hl
theorem zB.arraylength (B : zB l D k E cc own nL R mc ms rt ini a0 PR Z) {a n : Nat} {g : Nat → Int} (i : Nat) (hi : ws[i]? = some (a, .inl (false, n, g))) (hn : n ≤ 2147483647) (hd : decode cc pc = .ok (.arraylength, 1))
    (h : Z kc ks (pc + 1) lv (.inl (n : Int) :: st) ws) : Z kc ks pc lv (.inr (some a) :: st) ws := by
  obtain ⟨p, e, s, m, args, below, meth, c, Q, A, hx, hb, hml, hown, hts, hK, hA, hE, hEs, hin0, hri, hrv, rfl⟩ := B
  intro H locs ls r1 r2 r3 r4 hP hD hS hl
  exact va_alen (D := D) (v := iZ n) hx hb hK hP i 0 (zw_at hi) (ty := .int) rfl Int32.ofInt_eq_ofNat.symm hd (h H locs ls r1 (List.forall_mem_cons.mpr ⟨(⟨by omega, by omega⟩ : zR n), (List.forall_mem_cons.mp r2).2⟩) r3 r4 hP hD hS hl)
-- returns
theorem zB.ireturn (B : zB l D k E cc own nL R mc ms rt ini a0 PR Z) (hrt : rt ≠ none) (hd : decode cc pc = .ok (.ireturn, 1)) (h1 : kc ≤ mc) (h2 : ks ≤ ms) (h : zR x → zWr ws → PR x ws) : Z kc ks pc lv [.inl x] ws := by
  obtain ⟨p, e, s, m, args, below, meth, c, Q, A, hx, hb, hml, hown, hts, hK, hA, hE, hEs, hin0, hri, hrv, rfl⟩ := B
  intro H locs ls r1 r2 r3 r4 hP hD hS hl
  have rx := r2 _ List.mem_cons_self
  exact W.widen h1 h2 (hri H locs ls pc x ws hrt hd rx r1 r4 (h rx r1) hP hD hS)
theorem zB.vreturn (B : zB l D k E cc own nL R mc ms rt ini a0 PR Z) (hrt : rt = none) (hd : decode cc pc = .ok (.return_, 1)) (h1 : kc ≤ mc) (h2 : ks ≤ ms) (h : zWr ws → PR 0 ws) : Z kc ks pc lv [] ws := by
  obtain ⟨p, e, s, m, args, below, meth, c, Q, A, hx, hb, hml, hown, hts, hK, hA, hE, hEs, hin0, hri, hrv, rfl⟩ := B
  intro H locs ls r1 r2 r3 r4 hP hD hS hl
  exact W.widen h1 h2 (hrv H locs ls pc ws hrt hd r1 r4 (h r1) hP hD hS)
end ZH
