def zbo (o_a : Nat) (e : zW) : Prop := ∃ (o_dictionary_a o_dictionary_letters_a o_dictionary_lengths_a o_dictionary_kinds_a o_dictionary_costs_a o_joins_a o_rules_a o_line_a : Nat) (o_dictionary_count o_lineLength : Int) (o_dictionary_letters o_dictionary_lengths o_dictionary_kinds o_dictionary_costs o_joins o_rules o_line : Nat → Int), e = [(o_a, .inr (.inr (0, [.inr (some o_dictionary_a), .inr (some o_joins_a), .inr (some o_rules_a), .inr (some o_line_a), .inl o_lineLength]))), (o_dictionary_a, .inr (.inr (1, [.inr (some o_dictionary_letters_a), .inr (some o_dictionary_lengths_a), .inr (some o_dictionary_kinds_a), .inr (some o_dictionary_costs_a), .inl o_dictionary_count]))), (o_dictionary_letters_a, .inl (false, 96, o_dictionary_letters)), (o_dictionary_lengths_a, .inl (false, 16, o_dictionary_lengths)), (o_dictionary_kinds_a, .inl (false, 16, o_dictionary_kinds)), (o_dictionary_costs_a, .inl (false, 16, o_dictionary_costs)), (o_joins_a, .inl (false, 25, o_joins)), (o_rules_a, .inl (false, 4, o_rules)), (o_line_a, .inl (false, 24, o_line))] ∧ DI o_dictionary_count o_dictionary_lengths o_dictionary_kinds o_dictionary_costs ∧ BI o_joins o_rules o_lineLength
def IMG (f : Nat → Option Nat) (ex : zW) : Prop := (f 0 = none ∧ f 1 = none ∧ ex = []) ∨ (∃ a, f 0 = some a ∧ f 1 = none ∧ zbo a ex) ∨ (∃ a, f 0 = none ∧ f 1 = some a ∧ zbo a ex) ∨ (∃ a b e1 e2, f 0 = some a ∧ f 1 = some b ∧ ex = e1 ++ e2 ∧ zbo a e1 ∧ zbo b e2) ∨ (∃ a b e1 e2, f 0 = some a ∧ f 1 = some b ∧ ex = e2 ++ e1 ∧ zbo a e1 ∧ zbo b e2)
def zEL (aR aS aV b L : Nat) (sx : Nat → Int) : zE := fun A U H => zEE aR aS aV A U H ∧ va_X b L (fun j => iZ (sx j)) U H ∧ b < H.size ∧ ¬ A b
theorem zEL_ok (aR aS aV b L : Nat) (sx : Nat → Int) : zEok (zEL aR aS aV b L sx) := by
  obtain ⟨k1, k2, k3, k4⟩ := zEE_ok aR aS aV
  refine ⟨?_, ?_, ?_, ?_⟩
  · intro A u U H hW h
    exact ⟨k1 A u U H hW h.1, h.2.1.moved hW.alike, h.2.2⟩
  · intro A u U H hv h
    have ha : u.vm.Alike U.vm := by rw [hv]; exact Vm.Alike.refl u.vm
    exact ⟨k2 A u U H hv h.1, h.2.1.moved ha, h.2.2⟩
  · intro A U H H1 h hk
    obtain ⟨h1, h2, h3, h4⟩ := h
    have he := hk b h3 h4
    refine ⟨k3 A U H H1 h1 hk, h2.kept he, ?_, h4⟩
    obtain ⟨scr, g1, -⟩ := h2
    rw [← he] at g1
    exact (Array.getElem?_eq_some_iff.mp g1).1
  · intro A B U H h hAB
    exact ⟨k4 A B U H h.1 hAB, h.2.1, h.2.2.1, fun z => h.2.2.2 (hAB b z)⟩
theorem zEL_x (aR aS aV b L : Nat) (sx : Nat → Int) : zEx (zEL aR aS aV b L sx) aR aS aV := fun _ _ _ h => h.1
section ZLW
variable {l : Launch} {D : va_G} {k : zK} {cc : ByteArray} {own : String} {nL : Nat} {R : Room} {mc ms : Nat} {rt : Option FieldType} {ini : Prop} {a0 : List Nat} {PR : Int → zW → Prop} {Z : zP}
variable {kc ks pc : Nat} {lv : List (Option zV)} {st : List zV} {ws : zW} {x y : Int} {aR aS aV b L : Nat} {sx : Nat → Int}
theorem zB.scrlen (B : zB l D k (zEL aR aS aV b L sx) cc own nL R mc ms rt ini a0 PR Z) (hL : L ≤ 2048) (hd : decode cc pc = .ok (.arraylength, 1)) (h : Z kc ks (pc + 1) lv (.inl (L : Int) :: st) ws) : Z kc ks pc lv (.inr (some b) :: st) ws := by
  obtain ⟨p, e, s, m, args, below, meth, c, Q, A, hx, hb, hml, hown, hts, hK, hA, hE, hEs, hin, hri, hrv, rfl⟩ := B
  intro H locs ls r1 r2 r3 r4 hP hD hS hl
  obtain ⟨-, h2, h3, h4⟩ := hEs
  refine va_slen hx hb h2 h3 h4 hS hd ?_
  have e1 : Int32.ofNat L = iZ (L : Int) := Int32.ofInt_eq_ofNat.symm
  rw [e1]
  exact h H locs ls r1 (List.forall_mem_cons.mpr ⟨(⟨by omega, by omega⟩ : zR (L : Int)), (List.forall_mem_cons.mp r2).2⟩) r3 r4 hP hD hS hl
theorem zB.scrload (B : zB l D k (zEL aR aS aV b L sx) cc own nL R mc ms rt ini a0 PR Z) (hs : ∀ j, zR (sx j)) (h0 : 0 ≤ x) (h1 : x < L) (hd : decode cc pc = .ok (.iaload, 1)) (h : Z kc ks (pc + 1) lv (.inl (sx x.toNat) :: st) ws) : Z kc ks pc lv (.inl x :: .inr (some b) :: st) ws := by
  obtain ⟨p, e, s, m, args, below, meth, c, Q, A, hx, hb, hml, hown, hts, hK, hA, hE, hEs, hin, hri, hrv, rfl⟩ := B
  intro H locs ls r1 r2 r3 r4 hP hD hS hl
  obtain ⟨-, h2, h3, h4⟩ := hEs
  obtain ⟨rx, rr⟩ := List.forall_mem_cons.mp r2
  have rx : zR x := rx
  refine va_sld hx hb h2 h3 h4 hS (i := iZ x) (iZ_in rx h0 (by omega)) hd ?_
  rw [iZ_nat rx h0]
  exact h H locs ls r1 (List.forall_mem_cons.mpr ⟨hs _, (List.forall_mem_cons.mp rr).2⟩) r3 r4 hP hD hS hl
end ZLW
