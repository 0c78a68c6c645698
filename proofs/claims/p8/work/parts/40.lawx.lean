def zbo (Q : zBQ) (o_a : Nat) (e : zW) : Prop := ∃ (o_dictionary_a o_dictionary_letters_a o_dictionary_lengths_a o_dictionary_kinds_a o_dictionary_costs_a o_joins_a o_rules_a o_line_a : Nat) (o_dictionary_count o_lineLength : Int) (o_dictionary_letters o_dictionary_lengths o_dictionary_kinds o_dictionary_costs o_joins o_rules o_line : Nat → Int), e = [(o_a, .inr (.inr (0, [.inr (some o_dictionary_a), .inr (some o_joins_a), .inr (some o_rules_a), .inr (some o_line_a), .inl o_lineLength]))), (o_dictionary_a, .inr (.inr (1, [.inr (some o_dictionary_letters_a), .inr (some o_dictionary_lengths_a), .inr (some o_dictionary_kinds_a), .inr (some o_dictionary_costs_a), .inl o_dictionary_count]))), (o_dictionary_letters_a, .inl (false, 96, o_dictionary_letters)), (o_dictionary_lengths_a, .inl (false, 16, o_dictionary_lengths)), (o_dictionary_kinds_a, .inl (false, 16, o_dictionary_kinds)), (o_dictionary_costs_a, .inl (false, 16, o_dictionary_costs)), (o_joins_a, .inl (false, 25, o_joins)), (o_rules_a, .inl (false, 4, o_rules)), (o_line_a, .inl (false, 24, o_line))] ∧ DI o_dictionary_count o_dictionary_lengths o_dictionary_kinds o_dictionary_costs ∧ BI o_joins o_rules o_lineLength ∧ Q o_dictionary_count o_dictionary_letters o_dictionary_lengths o_dictionary_kinds o_dictionary_costs o_joins o_rules o_line o_lineLength
theorem zbo.mono {Q Q2 : zBQ} {a : Nat} {e : zW} (h : zbo Q a e) (hq : ∀ x1 x2 x3 x4 x5 x6 x7 x8 x9, DI x1 x3 x4 x5 → x9 ≤ 24 → Q x1 x2 x3 x4 x5 x6 x7 x8 x9 → Q2 x1 x2 x3 x4 x5 x6 x7 x8 x9) : zbo Q2 a e := by
  obtain ⟨y0, y1, y2, y3, y4, y5, y6, y7, y8, y9, y10, y11, y12, y13, y14, y15, y16, h1, h2, h3, h4⟩ := h
  exact ⟨y0, y1, y2, y3, y4, y5, y6, y7, y8, y9, y10, y11, y12, y13, y14, y15, y16, h1, h2, h3, hq _ _ _ _ _ _ _ _ _ h2 h3.l24.2 h4⟩
def IMG (f : Nat → Option Nat) (ex : zW) (Q0 Q1 : zBQ) : Prop := (f 0 = none ∧ f 1 = none ∧ ex = []) ∨ (∃ a, f 0 = some a ∧ f 1 = none ∧ zbo Q0 a ex) ∨ (∃ a, f 0 = none ∧ f 1 = some a ∧ zbo Q1 a ex) ∨ (∃ a b e1 e2, f 0 = some a ∧ f 1 = some b ∧ ex = e1 ++ e2 ∧ zbo Q0 a e1 ∧ zbo Q1 b e2) ∨ (∃ a b e1 e2, f 0 = some a ∧ f 1 = some b ∧ ex = e2 ++ e1 ∧ zbo Q0 a e1 ∧ zbo Q1 b e2)
theorem IMG.mono {f : Nat → Option Nat} {ex : zW} {Q0 Q1 P0 P1 : zBQ} (h : IMG f ex Q0 Q1) (h0 : ∀ x1 x2 x3 x4 x5 x6 x7 x8 x9, DI x1 x3 x4 x5 → x9 ≤ 24 → Q0 x1 x2 x3 x4 x5 x6 x7 x8 x9 → P0 x1 x2 x3 x4 x5 x6 x7 x8 x9) (h1 : ∀ x1 x2 x3 x4 x5 x6 x7 x8 x9, DI x1 x3 x4 x5 → x9 ≤ 24 → Q1 x1 x2 x3 x4 x5 x6 x7 x8 x9 → P1 x1 x2 x3 x4 x5 x6 x7 x8 x9) : IMG f ex P0 P1 := by
  rcases h with h | ⟨a, g0, g1, g2⟩ | ⟨a, g0, g1, g2⟩ | ⟨a, b, e1, e2, g0, g1, g2, g3, g4⟩ | ⟨a, b, e1, e2, g0, g1, g2, g3, g4⟩
  · exact Or.inl h
  · exact Or.inr (Or.inl ⟨a, g0, g1, g2.mono h0⟩)
  · exact Or.inr (Or.inr (Or.inl ⟨a, g0, g1, g2.mono h1⟩))
  · exact Or.inr (Or.inr (Or.inr (Or.inl ⟨a, b, e1, e2, g0, g1, g2, g3.mono h0, g4.mono h1⟩)))
  · exact Or.inr (Or.inr (Or.inr (Or.inr ⟨a, b, e1, e2, g0, g1, g2, g3.mono h0, g4.mono h1⟩)))
/-- the class's image: what it does -/
def XI (n z : Int) (f im : Nat → Option Nat) (Q0 Q1 Q P0 P1 : zBQ) : Prop := (n = 0 → P0 = Q ∧ P1 = Q1 ∧ z = 1 ∧ im 0 ≠ none ∧ im 1 = f 1) ∧ (n = 1 → P0 = Q0 ∧ P1 = Q ∧ z = 1 ∧ im 1 ≠ none ∧ im 0 = f 0) ∧ (n < 0 ∨ 1 < n → P0 = Q0 ∧ P1 = Q1 ∧ z = -2 ∧ im = f)
def X9 (dc : Int) (le si ki co jo ru li : Nat → Int) (ll : Int) (dc' : Int) (le' si' ki' co' jo' ru' li' : Nat → Int) (ll' : Int) : Prop := dc' = dc ∧ le' = le ∧ si' = si ∧ ki' = ki ∧ co' = co ∧ jo' = jo ∧ ru' = ru ∧ li' = li ∧ ll' = ll
def XB (Q : zBQ) (dc' : Int) (le' si' ki' co' jo' ru' li' : Nat → Int) (ll' : Int) : Prop := ∃ x1 x2 x3 x4 x5 x6 x7 x8 x9, Q x1 x2 x3 x4 x5 x6 x7 x8 x9 ∧ QB x1 x2 x3 x4 x5 x6 x7 x8 x9 dc' le' si' ki' co' jo' ru' li' ll'
/-- the class's restore: what it does -/
def XR (n z : Int) (f : Nat → Option Nat) (Q0 Q1 : zBQ) (S : Prop) (B : zBQ → Prop) : Prop := (n < 0 ∨ 1 < n → z = -2 ∧ S) ∧ (n = 0 → (f 0 = none → z = -3 ∧ S) ∧ (f 0 ≠ none → z = 1 ∧ B Q0)) ∧ (n = 1 → (f 1 = none → z = -3 ∧ S) ∧ (f 1 ≠ none → z = 1 ∧ B Q1))
def zEL (aR aS aV b L : Nat) (sx : Nat → Int) : zE := fun A U H => zEE aR aS aV A U H ∧ va_X b L (fun j => iZ (sx j)) U H ∧ b < H.size ∧ ¬ A b
theorem zEL_ok (aR aS aV b L : Nat) (sx : Nat → Int) : zEok (zEL aR aS aV b L sx) := by
  obtain ⟨k1, k2, k3, k4⟩ := zEE_ok aR aS aV
  refine ⟨?_, ?_, ?_, ?_⟩
  · intro A u U H hW h
    exact ⟨k1 A u U H hW h.1, h.2.1.moved hW.alike, h.2.2⟩
  · intro A u U H hv h
    have ha : u.vm.Alike U.vm := by rw [hv]; exact Vm.Alike.refl u.vm
    exact ⟨k2 A u U H hv h.1, h.2.1.moved ha, h.2.2⟩
  · intro A U H H1 h hk
    obtain ⟨h1, h2, h3, h4⟩ := h
    have he := hk b h3 h4
    refine ⟨k3 A U H H1 h1 hk, h2.kept he, ?_, h4⟩
    obtain ⟨scr, g1, -⟩ := h2
    rw [← he] at g1
    exact (Array.getElem?_eq_some_iff.mp g1).1
  · intro A B U H h hAB
    exact ⟨k4 A B U H h.1 hAB, h.2.1, h.2.2.1, fun z => h.2.2.2 (hAB b z)⟩
theorem zEL_x (aR aS aV b L : Nat) (sx : Nat → Int) : zEx (zEL aR aS aV b L sx) aR aS aV := fun _ _ _ h => h.1
section ZLW
variable {l : Launch} {D : va_G} {k : zK} {cc : ByteArray} {own : String} {nL : Nat} {R : Room} {mc ms : Nat} {rt : Option FieldType} {ini : Prop} {a0 : List Nat} {PR : Int → zW → Prop} {Z : zP}
variable {kc ks pc : Nat} {lv : List (Option zV)} {st : List zV} {ws : zW} {x y : Int} {aR aS aV b L : Nat} {sx : Nat → Int}
theorem zB.scrlen (B : zB l D k (zEL aR aS aV b L sx) cc own nL R mc ms rt ini a0 PR Z) (hL : L ≤ 2048) (hd : decode cc pc = .ok (.arraylength, 1)) (h : Z kc ks (pc + 1) lv (.inl (L : Int) :: st) ws) : Z kc ks pc lv (.inr (some b) :: st) ws := by
  obtain ⟨p, e, s, m, args, below, meth, c, Q, A, hx, hb, hml, hown, hts, hK, hA, hE, hEs, hin, hri, hrv, rfl⟩ := B
  intro H locs ls r1 r2 r3 r4 hP hD hS hl
  obtain ⟨-, h2, h3, h4⟩ := hEs
  refine va_slen hx hb h2 h3 h4 hS hd ?_
  have e1 : Int32.ofNat L = iZ (L : Int) := Int32.ofInt_eq_ofNat.symm
  rw [e1]
  exact h H locs ls r1 (List.forall_mem_cons.mpr ⟨(⟨by omega, by omega⟩ : zR (L : Int)), (List.forall_mem_cons.mp r2).2⟩) r3 r4 hP hD hS hl
theorem zB.scrload (B : zB l D k (zEL aR aS aV b L sx) cc own nL R mc ms rt ini a0 PR Z) (hs : ∀ j, zR (sx j)) (h0 : 0 ≤ x) (h1 : x < L) (hd : decode cc pc = .ok (.iaload, 1)) (h : Z kc ks (pc + 1) lv (.inl (sx x.toNat) :: st) ws) : Z kc ks pc lv (.inl x :: .inr (some b) :: st) ws := by
  obtain ⟨p, e, s, m, args, below, meth, c, Q, A, hx, hb, hml, hown, hts, hK, hA, hE, hEs, hin, hri, hrv, rfl⟩ := B
  intro H locs ls r1 r2 r3 r4 hP hD hS hl
  obtain ⟨-, h2, h3, h4⟩ := hEs
  obtain ⟨rx, rr⟩ := List.forall_mem_cons.mp r2
  have rx : zR x := rx
  refine va_sld hx hb h2 h3 h4 hS (i := iZ x) (iZ_in rx h0 (by omega)) hd ?_
  rw [iZ_nat rx h0]
  exact h H locs ls r1 (List.forall_mem_cons.mpr ⟨hs _, (List.forall_mem_cons.mp rr).2⟩) r3 r4 hP hD hS hl
end ZLW
theorem QI.keep {im im2 : Nat → Int} {b : Nat} (h : ∀ j : Nat, b ≤ j → j < b + 230 → im2 j = im j) {dc ll : Int} {le si ki co jo ru li : Nat → Int} (hD : DI dc si ki co) (hl : ll ≤ 24) (q : QI im b dc le si ki co jo ru li ll) : QI im2 b dc le si ki co jo ru li ll := by
  refine BQ.cp q hD hl ⟨rfl, fun _ _ => rfl, fun _ _ => rfl, fun _ _ => rfl, fun _ _ => rfl, fun _ _ => rfl, fun _ _ => rfl, fun _ _ => rfl, rfl⟩ ⟨h _ (by omega) (by omega), fun j hj => h _ (by omega) (by omega), fun j hj => h _ (by omega) (by omega), fun j hj => h _ (by omega) (by omega), fun j hj => h _ (by omega) (by omega), fun j hj => h _ (by omega) (by omega), fun j hj => h _ (by omega) (by omega), fun j hj => h _ (by omega) (by omega), h _ (by omega) (by omega)⟩
theorem QB.cy {im le sz kd co jo ru li : Nat → Int} {n wd ln : Int} {b : Nat} (hb : (b : Int) = 230 * n) (c0 : CY im le (230 * n) 96) (c1 : CY im sz (230 * n + 96) 16) (c2 : CY im kd (230 * n + 112) 16) (c3 : CY im co (230 * n + 128) 16) (c4 : CY im jo (230 * n + 144) 25) (c5 : CY im ru (230 * n + 170) 4) (c6 : CY im li (230 * n + 180) 24) (c7 : im (230 * n + 210).toNat = wd) (c8 : im (230 * n + 211).toNat = ln) : QB wd le sz kd co jo ru li ln (im (b + 210)) (fun j => im (b + j)) (fun j => im (b + 96 + j)) (fun j => im (b + 112 + j)) (fun j => im (b + 128 + j)) (fun j => im (b + 144 + j)) (fun j => im (b + 170 + j)) (fun j => im (b + 180 + j)) (im (b + 211)) := by
  refine ⟨?_, fun j hj => ?_, fun j hj => ?_, fun j hj => ?_, fun j hj => ?_, fun j hj => ?_, fun j hj => ?_, fun j hj => ?_, ?_⟩
  · rw [← c7]; congr 1; omega
  · exact (congrArg im (by omega)).trans (c0 j (by omega))
  · exact (congrArg im (by omega)).trans (c1 j (by omega))
  · exact (congrArg im (by omega)).trans (c2 j (by omega))
  · exact (congrArg im (by omega)).trans (c3 j (by omega))
  · exact (congrArg im (by omega)).trans (c4 j (by omega))
  · exact (congrArg im (by omega)).trans (c5 j (by omega))
  · exact (congrArg im (by omega)).trans (c6 j (by omega))
  · rw [← c8]; congr 1; omega
theorem QB.ry {im le sz kd co jo ru li : Nat → Int} {n wd ln : Int} {b : Nat} (hb : (b : Int) = 230 * n) (c0 : RY le im (230 * n) 96) (c1 : RY sz im (230 * n + 96) 16) (c2 : RY kd im (230 * n + 112) 16) (c3 : RY co im (230 * n + 128) 16) (c4 : RY jo im (230 * n + 144) 25) (c5 : RY ru im (230 * n + 170) 4) (c6 : RY li im (230 * n + 180) 24) (c7 : wd = im (230 * n + 210).toNat) (c8 : ln = im (230 * n + 211).toNat) : QB (im (b + 210)) (fun j => im (b + j)) (fun j => im (b + 96 + j)) (fun j => im (b + 112 + j)) (fun j => im (b + 128 + j)) (fun j => im (b + 144 + j)) (fun j => im (b + 170 + j)) (fun j => im (b + 180 + j)) (im (b + 211)) wd le sz kd co jo ru li ln := by
  refine ⟨?_, fun j hj => ?_, fun j hj => ?_, fun j hj => ?_, fun j hj => ?_, fun j hj => ?_, fun j hj => ?_, fun j hj => ?_, ?_⟩
  · rw [c7]; congr 1; omega
  · rw [c0 j (by omega)]; congr 1; omega
  · rw [c1 j (by omega)]; congr 1; omega
  · rw [c2 j (by omega)]; congr 1; omega
  · rw [c3 j (by omega)]; congr 1; omega
  · rw [c4 j (by omega)]; congr 1; omega
  · rw [c5 j (by omega)]; congr 1; omega
  · rw [c6 j (by omega)]; congr 1; omega
  · rw [c8]; congr 1; omega
theorem img_step {n z z' wd ln dc ll : Int} {f im : Nat → Option Nat} {ex : zW} {P0 P1 : zBQ} {ble bsi bki bco bjo bru bli le sz kd co jo ru li mi mi' kp kp' : Nat → Int} (hI : IMG im ex P0 P1) (hz : XI n z f im (QI mi 0) (QI mi 230) (QB dc ble bsi bki bco bjo bru bli ll) P0 P1) (hm : zMQ n z' wd ln le sz kd co jo ru li mi mi' kp kp') (hS : BQ dc ble bsi bki bco bjo bru bli ll wd le sz kd co jo ru li ln) (hD : DI dc bsi bki bco) (hl : ll ≤ 24) (K0 : f 0 = none ↔ kp 0 = 0) (K1 : f 1 = none ↔ kp 1 = 0) : z = z' ∧ (im 0 = none ↔ kp' 0 = 0) ∧ (im 1 = none ↔ kp' 1 = 0) ∧ IMG im ex (QI mi' 0) (QI mi' 230) := by
  obtain ⟨z0, z1, z2⟩ := hz
  rcases hm with ⟨hn, hz2, hi, hk⟩ | ⟨hn, hz2, hk, hCO, c0, c1, c2, c3, c4, c5, c6, c7, c8⟩
  · obtain ⟨e1, e2, e3, e4⟩ := z2 (by omega)
    subst e1; subst e2; subst e4; subst hi; subst hk
    exact ⟨by omega, K0, K1, hI⟩
  · rcases hn with rfl | rfl
    · obtain ⟨e1, e2, e3, e4, e5⟩ := z0 rfl
      subst e1; subst e2; subst hk
      refine ⟨by omega, ⟨fun q => absurd q e4, fun q => ?_⟩, ?_, hI.mono ?_ ?_⟩
      · have : zup kp (0 : Int).toNat 1 0 = 1 := zup_eq
        omega
      · rw [e5, zup_ne (by decide)]; exact K1
      · intro x1 x2 x3 x4 x5 x6 x7 x8 x9 g1 g2 h
        exact BQ.cp hS hD hl h (QB.cy (b := 0) (by omega) c0 c1 c2 c3 c4 c5 c6 c7 c8)
      · intro x1 x2 x3 x4 x5 x6 x7 x8 x9 g1 g2 h
        exact h.keep (fun j h1 h2 => hCO j (by omega)) g1 g2
    · obtain ⟨e1, e2, e3, e4, e5⟩ := z1 rfl
      subst e1; subst e2; subst hk
      refine ⟨by omega, ?_, ⟨fun q => absurd q e4, fun q => ?_⟩, hI.mono ?_ ?_⟩
      · rw [e5, zup_ne (by decide)]; exact K0
      · have : zup kp (1 : Int).toNat 1 1 = 1 := zup_eq
        omega
      · intro x1 x2 x3 x4 x5 x6 x7 x8 x9 g1 g2 h
        exact h.keep (fun j h1 h2 => hCO j (by omega)) g1 g2
      · intro x1 x2 x3 x4 x5 x6 x7 x8 x9 g1 g2 h
        exact BQ.cp hS hD hl h (QB.cy (b := 230) (by omega) c0 c1 c2 c3 c4 c5 c6 c7 c8)
theorem rst_step {n z z' wd ln wd' ln' dc ll dc' ll' : Int} {f : Nat → Option Nat} {ble bsi bki bco bjo bru bli ble' bsi' bki' bco' bjo' bru' bli' le sz kd co jo ru li le' sz' kd' co' jo' ru' li' mi kp : Nat → Int} (hx : XR n z f (QI mi 0) (QI mi 230) (X9 dc ble bsi bki bco bjo bru bli ll dc' ble' bsi' bki' bco' bjo' bru' bli' ll') (fun Q => XB Q dc' ble' bsi' bki' bco' bjo' bru' bli' ll')) (hm : zMR n z' mi kp wd ln le sz kd co jo ru li wd' ln' le' sz' kd' co' jo' ru' li') (hS : BQ dc ble bsi bki bco bjo bru bli ll wd le sz kd co jo ru li ln) (hD : DI dc' bsi' bki' bco') (hl : ll' ≤ 24) (K0 : f 0 = none ↔ kp 0 = 0) (K1 : f 1 = none ↔ kp 1 = 0) : z = z' ∧ BQ dc' ble' bsi' bki' bco' bjo' bru' bli' ll' wd' le' sz' kd' co' jo' ru' li' ln' := by
  obtain ⟨x0, x1, x2⟩ := hx
  rcases hm with ⟨hn, hz2, f1, f2, f3, f4, f5, f6, f7, f8, f9⟩ | ⟨hn, hk, hz2, f1, f2, f3, f4, f5, f6, f7, f8, f9⟩ | ⟨hn, hk, hz2, d1, d2, c0, c1, c2, c3, c4, c5, c6⟩
  · obtain ⟨e1, g1, g2, g3, g4, g5, g6, g7, g8, g9⟩ := x0 (by omega)
    subst f1; subst f2; subst f3; subst f4; subst f5; subst f6; subst f7; subst f8; subst f9
    subst g1; subst g2; subst g3; subst g4; subst g5; subst g6; subst g7; subst g8; subst g9
    exact ⟨by omega, hS⟩
  · have hz : z = -3 ∧ X9 dc ble bsi bki bco bjo bru bli ll dc' ble' bsi' bki' bco' bjo' bru' bli' ll' := by
      rcases hn with rfl | rfl
      · exact (x1 rfl).1 (K0.mpr hk)
      · exact (x2 rfl).1 (K1.mpr hk)
    obtain ⟨e1, g1, g2, g3, g4, g5, g6, g7, g8, g9⟩ := hz
    subst f1; subst f2; subst f3; subst f4; subst f5; subst f6; subst f7; subst f8; subst f9
    subst g1; subst g2; subst g3; subst g4; subst g5; subst g6; subst g7; subst g8; subst g9
    exact ⟨by omega, hS⟩
  · rcases hn with rfl | rfl
    · obtain ⟨e1, y1, y2, y3, y4, y5, y6, y7, y8, y9, hq, hQB⟩ := (x1 rfl).2 (fun q => hk (K0.mp q))
      obtain ⟨g1, g2, g3, g4, g5, g6, g7, g8, g9⟩ := id hQB
      exact ⟨by omega, BQ.cp hq (by rw [← g1]; exact hD.eq (fun j hj => (g3 j hj).symm) (fun j hj => (g4 j hj).symm) (fun j hj => (g5 j hj).symm)) (by omega) hQB (QB.ry (b := 0) (by omega) c0 c1 c2 c3 c4 c5 c6 d1 d2)⟩
    · obtain ⟨e1, y1, y2, y3, y4, y5, y6, y7, y8, y9, hq, hQB⟩ := (x2 rfl).2 (fun q => hk (K1.mp q))
      obtain ⟨g1, g2, g3, g4, g5, g6, g7, g8, g9⟩ := id hQB
      exact ⟨by omega, BQ.cp hq (by rw [← g1]; exact hD.eq (fun j hj => (g3 j hj).symm) (fun j hj => (g4 j hj).symm) (fun j hj => (g5 j hj).symm)) (by omega) hQB (QB.ry (b := 230) (by omega) c0 c1 c2 c3 c4 c5 c6 d1 d2)⟩
