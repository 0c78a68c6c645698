section ZN
variable {l : Launch} {D : va_G} {k : zK} {E : zE} {cc : ByteArray} {own : String} {nL : Nat} {R : Room} {mc ms : Nat} {rt : Option FieldType} {ini : Prop} {a0 : List Nat} {PR : Int → zW → Prop} {Z : zP}
variable {kc ks pc : Nat} {lv : List (Option zV)} {st : List zV} {ws : zW} {x y : Int}
theorem zB.aload_nN (B : zB l D k E cc own nL R mc ms rt ini a0 PR Z) {i : Nat} {q : Fin 4} (hd : decode cc pc = .ok (.aload_n q, 1)) (hq : (q : Nat) = i) (hi : lv[i]? = some (some (.inr none))) (h : Z kc ks (pc + 1) lv (.inr none :: st) ws) : Z kc ks pc lv st ws := by
  obtain ⟨p, e, s, m, args, below, meth, c, Q, A, hx, hb, hml, hown, hts, hK, hA, hE, hEs, hin, hri, hrv, rfl⟩ := B
  intro H locs ls r1 r2 r3 r4 hP hD hS hl
  exact lv_aload_nN hx hb hd hq (zL_at hl hi) (h H locs ls r1 (List.forall_mem_cons.mpr ⟨trivial, r2⟩) r3 r4 hP hD hS hl)
theorem zB.astore_nN (B : zB l D k E cc own nL R mc ms rt ini a0 PR Z) {i : Nat} {q : Fin 4} (hd : decode cc pc = .ok (.astore_n q, 1)) (hq : (q : Nat) = i) (hn : i < nL) (h : Z kc ks (pc + 1) (lv.set i (some (.inr none))) st ws) : Z kc ks pc lv (.inr none :: st) ws := by
  obtain ⟨p, e, s, m, args, below, meth, c, Q, A, hx, hb, hml, hown, hts, hK, hA, hE, hEs, hin, hri, hrv, rfl⟩ := B
  intro H locs ls r1 r2 r3 r4 hP hD hS hl
  obtain ⟨h1, h2⟩ := List.forall_mem_cons.mp r2
  obtain ⟨ll, g1, g2, g3⟩ := hl
  exact lv_astore_nN hx hb hd hq g1 hn rfl (fun ls' hl' => h H locs ls' r1 h2 (zlv_set r3 h1) r4 hP hD hS (zL_st (v := .inr none) g2 g3 hl'))
end ZN
theorem zlim_le : ∀ j, zlim j ≤ 99 := by
  intro j
  unfold zlim
  split <;> omega
