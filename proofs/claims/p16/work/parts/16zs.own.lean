/-! the class's ranking, step by step -/
def OI (ct0 ke0 ct ke : Nat → Int) (s : Nat) (v : Int) (t : Int) : Prop := ((ct0 s < 12 ∧ ct = zup ct0 s (ct0 s + 1)) ∨ (ct0 s = 12 ∧ ct = ct0 ∧ v ≤ ke0 (12 * s + 11))) ∧ 12 * (s : Int) ≤ t ∧ t < 12 * (s : Int) + ct s ∧ (∀ j : Nat, ((j : Int) ≤ t ∨ 12 * (s : Int) + ct s ≤ j) → ke j = ke0 j) ∧ (∀ j : Nat, t ≤ (j : Int) → (j : Int) + 1 < 12 * (s : Int) + ct s → ke (j + 1) = ke0 j ∧ v < ke0 j)
theorem OI.first {ct ke : Nat → Int} {s : Nat} {v t : Int} (h0 : 0 ≤ ct s) (h : ct s < 12) (ht : t = 12 * (s : Int) + ct s) : OI ct ke (zup ct s (ct s + 1)) ke s v t := by
  have e : zup ct s (ct s + 1) s = ct s + 1 := zup_eq
  exact ⟨Or.inl ⟨h, rfl⟩, by omega, by omega, fun j _ => rfl, fun j h1 h2 => by omega⟩
theorem OI.full {ct ke : Nat → Int} {s : Nat} {v t : Int} (h : ct s = 12) (ht : t = 12 * (s : Int) + 11) (hv : v ≤ ke (12 * s + 11)) : OI ct ke ct ke s v t := ⟨Or.inr ⟨h, rfl, hv⟩, by omega, by omega, fun j _ => rfl, fun j h1 h2 => by omega⟩
theorem OI.step {ct0 ke0 ct ke : Nat → Int} {s : Nat} {v t : Int} (h : OI ct0 ke0 ct ke s v t) (h1 : 12 * (s : Int) < t) (h2 : v < ke (t - 1).toNat) : OI ct0 ke0 ct (zup ke t.toNat (ke (t - 1).toNat)) s v (t + -1) := by
  obtain ⟨a1, a2, a3, a4, a5⟩ := h
  have e1 := a4 (t - 1).toNat (by omega)
  refine ⟨a1, by omega, by omega, fun j hj => ?_, fun j h3 h4 => ?_⟩
  · rw [zup_ne (by omega)]; exact a4 j (by omega)
  · by_cases e : j = (t - 1).toNat
    · subst e
      rw [show (t - 1).toNat + 1 = t.toNat by omega, zup_eq]
      exact ⟨e1, by omega⟩
    · rw [zup_ne (by omega)]; exact a5 j (by omega) h4
theorem OI.done {ct0 ke0 ct ke : Nat → Int} {s : Nat} {v t : Int} (h : OI ct0 ke0 ct ke s v t) (h2 : t ≤ 12 * (s : Int) ∨ ke (t - 1).toNat ≤ v) : KP ct0 ke0 ct (zup ke t.toNat v) s ∧ OF (ct0 s) (kl ke0 s) v 1 (ct s) (kl (zup ke t.toNat v) s) := by
  obtain ⟨a1, a2, a3, a4, a5⟩ := h
  have hn : (ct0 s < 12 ∧ ct s = ct0 s + 1) ∨ (ct0 s = 12 ∧ ct s = 12 ∧ v ≤ ke0 (12 * s + 11)) := by
    rcases a1 with ⟨b1, b2⟩ | ⟨b1, b2, b3⟩
    · exact Or.inl ⟨b1, by rw [b2, zup_eq]⟩
    · exact Or.inr ⟨b1, by rw [b2]; exact b1, b3⟩
  refine ⟨⟨fun j hj => ?_, fun j hj => ?_⟩, Or.inr ⟨rfl, ?_, (t - 12 * (s : Int)).toNat, by omega, ?_, fun r h3 h4 => ?_, fun r h3 => ?_, ?_, fun r h3 h4 => ?_⟩⟩
  · rcases a1 with ⟨b1, b2⟩ | ⟨b1, b2, b3⟩
    · rw [b2, zup_ne hj]
    · rw [b2]
  · rw [zup_ne (by omega)]; exact a4 j (by omega)
  · exact hn
  · rcases h2 with q | q
    · exact Or.inl (by omega)
    · by_cases e : (t - 12 * (s : Int)).toNat = 0
      · exact Or.inl e
      · right
        show ke0 (12 * s + ((t - 12 * (s : Int)).toNat - 1)) ≤ v
        rw [show 12 * s + ((t - 12 * (s : Int)).toNat - 1) = (t - 1).toNat by omega, ← a4 _ (by omega)]
        exact q
  · exact (a5 (12 * s + r) (by omega) (by omega)).2
  · show zup ke t.toNat v (12 * s + r) = ke0 (12 * s + r)
    rw [zup_ne (by omega)]; exact a4 _ (by omega)
  · show zup ke t.toNat v (12 * s + (t - 12 * (s : Int)).toNat) = v
    rw [show 12 * s + (t - 12 * (s : Int)).toNat = t.toNat by omega, zup_eq]
  · show zup ke t.toNat v (12 * s + (r + 1)) = ke0 (12 * s + r)
    rw [zup_ne (by omega)]
    exact (a5 (12 * s + r) (by omega) (by omega)).1
theorem SO.cast {n m : Int} {f g : Nat → Int} (h : SO n f) (e : m = n) (k : ∀ r : Nat, (r : Int) < n → g r = f r) : SO m g := by
  subst e
  intro r s hrs hs
  rw [k r (by omega), k s hs]
  exact h r s hrs hs
theorem CC.add {pl ln kd cs jo ct0 ke0 ct ke f : Nat → Int} {lo hi k c n : Int} {s : Nat} (hk : KP ct0 ke0 ct ke s) (hb : sb pl ln kd hi.toNat ≠ s) (hc : CB ct0) (h125 : sb pl ln kd hi.toNat < 125) (h0 : 0 ≤ hi) (hl : lo ≤ hi) (h : TP (fun v => CC pl ln kd cs jo ct0 ke0 lo hi k v ∨ XW c hi ke (sb pl ln kd hi.toNat) (ct (sb pl ln kd hi.toNat)) v) n f ∧ TF (fun v => CC pl ln kd cs jo ct0 ke0 lo hi k v ∨ XW c hi ke (sb pl ln kd hi.toNat) (ct (sb pl ln kd hi.toNat)) v) n f) (ec : c = jo (k * 5 + kd hi.toNat).toNat + cs hi.toNat) : TP (CC pl ln kd cs jo ct0 ke0 lo (hi + 1) k) n f ∧ TF (CC pl ln kd cs jo ct0 ke0 lo (hi + 1) k) n f := by
  obtain ⟨e1, e2⟩ := hk.at hb
  have h12 := hc _ h125
  refine TP.cast h (fun v => ?_)
  rw [CC.step h0 hl, ec]
  have hx := XW.cast (c := jo (k * 5 + kd hi.toNat).toNat + cs hi.toNat) (p := hi) (b := sb pl ln kd hi.toNat) (ke := ke) (ke2 := ke0) e1 (fun r hr => e2 r (by omega)) v
  constructor
  · rintro (q | q)
    · exact Or.inl q
    · exact Or.inr (hx.mp q)
  · rintro (q | q)
    · exact Or.inl q
    · exact Or.inr (hx.mpr q)
def RS0 (pl ln kd cs fi jo bf ct0 ke0 ct ke : Nat → Int) (q k : Nat) : Prop := (1000000 ≤ bf (5 * q + k) → ct (5 * q + k) = 0) ∧ (bf (5 * q + k) < 1000000 → TP (CC pl ln kd cs jo ct0 ke0 (fi q) (fi (q + 1)) k) (ct (5 * q + k)) (kl ke (5 * q + k)) ∧ TF (CC pl ln kd cs jo ct0 ke0 (fi q) (fi (q + 1)) k) (ct (5 * q + k)) (kl ke (5 * q + k)))
theorem RS0.new {ll cnt : Int} {pl ln kd cs fi jo bf ct ke ct2 ke2 : Nat → Int} {q k : Nat} (hG : GN ll cnt pl ln kd cs fi) (hc : CB ct) (hq : (q : Int) < ll) (hk : k ≤ 4) (hP : KP ct ke ct2 ke2 (5 * q + k)) (h : RS0 pl ln kd cs fi jo bf ct ke ct2 ke2 q k) : RS1 pl ln kd cs fi jo bf ct2 ke2 q k := by
  refine ⟨h.1, fun z => TP.cast (h.2 z) (fun v => CC.cast hc (fun y y1 y2 => ?_) (fun y y1 y2 => ?_) v)⟩
  · obtain ⟨g1, g2⟩ := hG.in_ hq y1 y2
    exact (hG.spot g1).2
  · obtain ⟨g1, g2⟩ := hG.in_ hq y1 y2
    have g3 := hG.spot g1
    have g4 := hG.2.1 y g1
    exact hP.at (by omega)
def BB (bf : Nat → Int) : Prop := ∀ t : Nat, t < 125 → 0 ≤ bf t ∧ bf t ≤ 1000000
theorem BB.at {bf : Nat → Int} (h : BB bf) {x : Int} (h0 : 0 ≤ x) (h1 : x < 125) : 0 ≤ bf x.toNat ∧ bf x.toNat ≤ 1000000 := h x.toNat (by omega)
theorem BFS.bb {cnt : Int} {pl ln kd cs jo bf : Nat → Int} (h : BFS cnt pl ln kd cs jo bf) : BB bf := fun t ht => by
  have := h.2.1 t ht
  omega
/-- the ends' lists -/
def KE (ll : Int) (jo ct ke : Nat → Int) : Prop := ∀ k : Nat, k < 4 → ct (5 * ll.toNat + k) = 1 ∧ ke (12 * (5 * ll.toNat + k)) = jo (5 * k + 4) * 8192
theorem KE.keep {ll : Int} {jo ct ke ct2 ke2 : Nat → Int} {s : Nat} (h : KE ll jo ct ke) (hk : KP ct ke ct2 ke2 s) (hs : s < 5 * ll.toNat) : KE ll jo ct2 ke2 := fun k hk4 => by
  obtain ⟨a, b⟩ := h k hk4
  rw [hk.1 _ (by omega), hk.2 _ (by omega)]
  exact ⟨a, b⟩
/-- the ranked spots behind a place, and those of the place below a kind -/
def KR (ll : Int) (pl ln kd cs fi jo bf ct ke : Nat → Int) (p : Int) (k0 : Int) : Prop := ∀ q k : Nat, (q : Int) < ll → k < 4 → (p < (q : Int) ∨ ((q : Int) = p ∧ (k : Int) < k0)) → RS1 pl ln kd cs fi jo bf ct ke q k
theorem KR.so {ll cnt p k0 : Int} {pl ln kd cs fi jo bf ct ke : Nat → Int} (hE : KE ll jo ct ke) (h : KR ll pl ln kd cs fi jo bf ct ke p k0) (hl : 0 ≤ ll) : ∀ s : Nat, s < 125 → 5 * p + 5 ≤ (s : Int) → (s : Int) < 5 * ll + 4 → s % 5 < 4 → SO (ct s) (kl ke s) := by
  intro s h1 h2 h3 h4
  by_cases e : ((s / 5 : Nat) : Int) < ll
  · have := (h (s / 5) (s % 5) e h4 (Or.inl (by omega))).so
    rw [show 5 * (s / 5) + s % 5 = s by omega] at this
    exact this
  · have := (hE (s % 5) h4).1
    rw [show 5 * ll.toNat + s % 5 = s by omega] at this
    intro r t hrt ht
    omega
theorem KR.put {ll cnt : Int} {pl ln kd cs fi jo bf ct ke ct2 ke2 : Nat → Int} {p k0 : Int} (hG : GN ll cnt pl ln kd cs fi) (hc : CB ct) (h : KR ll pl ln kd cs fi jo bf ct ke p k0) (hp0 : 0 ≤ p) (hp : p < ll) (hk0 : 0 ≤ k0) (hk4 : k0 ≤ 4) (hP : KP ct ke ct2 ke2 (5 * p.toNat + k0.toNat)) (hn : RS0 pl ln kd cs fi jo bf ct ke ct2 ke2 p.toNat k0.toNat) : KR ll pl ln kd cs fi jo bf ct2 ke2 p (k0 + 1) := by
  intro q k hq hk hpos
  by_cases e : q = p.toNat ∧ k = k0.toNat
  · obtain ⟨rfl, rfl⟩ := e
    exact hn.new hG hc hq (by omega) hP
  · exact (h q k hq hk (by omega)).keep hG hc hq (by omega) (fun s h1 h2 => hP.at (by omega))
theorem KR.next {ll p : Int} {pl ln kd cs fi jo bf ct ke : Nat → Int} (h : KR ll pl ln kd cs fi jo bf ct ke p 4) : KR ll pl ln kd cs fi jo bf ct ke (p + -1) 0 := fun q k hq hk hpos => h q k hq hk (by omega)
theorem KW.of {ll cnt : Int} {pl ln kd cs fi jo bf ct ke ct2 ke2 : Nat → Int} {k0 : Int} (hG : GN ll cnt pl ln kd cs fi) (hc : CB ct) (hl : 1 ≤ ll) (hB : BFS cnt pl ln kd cs jo bf) (hE : KE ll jo ct ke) (h : KR ll pl ln kd cs fi jo bf ct ke 0 k0) (hk0 : k0 ≤ 0) (hP : KP ct ke ct2 ke2 (5 * 0 + 4)) (hn : RS0 pl ln kd cs fi jo bf ct ke ct2 ke2 0 4) : KW ll cnt pl ln kd cs fi jo bf ct2 ke2 := by
  refine ⟨hB, hE.keep hP (by omega), fun q k h1 h2 h3 => ?_, hn.new hG hc (by omega) (by omega) hP⟩
  exact (h q k h2 h3 (Or.inl (by omega))).keep hG hc h2 (by omega) (fun s _ h5 => hP.at (by omega))
/-- a cutting that is being followed -/
def FI (ll cnt : Int) (pl ln kd bf ct ke fo : Nat → Int) (i : Int) (cn sp ra : Nat) : Prop := (∀ j : Nat, j < cn → 0 ≤ wk (nC ll pl ln kd ke) (ke (48 + i).toNat % 8192) j ∧ wk (nC ll pl ln kd ke) (ke (48 + i).toNat % 8192) j / 16 < cnt ∧ fo j = wk (nC ll pl ln kd ke) (ke (48 + i).toNat % 8192) j / 16 ∧ oW ln kd (wk (nC ll pl ln kd ke) (ke (48 + i).toNat % 8192)) (j + 1) ≤ 72) ∧ ((cn = 0 ∧ sp = 4 ∧ (ra : Int) = i) ∨ (1 ≤ cn ∧ sp = sb pl ln kd (wk (nC ll pl ln kd ke) (ke (48 + i).toNat % 8192) (cn - 1) / 16).toNat ∧ (ra : Int) = wk (nC ll pl ln kd ke) (ke (48 + i).toNat % 8192) (cn - 1) % 16)) ∧ bf sp < 1000000 ∧ (ra : Int) < ct sp ∧ cn ≤ sp / 5 ∧ oW ln kd (wk (nC ll pl ln kd ke) (ke (48 + i).toNat % 8192)) cn ≤ ((sp / 5 : Nat) : Int) + 2 * cn ∧ ((1 ≤ sp / 5 ∧ sp % 5 < 4) ∨ sp = 4) ∧ ((sp / 5 : Nat) : Int) ≤ ll
theorem FI.zero {ll cnt i : Int} {pl ln kd bf ct ke fo : Nat → Int} (hb : bf 4 = 0) (h0 : 0 ≤ i) (h1 : i < ct 4) (hl : 0 ≤ ll) : FI ll cnt pl ln kd bf ct ke fo i 0 4 i.toNat := ⟨fun j hj => by omega, Or.inl ⟨rfl, rfl, by omega⟩, by omega, by omega, by omega, by show (0 : Int) ≤ _; omega, Or.inr rfl, by omega⟩
theorem FI.step {ll cnt i : Int} {pl ln kd cs fi jo bf ct ke fo : Nat → Int} {cn sp ra : Nat} (hG : GN ll cnt pl ln kd cs fi) (hJ : JB jo) (hc : CB ct) (hK : KW ll cnt pl ln kd cs fi jo bf ct ke) (h0 : 0 ≤ i) (h : FI ll cnt pl ln kd bf ct ke fo i cn sp ra) (hs : (sp : Int) < 5 * ll) : ∃ y s : Nat, (y : Int) < cnt ∧ s < 12 ∧ ke (12 * sp + ra) % 8192 = 16 * y + s ∧ FI ll cnt pl ln kd bf ct ke (zup fo cn y) i (cn + 1) (sb pl ln kd y) s := by
  obtain ⟨a1, a2, a3, a4, a5, a6, a7, a8⟩ := h
  obtain ⟨y, s, b1, b2, b3, b4, b5, b6⟩ := KW.go hG hJ hc hK (q := sp / 5) (k := sp % 5) (r := ra) (by omega) (by omega) (by rw [show 5 * (sp / 5) + sp % 5 = sp by omega]; exact a3) (by rw [show 5 * (sp / 5) + sp % 5 = sp by omega]; exact a4)
  rw [show 5 * (sp / 5) + sp % 5 = sp by omega] at b4
  have hy := hG.2.1 y b1
  have hsy := hG.spot b1
  have hl := hG.1
  have hw : wk (nC ll pl ln kd ke) (ke (48 + i).toNat % 8192) cn = 16 * y + s := by
    rcases a2 with ⟨c1, c2, c3⟩ | ⟨c1, c2, c3⟩
    · subst c1
      show ke (48 + i).toNat % 8192 = _
      rw [show (48 + i).toNat = 12 * sp + ra by omega]
      exact b4
    · have e : wk (nC ll pl ln kd ke) (ke (48 + i).toNat % 8192) cn = nC ll pl ln kd ke (wk (nC ll pl ln kd ke) (ke (48 + i).toNat % 8192) (cn - 1)) := by
        rw [show cn = cn - 1 + 1 by omega]; rfl
      rw [e]
      unfold nC
      have hj := a1 (cn - 1) (by omega)
      have hsj := hG.spot (y := (wk (nC ll pl ln kd ke) (ke (48 + i).toNat % 8192) (cn - 1) / 16).toNat) (by omega)
      have hgj := hG.2.1 (wk (nC ll pl ln kd ke) (ke (48 + i).toNat % 8192) (cn - 1) / 16).toNat (by omega)
      rw [if_pos ?_]
      · have e2 : 12 * sb pl ln kd (wk (nC ll pl ln kd ke) (ke (48 + i).toNat % 8192) (cn - 1) / 16).toNat + (wk (nC ll pl ln kd ke) (ke (48 + i).toNat % 8192) (cn - 1) % 16).toNat = 12 * sp + ra := by
          rw [← c2, ← c3]; omega
        unfold nC at e2
        rw [e2]
        exact b4
      · have e3 : pl (wk (nC ll pl ln kd ke) (ke (48 + i).toNat % 8192) (cn - 1) / 16).toNat + ln (wk (nC ll pl ln kd ke) (ke (48 + i).toNat % 8192) (cn - 1) / 16).toNat < ll := by
          rw [← c2] at hsj
          omega
        unfold nC at e3
        exact e3
  have hdiv : ((16 * (y : Int) + s) / 16) = y := by omega
  have hoW : oW ln kd (wk (nC ll pl ln kd ke) (ke (48 + i).toNat % 8192)) (cn + 1) ≤ pl y + ln y + 2 * ((cn + 1 : Nat) : Int) := by
    show oW ln kd (wk (nC ll pl ln kd ke) (ke (48 + i).toNat % 8192)) cn + ln (wk (nC ll pl ln kd ke) (ke (48 + i).toNat % 8192) cn / 16).toNat + (if kd (wk (nC ll pl ln kd ke) (ke (48 + i).toNat % 8192) cn / 16).toNat = 3 then 1 else 0) + 1 ≤ _
    rw [hw, hdiv, show ((y : Int)).toNat = y by omega]
    split <;> omega
  refine ⟨y, s, b1, b3, b4, fun j hj => ?_, Or.inr ⟨by omega, ?_, ?_⟩, b5, b6, by omega, by omega, Or.inl ⟨by omega, by omega⟩, by omega⟩
  · by_cases e : j = cn
    · subst e
      rw [hw, hdiv, zup_eq]
      exact ⟨by omega, b1, rfl, by omega⟩
    · rw [zup_ne e]; exact a1 j (by omega)
  · rw [show cn + 1 - 1 = cn by omega, hw, hdiv]; rfl
  · rw [show cn + 1 - 1 = cn by omega, hw]; omega
theorem FI.done {ll cnt i : Int} {pl ln kd cs fi bf ct ke fo : Nat → Int} {cn sp ra : Nat} (hG : GN ll cnt pl ln kd cs fi) (h : FI ll cnt pl ln kd bf ct ke fo i cn sp ra) (hl : 1 ≤ ll) (hs : 5 * ll ≤ (sp : Int)) : PA (nC ll pl ln kd ke) (ke (48 + i).toNat % 8192) cn := by
  obtain ⟨a1, a2, a3, a4, a5, a6, a7, a8⟩ := h
  refine ⟨fun j hj => (a1 j hj).1, ?_⟩
  rcases a2 with ⟨c1, c2, c3⟩ | ⟨c1, c2, c3⟩
  · omega
  · have e : wk (nC ll pl ln kd ke) (ke (48 + i).toNat % 8192) cn = nC ll pl ln kd ke (wk (nC ll pl ln kd ke) (ke (48 + i).toNat % 8192) (cn - 1)) := by
      rw [show cn = cn - 1 + 1 by omega]; rfl
    have hj := a1 (cn - 1) (by omega)
    have hsj := hG.spot (y := (wk (nC ll pl ln kd ke) (ke (48 + i).toNat % 8192) (cn - 1) / 16).toNat) (by omega)
    have hgj := hG.2.1 (wk (nC ll pl ln kd ke) (ke (48 + i).toNat % 8192) (cn - 1) / 16).toNat (by omega)
    rw [e]
    show (if pl (wk (nC ll pl ln kd ke) (ke (48 + i).toNat % 8192) (cn - 1) / 16).toNat + ln (wk (nC ll pl ln kd ke) (ke (48 + i).toNat % 8192) (cn - 1) / 16).toNat < ll then _ else (-6 : Int)) < 0
    rw [if_neg (by omega)]
    decide
/-- what has been written, piece by piece -/
def SW1 (li pl ln kd cd sg : Nat → Int) (s : Nat) (wc : Int) : Prop := (s = 0 → wc = 0) ∧ (1 ≤ s → wc = oW ln kd cd s - 1) ∧ ∀ q : Nat, (q : Int) < wc → SG li pl ln kd cd s q (sg q)
theorem SW1.bar {li pl ln kd cd sg : Nat → Int} {s : Nat} {wc : Int} (h : SW1 li pl ln kd cd sg s wc) (hs : 1 ≤ s) (h0 : 0 ≤ wc) (hl : 1 ≤ ln (cd (s - 1) / 16).toNat) : ∀ q : Nat, (q : Int) < wc + 1 → SG li pl ln kd cd (s + 1) q (zup sg wc.toNat 124 q) := by
  obtain ⟨a1, a2, a3⟩ := h
  have ew := a2 hs
  have eo : oW ln kd cd s = oW ln kd cd (s - 1) + ln (cd (s - 1) / 16).toNat + (if kd (cd (s - 1) / 16).toNat = 3 then 1 else 0) + 1 := by
    rw [show s = s - 1 + 1 by omega]; rfl
  intro q hq
  by_cases e : q = wc.toNat
  · rw [e, zup_eq]
    refine ⟨s - 1, by omega, ?_, ?_, fun z => by omega, ?_⟩
    · split at eo <;> omega
    · rw [show s - 1 + 1 = s by omega]; omega
    · unfold sgv
      split at eo
      · rw [if_neg (by omega), if_neg (by omega)]
      · rename_i hk
        rw [if_neg (by omega), if_neg (fun z => hk z.2)]
  · rw [zup_ne e]
    obtain ⟨j, j1, j2, j3, j4, j5⟩ := a3 q (by omega)
    exact ⟨j, by omega, j2, j3, fun z => by omega, j5⟩
theorem SW1.piece {li pl ln kd cd sg sg2 : Nat → Int} {s : Nat} {wc wc2 : Int} (h : ∀ q : Nat, (q : Int) < wc → SG li pl ln kd cd (s + 1) q (sg q)) (hw : wc = oW ln kd cd s) (h2 : wc2 = wc + ln (cd s / 16).toNat + (if kd (cd s / 16).toNat = 3 then 1 else 0)) (hold : ∀ q : Nat, (q : Int) < wc → sg2 q = sg q) (hnew : ∀ q : Nat, wc ≤ (q : Int) → (q : Int) < wc2 → sg2 q = sgv li pl ln kd (cd s / 16).toNat (q - wc)) : SW1 li pl ln kd cd sg2 (s + 1) wc2 := by
  have eo : oW ln kd cd (s + 1) = oW ln kd cd s + ln (cd s / 16).toNat + (if kd (cd s / 16).toNat = 3 then 1 else 0) + 1 := rfl
  refine ⟨fun z => by omega, fun _ => by omega, fun q hq => ?_⟩
  by_cases e : (q : Int) < wc
  · rw [hold q e]; exact h q e
  · exact ⟨s, by omega, by omega, by omega, fun _ => by omega, by rw [hnew q (by omega) hq, hw]⟩
theorem zPT.full {sg le si ki co le' si' ki' co' : Nat → Int} {L K C dc dc' : Int} (h : zPT sg L K C (-4) dc le si ki co dc' le' si' ki' co') (h0 : 0 ≤ dc) : DS dc le si ki co dc' le' si' ki' co' := by
  rcases h with ⟨-, -, -, h⟩ | ⟨h, -⟩ | ⟨w, h, -⟩
  · exact h
  · omega
  · omega
