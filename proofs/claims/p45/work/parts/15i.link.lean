/-! THE CLASS: link, planets -/
def lrow (κ f s t a b : Nat) : Nat → Nat
  | 0 => κ
  | 1 => f
  | 2 => s
  | 3 => t
  | 4 => a
  | _ => b
def mnP (x a b : Int32) : Prop := ((x = 103 ∨ x = 105) ∧ (6 ≤ a.toInt ∧ a.toInt ≤ 30) ∧ 6 ≤ b.toInt ∧ b.toInt ≤ 30) ∨ (x = 118 ∧ (3 ≤ a.toInt ∧ a.toInt ≤ 12) ∧ b = 0) ∨ (x = 114 ∧ (3 ≤ a.toInt ∧ a.toInt ≤ 24) ∧ b = 0) ∨ (x = 107 ∧ a = 0 ∧ b = 0)
theorem nI_rng {x : Int32} {lo hi : Int} (h0 : 0 ≤ lo) (hh : hi < 1000) (h : lo ≤ x.toInt ∧ x.toInt ≤ hi) : ∃ a : Nat, x = nI a ∧ lo ≤ (a : Int) ∧ (a : Int) ≤ hi := by
  obtain ⟨s, hs, e⟩ := inR_ex (x := x) (n := 1000) ⟨by omega, by omega⟩ (by omega)
  refine ⟨s, e, ?_⟩
  rw [e, nI_toInt (by omega)] at h
  exact h
theorem mnP_ex {x a b : Int32} (h : mnP x a b) : ∃ κ av bv : Nat, x = nI κ ∧ a = nI av ∧ b = nI bv ∧ κ ≠ 112 ∧ (((κ = 103 ∨ κ = 105 ∨ κ = 112) ∧ 6 ≤ av ∧ av ≤ 30 ∧ 6 ≤ bv ∧ bv ≤ 30) ∨ (κ = 118 ∧ 3 ≤ av ∧ av ≤ 12 ∧ bv = 0) ∨ (κ = 114 ∧ 3 ≤ av ∧ av ≤ 24 ∧ bv = 0) ∨ (κ = 107 ∧ av = 0 ∧ bv = 0)) := by
  rcases h with ⟨hx, ha, hb⟩ | ⟨hx, ha, hb⟩ | ⟨hx, ha, hb⟩ | ⟨hx, ha, hb⟩
  · obtain ⟨av, ea, a1, a2⟩ := nI_rng (by decide) (by decide) ha
    obtain ⟨bv, eb, b1, b2⟩ := nI_rng (by decide) (by decide) hb
    rcases hx with hx | hx
    · exact ⟨103, av, bv, hx, ea, eb, by decide, by omega⟩
    · exact ⟨105, av, bv, hx, ea, eb, by decide, by omega⟩
  · obtain ⟨av, ea, a1, a2⟩ := nI_rng (by decide) (by decide) ha
    exact ⟨118, av, 0, hx, ea, hb, by decide, by omega⟩
  · obtain ⟨av, ea, a1, a2⟩ := nI_rng (by decide) (by decide) ha
    exact ⟨114, av, 0, hx, ea, hb, by decide, by omega⟩
  · exact ⟨107, 0, 0, hx, ha, hb, by decide, by omega⟩
theorem kOK_row {G : Nat → Nat → Nat} {nl κ f s t a b : Nat} (h : ((κ = 103 ∨ κ = 105 ∨ κ = 112) ∧ 6 ≤ a ∧ a ≤ 30 ∧ 6 ≤ b ∧ b ≤ 30) ∨ (κ = 118 ∧ 3 ≤ a ∧ a ≤ 12 ∧ b = 0) ∨ (κ = 114 ∧ 3 ≤ a ∧ a ≤ 24 ∧ b = 0) ∨ (κ = 107 ∧ a = 0 ∧ b = 0)) : kOK (gx G nl (lrow κ f s t a b)) nl := by
  unfold kOK
  rw [gx_s]
  exact h
theorem p_isWithin {S : Hp} {Φ : Hp → Int32 → Prop} {x lo hi : Int32} (k1 : (lo.toInt ≤ x.toInt ∧ x.toInt ≤ hi.toInt) → Φ S 1) (k0 : ¬ (lo.toInt ≤ x.toInt ∧ x.toInt ≤ hi.toInt) → Φ S 0) : wX7_isWithin S x lo hi Φ := by
  unfold wX7_isWithin wX7_isWithin_b0
  by_cases c : x < lo
  · exact if_p c (k0 (fun q => by have := ltI_iff.mp c; omega))
  · have c' := fun q => c (ltI_iff.mpr q)
    by_cases c2 : hi < x
    · exact if_n c (if_p c2 (k0 (fun q => by have := ltI_iff.mp c2; omega)))
    · have c2' := fun q => c2 (ltI_iff.mpr q)
      exact if_n c (if_n c2 (k1 ⟨Int.not_lt.mp c', Int.not_lt.mp c2'⟩))
theorem p_hasMeaning {S : Hp} {Φ : Hp → Int32 → Prop} {x a b : Int32} (k1 : mnP x a b → Φ S 1) (k0 : ¬ mnP x a b → Φ S 0) : wX7_hasMeaning S x a b Φ := by
  have gi : x = 103 ∨ x = 105 → wX7_hasMeaning_b12 x a b Φ S := fun hx => by
    have no : ∀ {P : Prop}, (¬ P) → (x = 118 ∨ x = 114 ∨ x = 107 → P) := fun hP q => by
      rcases hx with e | e <;> rw [e] at q <;> exact absurd q (by decide)
    have only : mnP x a b → (6 ≤ a.toInt ∧ a.toInt ≤ 30) ∧ 6 ≤ b.toInt ∧ b.toInt ≤ 30 := fun h => by
      rcases h with h | h | h | h
      · exact h.2
      · exact absurd h.1 (by rcases hx with e | e <;> rw [e] <;> decide)
      · exact absurd h.1 (by rcases hx with e | e <;> rw [e] <;> decide)
      · exact absurd h.1 (by rcases hx with e | e <;> rw [e] <;> decide)
    unfold wX7_hasMeaning_b12
    refine p_isWithin (fun ha => if_n (by decide) (p_isWithin (fun hb => if_n (by decide) (k1 (Or.inl ⟨hx, ha, hb⟩))) (fun hb => if_p rfl (k0 (fun q => hb (only q).2))))) (fun ha => if_p rfl (k0 (fun q => ha (only q).1)))
  unfold wX7_hasMeaning wX7_hasMeaning_b0
  by_cases c1 : x = 103
  · exact if_p c1 (gi (Or.inl c1))
  refine if_n c1 ?_
  by_cases c2 : x = 105
  · exact fi_p c2 (gi (Or.inr c2))
  refine fi_n c2 ?_
  by_cases c3 : x = 118
  · refine fi_p c3 (p_isWithin (fun ha => if_n (by decide) ?_) (fun ha => if_p rfl (k0 (fun q => ?_))))
    · by_cases cb : b = 0
      · exact fi_p cb (k1 (Or.inr (Or.inl ⟨c3, ha, cb⟩)))
      · refine fi_n cb (k0 (fun q => ?_))
        rcases q with q | q | q | q
        · exact q.1.elim c1 c2
        · exact cb q.2.2
        · exact cb q.2.2
        · exact cb q.2.2
    · rcases q with q | q | q | q
      · exact q.1.elim c1 c2
      · exact ha q.2.1
      · exact absurd q.1 (by rw [c3]; decide)
      · exact absurd q.1 (by rw [c3]; decide)
  refine fi_n c3 ?_
  by_cases c4 : x = 114
  · refine fi_p c4 (p_isWithin (fun ha => if_n (by decide) ?_) (fun ha => if_p rfl (k0 (fun q => ?_))))
    · by_cases cb : b = 0
      · exact fi_p cb (k1 (Or.inr (Or.inr (Or.inl ⟨c4, ha, cb⟩))))
      · refine fi_n cb (k0 (fun q => ?_))
        rcases q with q | q | q | q
        · exact q.1.elim c1 c2
        · exact cb q.2.2
        · exact cb q.2.2
        · exact cb q.2.2
    · rcases q with q | q | q | q
      · exact q.1.elim c1 c2
      · exact c3 q.1
      · exact ha q.2.1
      · exact absurd q.1 (by rw [c4]; decide)
  refine fi_n c4 ?_
  by_cases c5 : x = 107
  · refine fi_p c5 ?_
    by_cases ca : a = 0
    · refine fi_p ca ?_
      by_cases cb : b = 0
      · exact fi_p cb (k1 (Or.inr (Or.inr (Or.inr ⟨c5, ca, cb⟩))))
      · refine fi_n cb (k0 (fun q => ?_))
        rcases q with q | q | q | q
        · exact q.1.elim c1 c2
        · exact cb q.2.2
        · exact cb q.2.2
        · exact cb q.2.2
    · refine fi_n ca (k0 (fun q => ?_))
      rcases q with q | q | q | q
      · exact q.1.elim c1 c2
      · exact c3 q.1
      · exact c4 q.1
      · exact ca q.2.1
  · refine fi_n c5 (k0 (fun q => ?_))
    rcases q with q | q | q | q
    · exact q.1.elim c1 c2
    · exact c3 q.1
    · exact c4 q.1
    · exact c5 q.1
/-- what holds once a link has come -/
def LnkNew (A : Nat → Nat) (ls : Nat → List Nat) (nl nc nd ns : Nat) (G : Nat → Nat → Nat) (g : Nat → Nat) (P : Nat → Rat) (D : Dt) (S' : Hp) (A' E' : Nat → Nat) (ls' : Nat → List Nat) (D' : Dt) : Prop :=
  (∀ r, al nl nc nd r → A' r = A r) ∧ Rep A' E' ls' (nl + 1) nc nd S' D' ∧ (drv G nl (g 3) = none ∧ ∀ s, s < ns → dpF (gx G nl g) (nl + 1) 4 s ≤ 3) ∧ (GrOK ns (nl + 1) (gx G nl g) ∧ Lev (nl + 1) (gx G nl g) (dp (gx G nl g) (nl + 1))) ∧ SamG (fun _ r => r = 400 + nl) (fun r => r = 5 ∨ r = 6 ∨ r = 63 ∨ r = 400 + nl) (fun r => r = 60 ∨ r = 400 + nl) D D' ∧ LkC (gx G nl g) (nl + 1) D' ∧ (D'.FI 327 (400 + nl) = 1 ∧ D'.FI 328 (400 + nl) = 0 ∧ D'.FI 329 (400 + nl) = 0 ∧ D'.FI 330 (400 + nl) = 0) ∧ DrA (gx G nl g) (nl + 1) 14 5 D' ∧
      (∀ i, D'.AI 63 i = if i = nl then 1 else D.AI 63 i) ∧ (∀ i, D'.AJ 60 i = if i = nl then i6 (fl (g 4 : Nat) (P (g 1))) else D.AJ 60 i) ∧ ls' 0 = (List.range (nl + 1)).map (fun k => A' (400 + k)) ∧ (∃ ol, ls' 1 = ol.map (fun k => A' (400 + k)) ∧ OlOK (gx G nl g) (nl + 1) ol) ∧ (∀ i, i ≠ 0 → i ≠ 1 → ls' i = ls i)
def LnkNo (A E : Nat → Nat) (ls : Nat → List Nat) (nl nc nd : Nat) (D : Dt) (S' : Hp) (A' : Nat → Nat) (D' : Dt) : Prop :=
  (∀ r, al nl nc nd r → A' r = A r) ∧ Rep A' E ls nl nc nd S' D' ∧ SamG (fun _ r => r = 400 + nl) (fun r => r = 6 ∨ r = 400 + nl) (fun r => r = 400 + nl) D D'
section LN9
variable {A E : Nat → Nat} {ls : Nat → List Nat} {nl nc nd : Nat} {S : Hp} {D : Dt} {G : Nat → Nat → Nat}
theorem p_linkC {Φ : Hp → Int32 → Prop} {Ψ : Hp → String → Prop} {ns n : Nat} {lv : Nat → Nat} {P : Nat → Rat} {x1 x2 x3 x4 x5 : Int32} (h : Rep A E ls nl nc nd S D) (hC : LkC G nl D) (hG : GrOK ns nl G) (hL : Lev nl G lv) (hns : D.FI 461 0 = nI ns) (hls : ls 0 = (List.range nl).map (fun k => A (400 + k))) (hdr : DrA G nl 14 5 D) (hP : RowV D 2 14 P) (hB : BdP G nl n P) (hn : n ≤ 24600)
    (kt1 : ¬ (inR x2 ns ∧ inR x3 ns) → Ψ S "java/lang/IndexOutOfBoundsException") (kt2 : inR x2 ns → inR x3 ns → ¬ mnP x1 x4 x5 → Ψ S "java/lang/IllegalArgumentException")
    (kt3 : ∀ κ f t a b, κ ≠ 112 → f < ns → t < ns → x1 = nI κ → x2 = nI f → x3 = nI t → x4 = nI a → x5 = nI b → mnP x1 x4 x5 → kOK (gx G nl (lrow κ f 0 t a b)) nl → ∀ S' A' D', LnkNo A E ls nl nc nd D S' A' D' → (f = t ∨ drv G nl t ≠ none ∨ ¬ ∀ s, s < ns → dpF (gx G nl (lrow κ f 0 t a b)) (nl + 1) 4 s ≤ 3) → Ψ S' "java/lang/UnsupportedOperationException")
    (kk : ∀ κ f t a b, κ ≠ 112 → f < ns → t < ns → x1 = nI κ → x2 = nI f → x3 = nI t → x4 = nI a → x5 = nI b → mnP x1 x4 x5 → kOK (gx G nl (lrow κ f 0 t a b)) nl → f ≠ t → ∀ S' A' E' ls' D', LnkNew A ls nl nc nd ns G (lrow κ f 0 t a b) P D S' A' E' ls' D' → Φ S' (nI nl)) : wX7_link S (A 0) x1 x2 x3 x4 x5 Φ Ψ := by
  have h14 := hG.1
  unfold wX7_link wX7_link_b0
  refine ⟨c_is h, p_checkShaft h hns h14 (fun f hf e2 => ⟨c_is h, p_checkShaft h hns h14 (fun t ht e3 => ?_) (fun q => kt1 (fun z => q z.2))⟩) (fun q => kt1 (fun z => q z.1))⟩
  have i2 : inR x2 ns := by rw [e2]; exact inR_nI hf (by omega)
  have i3 : inR x3 ns := by rw [e3]; exact inR_nI ht (by omega)
  refine p_hasMeaning (fun hm => fi_n (by decide) ?_) (fun hm => fi_p rfl (kt2 i2 i3 hm))
  obtain ⟨κ, a, b, e1, e4, e5, h112, hr⟩ := mnP_ex hm
  have hk : kOK (gx G nl (lrow κ f 0 t a b)) nl := kOK_row hr
  by_cases c : x2 = x3
  · refine fi_p c (kt3 κ f t a b h112 hf ht e1 e2 e3 e4 e5 hm hk S A D ⟨fun _ _ => rfl, h, SamG.rf⟩ (Or.inl ?_))
    rw [e2, e3] at c
    exact (nI_iff (by omega) (by omega)).mp c
  · refine fi_n c (fun q S10 hq eS => ?_)
    have hsec : sec (gx G nl (lrow κ f 0 t a b)) nl = -1 := by
      unfold sec
      rw [gx_s]
      exact if_neg h112
    have hft : f ≠ t := fun e => c (by rw [e2, e3, e])
    have := p_newLink (Φ := Φ) (Ψ := Ψ) (g := lrow κ f 0 t a b) (n := n) h hq hC hG hL hk hf (fun e => absurd e h112) ht hns hls hdr hP hB hn (fun S' D' A' a1 a2 a3 a4 => kt3 κ f t a b h112 hf ht e1 e2 e3 e4 e5 hm hk S' A' D' ⟨a1, a2, a3⟩ (Or.inr a4)) (fun S' A' E' ls' D' ol b1 b2 b3 b4 b5 b6 b7 b8 b9 b10 b11 b12 b13 b14 b15 b16 b17 b18 b19 => kk κ f t a b h112 hf ht e1 e2 e3 e4 e5 hm hk hft S' A' E' ls' D' ⟨b1, b2, ⟨b3, b4⟩, ⟨b5, b6⟩, b7, b8, ⟨b9, b10, b11, b12⟩, b13, b14, b15, b16, ⟨ol, b17, b18⟩, b19⟩)
    rw [eS, e1, e2, e3, e4, e5]
    rw [hsec] at this
    exact this
theorem p_planetsC {Φ : Hp → Int32 → Prop} {Ψ : Hp → String → Prop} {ns n : Nat} {lv : Nat → Nat} {P : Nat → Rat} {x1 x2 x3 x4 x5 : Int32} (h : Rep A E ls nl nc nd S D) (hC : LkC G nl D) (hG : GrOK ns nl G) (hL : Lev nl G lv) (hns : D.FI 461 0 = nI ns) (hls : ls 0 = (List.range nl).map (fun k => A (400 + k))) (hdr : DrA G nl 14 5 D) (hP : RowV D 2 14 P) (hB : BdP G nl n P) (hn : n ≤ 24600)
    (kt1 : ¬ (inR x1 ns ∧ inR x2 ns ∧ inR x3 ns) → Ψ S "java/lang/IndexOutOfBoundsException") (kt2 : inR x1 ns → inR x2 ns → inR x3 ns → ¬ ((6 ≤ x4.toInt ∧ x4.toInt ≤ 30) ∧ 6 ≤ x5.toInt ∧ x5.toInt ≤ 30) → Ψ S "java/lang/IllegalArgumentException")
    (kt3 : ∀ f s t a b, f < ns → s < ns → t < ns → x1 = nI f → x2 = nI s → x3 = nI t → x4 = nI a → x5 = nI b → ((6 ≤ x4.toInt ∧ x4.toInt ≤ 30) ∧ 6 ≤ x5.toInt ∧ x5.toInt ≤ 30) → kOK (gx G nl (lrow 112 f s t a b)) nl → ∀ S' A' D', LnkNo A E ls nl nc nd D S' A' D' → ((f = s ∨ f = t ∨ s = t) ∨ drv G nl t ≠ none ∨ ¬ ∀ r, r < ns → dpF (gx G nl (lrow 112 f s t a b)) (nl + 1) 4 r ≤ 3) → Ψ S' "java/lang/UnsupportedOperationException")
    (kk : ∀ f s t a b, f < ns → s < ns → t < ns → x1 = nI f → x2 = nI s → x3 = nI t → x4 = nI a → x5 = nI b → ((6 ≤ x4.toInt ∧ x4.toInt ≤ 30) ∧ 6 ≤ x5.toInt ∧ x5.toInt ≤ 30) → kOK (gx G nl (lrow 112 f s t a b)) nl → ¬ (f = s ∨ f = t ∨ s = t) → ∀ S' A' E' ls' D', LnkNew A ls nl nc nd ns G (lrow 112 f s t a b) P D S' A' E' ls' D' → Φ S' (nI nl)) : wX7_planets S (A 0) x1 x2 x3 x4 x5 Φ Ψ := by
  have h14 := hG.1
  unfold wX7_planets wX7_planets_b0
  refine ⟨c_is h, p_checkShaft h hns h14 (fun f hf e1 => ⟨c_is h, p_checkShaft h hns h14 (fun s hs e2 => ⟨c_is h, p_checkShaft h hns h14 (fun t ht e3 => ?_) (fun q => kt1 (fun z => q z.2.2))⟩) (fun q => kt1 (fun z => q z.2.1))⟩) (fun q => kt1 (fun z => q z.1))⟩
  have i1 : inR x1 ns := by rw [e1]; exact inR_nI hf (by omega)
  have i2 : inR x2 ns := by rw [e2]; exact inR_nI hs (by omega)
  have i3 : inR x3 ns := by rw [e3]; exact inR_nI ht (by omega)
  refine p_checkRange (fun a1 a2 => p_checkRange (fun b1 b2 => ?_) (fun q => kt2 i1 i2 i3 (fun z => q z.2))) (fun q => kt2 i1 i2 i3 (fun z => q z.1))
  have hm : (6 ≤ x4.toInt ∧ x4.toInt ≤ 30) ∧ 6 ≤ x5.toInt ∧ x5.toInt ≤ 30 := ⟨⟨a1, a2⟩, b1, b2⟩
  obtain ⟨a, e4, c1, c2⟩ := nI_rng (by decide) (by decide) hm.1
  obtain ⟨b, e5, d1, d2⟩ := nI_rng (by decide) (by decide) hm.2
  have hk : kOK (gx G nl (lrow 112 f s t a b)) nl := kOK_row (Or.inl ⟨Or.inr (Or.inr rfl), by omega⟩)
  have same : (f = s ∨ f = t ∨ s = t) → Ψ S "java/lang/UnsupportedOperationException" := fun q => kt3 f s t a b hf hs ht e1 e2 e3 e4 e5 hm hk S A D ⟨fun _ _ => rfl, h, SamG.rf⟩ (Or.inl q)
  have eqI : ∀ {u v : Nat}, u < ns → v < ns → nI u = nI v → u = v := fun hu hv q => (nI_iff (by omega) (by omega)).mp q
  by_cases k1 : x1 = x2
  · refine if_p k1 ?_
    unfold wX7_planets_b48
    exact same (Or.inl (eqI hf hs (by rw [← e1, ← e2]; exact k1)))
  refine if_n k1 ?_
  by_cases k2 : x1 = x3
  · refine if_p k2 ?_
    unfold wX7_planets_b48
    exact same (Or.inr (Or.inl (eqI hf ht (by rw [← e1, ← e3]; exact k2))))
  refine if_n k2 ?_
  by_cases k3 : x2 = x3
  · refine fi_p k3 ?_
    unfold wX7_planets_b48
    exact same (Or.inr (Or.inr (eqI hs ht (by rw [← e2, ← e3]; exact k3))))
  refine fi_n k3 (fun q S10 hq eS => ?_)
  have hsec : sec (gx G nl (lrow 112 f s t a b)) nl = nI s := by
    unfold sec
    rw [gx_s]
    exact if_pos rfl
  have hne : ¬ (f = s ∨ f = t ∨ s = t) := fun z => by
    rcases z with z | z | z
    · exact k1 (by rw [e1, e2, z])
    · exact k2 (by rw [e1, e3, z])
    · exact k3 (by rw [e2, e3, z])
  have := p_newLink (Φ := Φ) (Ψ := Ψ) (g := lrow 112 f s t a b) (n := n) h hq hC hG hL hk hf (fun _ => hs) ht hns hls hdr hP hB hn (fun S' D' A' a1 a2 a3 a4 => kt3 f s t a b hf hs ht e1 e2 e3 e4 e5 hm hk S' A' D' ⟨a1, a2, a3⟩ (Or.inr a4)) (fun S' A' E' ls' D' ol b1 b2 b3 b4 b5 b6 b7 b8 b9 b10 b11 b12 b13 b14 b15 b16 b17 b18 b19 => kk f s t a b hf hs ht e1 e2 e3 e4 e5 hm hk hne S' A' E' ls' D' ⟨b1, b2, ⟨b3, b4⟩, ⟨b5, b6⟩, b7, b8, ⟨b9, b10, b11, b12⟩, b13, b14, b15, b16, ⟨ol, b17, b18⟩, b19⟩)
  rw [eS, e1, e2, e3, e4, e5]
  rw [hsec] at this
  exact this
end LN9
