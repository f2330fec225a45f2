/-! THE WORKS AS THE LAW SEES THEM: what is kept through each call -/
theorem xeq {x : Int32} {s s' : Nat} (e : x = nI s) (e' : x = nI s') (h : s < 100000) (h' : s' < 100000) : s' = s := ((nI_iff (by omega) (by omega)).mp (e'.symm.trans e))
theorem xin {x : Int32} {s n : Nat} (e : x = nI s) (hs : s < n) (hn : n ≤ 1000) : inR x n := by
  rw [e]
  exact inR_nI hs (by omega)
theorem f_congr {α : Type} {Z : α → Prop} {a b : α} (e : a = b) (h : Z a) : Z b := e ▸ h
/-- the links act, all that there are -/
def onL (nl : Nat) : Nat → Bool := fun k => decide (k < nl)
def ZC (ns nl : Nat) (G : Nat → Nat → Nat) (P W : Nat → Rat) (mk : Nat → Int) (aact : Nat → Bool) (D : Dt) : Prop :=
  (D.FI 461 0 = nI ns ∧ LkC G nl D ∧ DrA G nl 14 5 D) ∧
  (∀ k, k < nl → D.FI 328 (400 + k) = 0 ∧ D.FI 329 (400 + k) = 0) ∧
  (RowV D 2 14 P ∧ RowV D 1 16 W ∧ (∀ k, k < nl → D.AJ 60 k = i6 (mk k)) ∧ (∀ k, k < 16 → D.AI 63 k = bI (onL nl k))) ∧
  ((∀ k, k < 16 → D.AI 64 k = bI (aact k)) ∧ Last G ns nl P aact D)
def ZP (ns nl : Nat) (G : Nat → Nat → Nat) (P W : Nat → Rat) (mk : Nat → Int) (aact : Nat → Bool) (n : Nat) : Prop :=
  (GrOK ns nl G ∧ Lev nl G (dp G nl)) ∧ (RI G nl (onL nl) P mk ∧ BdP G nl n P ∧ BdW G nl n W ∧ MB nl mk) ∧ ((∀ k, nl ≤ k → W k = 0 ∧ aact k = false) ∧ ∀ s, ns ≤ s → P s = 0) ∧ n ≤ 24000
def ZL (A : Nat → Nat) (ls : Nat → List Nat) (nl : Nat) (G : Nat → Nat → Nat) (ol : List Nat) : Prop := ls 0 = (List.range nl).map (fun k => A (400 + k)) ∧ ls 1 = ol.map (fun k => A (400 + k)) ∧ ls 2 = [] ∧ ls 3 = [] ∧ OlOK G nl ol
/-- nc: how many of the law's arrays there are -/
def ZA (A E : Nat → Nat) (ls : Nat → List Nat) (ns nl nc n : Nat) (G : Nat → Nat → Nat) (P W : Nat → Rat) (mk : Nat → Int) (aact : Nat → Bool) (ol : List Nat) (S : Hp) (D : Dt) : Prop := Rep A E ls nl nc 0 S D ∧ ZL A ls nl G ol ∧ ZP ns nl G P W mk aact n ∧ ZC ns nl G P W mk aact D
/-- the law's own arrays hold what they held -/
def Kpt (D D' : Dt) : Prop := (∀ r, 500 ≤ r → D'.AI r = D.AI r) ∧ ∀ r, 500 ≤ r → D'.AJ r = D.AJ r
theorem Kpt.rf {D : Dt} : Kpt D D := ⟨fun _ _ => rfl, fun _ _ => rfl⟩
theorem Kpt.tr {D D' D'' : Dt} (h : Kpt D D') (h' : Kpt D' D'') : Kpt D D'' := ⟨fun r hr => (h'.1 r hr).trans (h.1 r hr), fun r hr => (h'.2 r hr).trans (h.2 r hr)⟩
section ZZ1
variable {A E : Nat → Nat} {ls : Nat → List Nat} {ns nl nc n : Nat} {G : Nat → Nat → Nat} {P W : Nat → Rat} {mk : Nat → Int} {aact : Nat → Bool} {ol : List Nat} {S : Hp} {D D' : Dt}
theorem zc_cg (h : ZC ns nl G P W mk aact D) (hl : nl ≤ 14) (eF : ∀ i r, r < 500 → D'.FI i r = D.FI i r) (eA : ∀ r, r < 500 → r ≠ 65 → r ≠ 6 → D'.AI r = D.AI r) (eJ : ∀ r, r < 500 → ¬ ((46 ≤ r ∧ r < 52) ∨ r = 62) → D'.AJ r = D.AJ r) : ZC ns nl G P W mk aact D' := by
  obtain ⟨a, b, c, d⟩ := h
  refine ⟨jcA a (eF _ _ (by decide)) (fun i r _ _ _ _ => eF i r (by omega)) (eA _ (by decide) (by decide) (by decide)), fun k hk => ?_, ⟨rowV_other c.1 (eJ _ (by omega) (by omega)) (eJ _ (by omega) (by omega)), rowV_other c.2.1 (eJ _ (by omega) (by omega)) (eJ _ (by omega) (by omega)), fun k hk => by rw [eJ 60 (by omega) (by omega)]; exact c.2.2.1 k hk, fun k hk => by rw [eA 63 (by decide) (by decide) (by decide)]; exact c.2.2.2 k hk⟩, jcF d (fun i _ => eF _ _ (by decide)) (eA _ (by decide) (by decide) (by decide)) (fun r hr => eJ _ (by omega) (by omega))⟩
  rw [eF _ _ (by omega), eF _ _ (by omega)]
  exact b k hk
theorem ZA.nl14 (h : ZA A E ls ns nl nc n G P W mk aact ol S D) : ns ≤ 14 ∧ nl ≤ 14 := ⟨h.2.2.1.1.1.1, h.2.2.1.1.1.2.1⟩
/-- a cell of the law's arrays is written -/
theorem ZA.setAI (h : ZA A E ls ns nl nc n G P W mk aact ol S D) {r : Nat} (i : Nat) (v : Int32) (hr : 500 ≤ r) (hr2 : r < 500 + nc) : ZA A E ls ns nl nc n G P W mk aact ol (S.setAI (A r) i v) (D.setAI r i v) :=
  ⟨set_AI h.1 i v (Or.inr (Or.inr (Or.inl ⟨hr, hr2⟩))), h.2.1, h.2.2.1, zc_cg h.2.2.2 h.nl14.2 (fun _ _ _ => rfl) (fun r' hr' _ _ => up2_row (by omega)) (fun _ _ _ => rfl)⟩
theorem ZA.setAJ (h : ZA A E ls ns nl nc n G P W mk aact ol S D) {r : Nat} (i : Nat) (v : Int64) (hr : 500 ≤ r) (hr2 : r < 500 + nc) : ZA A E ls ns nl nc n G P W mk aact ol (S.setAJ (A r) i v) (D.setAJ r i v) :=
  ⟨set_AJ h.1 i v (Or.inr (Or.inr (Or.inl ⟨hr, hr2⟩))), h.2.1, h.2.2.1, zc_cg h.2.2.2 h.nl14.2 (fun _ _ _ => rfl) (fun _ _ _ _ => rfl) (fun r' hr' _ => up2_row (by omega))⟩
/-- arrays are given up -/
theorem ZA.down {nc' : Nat} (h : ZA A E ls ns nl nc' n G P W mk aact ol S D) (hc : nc ≤ nc') : ZA A E ls ns nl nc n G P W mk aact ol S D := ⟨rep_down h.1 (Nat.le_refl _) hc (Nat.le_refl _), h.2⟩
/-- addresses given anew where nothing is alive -/
theorem zl_re {A' : Nat → Nat} (h : ZL A ls nl G ol) (he : ∀ k, k < nl → A' (400 + k) = A (400 + k)) : ZL A' ls nl G ol := by
  obtain ⟨l0, l1, l2, l3, lo⟩ := h
  refine ⟨?_, ?_, l2, l3, lo⟩
  · rw [l0]
    exact List.map_congr_left (fun k hk => (he k (List.mem_range.mp hk)).symm)
  · rw [l1]
    refine List.map_congr_left (fun k hk => (he k ?_).symm)
    obtain ⟨j, hj⟩ := List.mem_iff_getElem?.mp hk
    exact (lo.2.2 j k hj).1
/-- a new array of the law's -/
theorem ZA.born (h : ZA A E ls ns nl nc n G P W mk aact ol S D) {q k m : Nat} (hc : nc < 14) (hq : q ∉ S.L) (hk : kdr (500 + nc) = k) (hm : ndr (500 + nc) = m) :
    ∃ A' D', ZA A' E ls ns nl (nc + 1) n G P W mk aact ol (S.new q k m) D' ∧ (∀ r, r < 500 + nc → al nl nc 0 r → A' r = A r) ∧ A' (500 + nc) = q ∧ (∀ i, D'.AI (500 + nc) i = 0) ∧ (∀ i, D'.AJ (500 + nc) i = 0) ∧ (∀ r, r ≠ 500 + nc → D'.AI r = D.AI r ∧ D'.AJ r = D.AJ r) := by
  obtain ⟨n1, n2⟩ := h.nl14
  have hoff := off_new h.1 hq
  have h0 := rep_new h.1 k m hq
  obtain ⟨A', i1, i2, i3⟩ := swap_A A (500 + nc) q h.1.1.1
  have hne : ∀ r, al nl nc 0 r → r ≠ 500 + nc := fun r hr e => by
    by_cases c : 400 ≤ r
    · have := al_400 hr c
      omega
    · omega
  have he : ∀ r, al nl nc 0 r → A' r = A r := fun r hr => i3 r (hne r hr) (hoff r hr)
  have h1 := rep_re h0 i1 he
  have cs : ∀ r, al nl (nc + 1) 0 r → r = 500 + nc ∨ al nl nc 0 r := fun r hr => by
    by_cases c : r = 500 + nc
    · exact Or.inl c
    · refine Or.inr ?_
      rcases hr with g | g | g | g
      · exact Or.inl g
      · exact Or.inr (Or.inl g)
      · exact Or.inr (Or.inr (Or.inl ⟨g.1, by omega⟩))
      · omega
  have pI : ∀ r, r ≠ 500 + nc → (D.put (500 + nc) (S.new q k m) q).FI = D.FI ∨ True := fun _ _ => Or.inr trivial
  refine ⟨A', D.put (500 + nc) (S.new q k m) q, ⟨?_, zl_re h.2.1 (fun k hk => he _ (al_l hk)), h.2.2.1, zc_cg h.2.2.2 n2 (fun i r hr => put_FI (by omega)) (fun r hr _ _ => put_AI (by omega)) (fun r hr _ => put_AJr (by omega))⟩, fun r _ hr => he r hr, i2, fun i => ?_, fun i => ?_, fun r hr => ⟨put_AI hr, put_AJr hr⟩⟩
  · obtain ⟨⟨h1, h2, h3, h4, h5, h6, h7, h8, h9⟩, hD⟩ := h1
    refine ⟨⟨h1, fun r hr => ?_, h3, h4, h5, h6, h7, h8, h9⟩, fun r hr => ?_⟩
    · rcases cs r hr with c | c
      · rw [c, i2, hk, hm]
        exact ⟨new_isA, va_up_self _ _ _⟩
      · exact h2 r c
    · rcases cs r hr with c | c
      · subst c
        rw [i2]
        exact ⟨fun i _ => (if_pos rfl).symm, fun i => (if_pos rfl).symm, fun i => (if_pos rfl).symm, fun i => (if_pos rfl).symm⟩
      · obtain ⟨g1, g2, g3, g4⟩ := hD r c
        have hn := hne r c
        exact ⟨fun i hi => (g1 i hi).trans (if_neg hn).symm, fun i => (g2 i).trans (if_neg hn).symm, fun i => (g3 i).trans (if_neg hn).symm, fun i => (g4 i).trans (if_neg hn).symm⟩
  · show (if 500 + nc = 500 + nc then (S.new q k m).AI q i else D.AI (500 + nc) i) = 0
    rw [if_pos rfl]
    show va_up S.AI q (fun _ => 0) q i = 0
    rw [va_up_self]
  · show (if 500 + nc = 500 + nc then (S.new q k m).AJ q i else D.AJ (500 + nc) i) = 0
    rw [if_pos rfl]
    show va_up S.AJ q (fun _ => 0) q i = 0
    rw [va_up_self]
/-- an array's contents, all at once -/
theorem ZA.putAJ (h : ZA A E ls ns nl nc n G P W mk aact ol S D) {r : Nat} (f : Nat → Int64) (hr : 500 ≤ r) (hr2 : r < 500 + nc) : ∃ D', ZA A E ls ns nl nc n G P W mk aact ol (S.putAJ (A r) f) D' ∧ D'.AI = D.AI ∧ (∀ i, D'.AJ r i = f i) ∧ ∀ x, x ≠ r → D'.AJ x = D.AJ x := by
  refine ⟨Dt.mk D.FI D.FJ D.AI (fun x i => if x = r then f i else D.AJ x i), ⟨set_putAJ h.1 f _ rfl rfl rfl (fun x i _ => rfl), h.2.1, h.2.2.1, zc_cg h.2.2.2 h.nl14.2 (fun _ _ _ => rfl) (fun _ _ _ _ => rfl) (fun x hx _ => funext fun i => if_neg (by omega))⟩, rfl, fun i => if_pos rfl, fun x hx => funext fun i => if_neg hx⟩
/-- reading the law's arrays -/
theorem ZA.is (h : ZA A E ls ns nl nc n G P W mk aact ol S D) {r k : Nat} (hr : 500 ≤ r) (hr2 : r < 500 + nc) (hk : kdr r = k) : isA S (A r) k := rep_is h.1 (Or.inr (Or.inr (Or.inl ⟨hr, hr2⟩))) hk
theorem ZA.N (h : ZA A E ls ns nl nc n G P W mk aact ol S D) {r k : Nat} (hr : 500 ≤ r) (hr2 : r < 500 + nc) (hk : ndr r = k) : S.N (A r) = k := rep_N h.1 (Or.inr (Or.inr (Or.inl ⟨hr, hr2⟩))) hk
theorem ZA.I (h : ZA A E ls ns nl nc n G P W mk aact ol S D) {r i : Nat} {v : Int32} (hr : 500 ≤ r) (hr2 : r < 500 + nc) (hi : i < 100) (e : D.AI r i = v) : S.AI (A r) (nI i).toNatClampNeg = v := rd_I h.1 (Or.inr (Or.inr (Or.inl ⟨hr, hr2⟩))) (by omega) e
theorem ZA.J (h : ZA A E ls ns nl nc n G P W mk aact ol S D) {r i : Nat} {v : Int64} (hr : 500 ≤ r) (hr2 : r < 500 + nc) (hi : i < 100) (e : D.AJ r i = v) : S.AJ (A r) (nI i).toNatClampNeg = v := rd_J h.1 (Or.inr (Or.inr (Or.inl ⟨hr, hr2⟩))) (by omega) e
theorem ZA.in (h : ZA A E ls ns nl nc n G P W mk aact ol S D) {r i m : Nat} (hr : 500 ≤ r) (hr2 : r < 500 + nc) (hk : ndr r = m) (hi : i < m) (hm : m ≤ 5) : vp_in (nI i) (S.N (A r)) := by
  rw [h.N hr hr2 hk]
  exact in_nI hi (by omega)
/-! the calls -/
theorem o_shaft {Φ : Hp → Int32 → Prop} (h : ZA A E ls ns nl nc n G P W mk aact ol S D) (h14 : ns < 14) (kk : ∀ S' D', ZA A E ls (ns + 1) nl nc n G P W mk aact ol S' D' → Kpt D D' → Φ S' (nI ns)) : wL_shaft S (A 0) Φ := by
  obtain ⟨r, l, p, c⟩ := id h
  obtain ⟨n1, n2⟩ := h.nl14
  have hG' := grOK_up p.1.1 h14
  unfold wL_shaft wL_shaft_b0
  refine ⟨c_is r, p_shaftC r c.1.1 n1 (fun q => absurd h14 q) (fun q S1 D1 r1 s1 v1 => kk S1 D1 ⟨r1, l, ⟨⟨hG', p.1.2⟩, p.2.1, ⟨p.2.2.1.1, fun s hs => p.2.2.1.2 s (by omega)⟩, p.2.2.2⟩, ?_⟩ ⟨fun r _ => s1.2.1 r (fun q => q), fun r _ => s1.2.2 r (fun q => q)⟩)⟩
  obtain ⟨a, b, d, f⟩ := c
  have f' := jcF (D' := D1) f (fun i hi => s1.1 i 0 (by omega)) (s1.2.1 _ (fun q => q)) (fun r _ => s1.2.2 r (fun q => q))
  refine ⟨⟨v1, lkC_cg a.2.1 (fun i r h1 h2 => s1.1 i r (by omega)), drA_cg a.2.2 (s1.2.1 5 (fun q => q))⟩, fun k hk => ?_, ⟨rowV_other d.1 (s1.2.2 _ (fun q => q)) (s1.2.2 _ (fun q => q)), rowV_other d.2.1 (s1.2.2 _ (fun q => q)) (s1.2.2 _ (fun q => q)), fun k hk => by rw [s1.2.2 60 (fun q => q)]; exact d.2.2.1 k hk, fun k hk => by rw [s1.2.1 63 (fun q => q)]; exact d.2.2.2 k hk⟩, f'.1, last_up f'.2⟩
  rw [s1.1 _ _ (by omega), s1.1 _ _ (by omega)]
  exact b k hk
theorem o_placeOver {Φ : Hp → Int64 → Prop} {s : Nat} (h : ZA A E ls ns nl nc n G P W mk aact ol S D) (hs : s < ns) (kk : Φ S (i6 (P s).num)) : wL_placeOver S (A 0) (nI s) Φ := by
  obtain ⟨r, l, p, c⟩ := id h
  obtain ⟨n1, n2⟩ := h.nl14
  unfold wL_placeOver wL_placeOver_b0
  refine ⟨c_is r, p_placeOverC r n1 c.1.1 (fun q => absurd (xin rfl hs (by omega)) q) (fun s' hs' e => ?_)⟩
  rw [xeq rfl e (by omega) (by omega), (c.2.2.1.1 s (by omega)).1]
  exact kk
theorem o_placeUnder {Φ : Hp → Int64 → Prop} {s : Nat} (h : ZA A E ls ns nl nc n G P W mk aact ol S D) (hs : s < ns) (kk : Φ S (i6 ((P s).den : Int))) : wL_placeUnder S (A 0) (nI s) Φ := by
  obtain ⟨r, l, p, c⟩ := id h
  obtain ⟨n1, n2⟩ := h.nl14
  unfold wL_placeUnder wL_placeUnder_b0
  refine ⟨c_is r, p_placeUnderC r n1 c.1.1 (fun q => absurd (xin rfl hs (by omega)) q) (fun s' hs' e => ?_)⟩
  rw [xeq rfl e (by omega) (by omega), (c.2.2.1.1 s (by omega)).2]
  exact kk
theorem o_placeOverX {Φ : Hp → Int64 → Prop} {x : Int32} (h : ZA A E ls ns nl nc n G P W mk aact ol S D) (hs : ¬ inR x ns) (kk : Φ S (-900001)) : wL_placeOver S (A 0) x Φ := by
  obtain ⟨r, l, p, c⟩ := id h
  unfold wL_placeOver wL_placeOver_b0
  exact ⟨c_is r, p_placeOverC r h.nl14.1 c.1.1 (fun _ => ⟨rfl, kk⟩) (fun s' hs' e => absurd (xin e hs' (by have := h.nl14.1; omega)) hs)⟩
theorem o_wornOver {Φ : Hp → Int64 → Prop} {k : Nat} (h : ZA A E ls ns nl nc n G P W mk aact ol S D) (hk : k < nl) (kk : Φ S (i6 (W k).num)) : wL_wornOver S (A 0) (nI k) Φ := by
  obtain ⟨r, l, p, c⟩ := id h
  obtain ⟨n1, n2⟩ := h.nl14
  unfold wL_wornOver wL_wornOver_b0
  refine ⟨c_is r, p_wornOverC r l.1 n2 (fun q => absurd (xin rfl hk (by omega)) q) (fun s' hs' e => ?_)⟩
  rw [xeq rfl e (by omega) (by omega), (c.2.2.1.2.1 k (by omega)).1]
  exact kk
theorem o_wornUnder {Φ : Hp → Int64 → Prop} {k : Nat} (h : ZA A E ls ns nl nc n G P W mk aact ol S D) (hk : k < nl) (kk : Φ S (i6 ((W k).den : Int))) : wL_wornUnder S (A 0) (nI k) Φ := by
  obtain ⟨r, l, p, c⟩ := id h
  obtain ⟨n1, n2⟩ := h.nl14
  unfold wL_wornUnder wL_wornUnder_b0
  refine ⟨c_is r, p_wornUnderC r l.1 n2 (fun q => absurd (xin rfl hk (by omega)) q) (fun s' hs' e => ?_)⟩
  rw [xeq rfl e (by omega) (by omega), (c.2.2.1.2.1 k (by omega)).2]
  exact kk
theorem o_wornOverX {Φ : Hp → Int64 → Prop} {x : Int32} (h : ZA A E ls ns nl nc n G P W mk aact ol S D) (hs : ¬ inR x nl) (kk : Φ S (-900001)) : wL_wornOver S (A 0) x Φ := by
  obtain ⟨r, l, p, c⟩ := id h
  unfold wL_wornOver wL_wornOver_b0
  exact ⟨c_is r, p_wornOverC r l.1 h.nl14.2 (fun _ => ⟨rfl, kk⟩) (fun s' hs' e => absurd (xin e hs' (by have := h.nl14.2; omega)) hs)⟩
theorem o_isBroken {Φ : Hp → Int32 → Prop} {Ψ : Hp → String → Prop} {k : Nat} (h : ZA A E ls ns nl nc n G P W mk aact ol S D) (hk : k < nl) (kk : Φ S 0) : wX7_isBroken S (A 0) (nI k) Φ Ψ := by
  obtain ⟨r, l, p, c⟩ := id h
  obtain ⟨n1, n2⟩ := h.nl14
  exact p_isBrokenC (brk := fun _ => false) r c.1.2.1 l.1 n2 (fun k hk => (c.2.1 k hk).1) (fun q => absurd (xin rfl hk (by omega)) q) (fun s' hs' e => kk)
theorem o_freedom {Φ : Hp → Int32 → Prop} (h : ZA A E ls ns nl nc n G P W mk aact ol S D) (kk : Φ S (nI (cnt ns (fun s => !(drv G nl s).isSome)))) : wX7_freedom S (A 0) Φ := p_freedomC h.1 h.2.2.1.1.1 h.2.2.2.1.1 h.2.2.2.1.2.2 kk
theorem o_driver {Φ : Hp → Int32 → Prop} {s k : Nat} (h : ZA A E ls ns nl nc n G P W mk aact ol S D) (hs : s < ns) (hd : drv G nl s = some k) (kk : Φ S (nI k)) : wL_driver S (A 0) (nI s) Φ := by
  obtain ⟨r, l, p, c⟩ := id h
  have n1 := h.nl14.1
  unfold wL_driver wL_driver_b0
  refine ⟨c_is r, p_driverC r p.1.1 c.1.1 c.1.2.2 (fun q => absurd (xin rfl hs (by omega)) q) (fun s' hs' e q => ?_) (fun s' k' hs' e q => ?_)⟩
  · rw [xeq rfl e (by omega) (by omega), hd] at q
    exact absurd q (by simp)
  · rw [xeq rfl e (by omega) (by omega), hd] at q
    rw [← Option.some.inj q]
    exact kk
theorem o_driverX {Φ : Hp → Int32 → Prop} {s : Nat} (h : ZA A E ls ns nl nc n G P W mk aact ol S D) (hs : s < ns) (hd : drv G nl s = none) (kk : Φ S (-900002)) : wL_driver S (A 0) (nI s) Φ := by
  obtain ⟨r, l, p, c⟩ := id h
  have n1 := h.nl14.1
  unfold wL_driver wL_driver_b0
  refine ⟨c_is r, p_driverC r p.1.1 c.1.1 c.1.2.2 (fun q => absurd (xin rfl hs (by omega)) q) (fun s' hs' e q => Or.inr ⟨rfl, kk⟩) (fun s' k' hs' e q => ?_)⟩
  rw [xeq rfl e (by omega) (by omega), hd] at q
  exact absurd q (by simp)
theorem o_drivenShare {Φ : Hp → UInt32 → Prop} {Ψ : Hp → String → Prop} (h : ZA A E ls ns nl nc n G P W mk aact ol S D) (hs : 0 < ns) (kk : Φ S (FP.fdiv (FP.i2f (nI (cnt ns (fun s => (drv G nl s).isSome)))) (FP.i2f (nI ns)))) : wX7_drivenShare S (A 0) Φ Ψ := p_drivenShareC h.1 h.2.2.1.1.1 h.2.2.2.1.1 h.2.2.2.1.2.2 (fun q => by omega) (fun _ => kk)
theorem o_isSound {Φ : Hp → Int32 → Prop} (h : ZA A E ls ns nl nc n G P W mk aact ol S D) (kk : ∀ S', Φ S' 1) : wX7_isSound S (A 0) Φ := by
  obtain ⟨r, l, p, c⟩ := id h
  obtain ⟨n1, n2⟩ := h.nl14
  refine p_isSoundC (n := n) (act := aact) r c.1.1 c.1.2.1 p.1.1 p.1.2 l.2.2.2.2 l.1 l.2.1 l.2.2.1 c.1.2.2 c.2.2.1.1 p.2.1.2.1 (by have := p.2.2.2; omega) (fun i hi => ?_) (fun k hk => c.2.2.2.1 k (by omega)) c.2.2.2.2 (fun S' D' _ _ => kk S')
  rw [c.2.2.2.1 i hi]
  exact nb_bI _
end ZZ1
