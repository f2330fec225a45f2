/-! THE WORKS AS THE LAW SEES THEM: links -/
section ZZ2
variable {A E : Nat → Nat} {ls : Nat → List Nat} {ns nl nc n : Nat} {G : Nat → Nat → Nat} {P W : Nat → Rat} {mk : Nat → Int} {aact : Nat → Bool} {ol : List Nat} {S : Hp} {D D' : Dt}
/-- what is alive keeps its address -/
def SamA (nl nc : Nat) (A A' : Nat → Nat) : Prop := ∀ r, al nl nc 0 r → A' r = A r
theorem SamA.z {A' : Nat → Nat} (h : SamA nl nc A A') : A' 0 = A 0 := h 0 (al_s (by decide))
theorem SamA.a {A' : Nat → Nat} (h : SamA nl nc A A') {r : Nat} (h1 : 500 ≤ r) (h2 : r < 500 + nc) : A' r = A r := h r (Or.inr (Or.inr (Or.inl ⟨h1, h2⟩)))
theorem z_no {S1 : Hp} {A' : Nat → Nat} {D1 : Dt} (h : ZA A E ls ns nl nc n G P W mk aact ol S D) (x : LnkNo A E ls nl nc 0 D S1 A' D1) : ZA A' E ls ns nl nc n G P W mk aact ol S1 D1 ∧ SamA nl nc A A' ∧ Kpt D D1 := by
  obtain ⟨r, l, p, c⟩ := id h
  obtain ⟨n1, n2⟩ := h.nl14
  obtain ⟨xA, r1, s1⟩ := x
  refine ⟨⟨r1, zl_re l (fun k hk => xA _ (al_l hk)), p, ?_⟩, xA, fun r hr => s1.2.1 r (by omega), fun r hr => s1.2.2 r (by omega)⟩
  obtain ⟨a, b, d, f⟩ := c
  refine ⟨jcA a (s1.1 _ _ (by omega)) (fun i r h1 h2 h3 h4 => s1.1 i r (by omega)) (s1.2.1 _ (by omega)), fun k hk => ?_, ⟨rowV_other d.1 (s1.2.2 _ (by omega)) (s1.2.2 _ (by omega)), rowV_other d.2.1 (s1.2.2 _ (by omega)) (s1.2.2 _ (by omega)), fun k hk => by rw [s1.2.2 60 (by omega)]; exact d.2.2.1 k hk, fun k hk => by rw [s1.2.1 63 (by omega)]; exact d.2.2.2 k hk⟩, jcF f (fun i hi => s1.1 i 0 (by omega)) (s1.2.1 _ (by omega)) (fun r hr => s1.2.2 r (by omega))⟩
  rw [s1.1 _ _ (by omega), s1.1 _ _ (by omega)]
  exact b k hk
theorem z_new {S1 : Hp} {A' E' : Nat → Nat} {ls' : Nat → List Nat} {D1 : Dt} {g : Nat → Nat} (h : ZA A E ls ns nl nc n G P W mk aact ol S D) (hk : kOK (gx G nl g) nl) (x : LnkNew A ls nl nc 0 ns G g P D S1 A' E' ls' D1) :
    ∃ ol', ZA A' E' ls' ns (nl + 1) nc n (gx G nl g) P W (fun k => if k = nl then fl (g 4 : Nat) (P (g 1)) else mk k) aact ol' S1 D1 ∧ SamA nl nc A A' ∧ Kpt D D1 := by
  obtain ⟨r, l, p, c⟩ := id h
  obtain ⟨n1, n2⟩ := h.nl14
  obtain ⟨xA, r1, ⟨hd, hfit⟩, ⟨hG', hL'⟩, s1, xC, ⟨v327, v328, v329, v330⟩, xdr, v63, v60, l0, ⟨ol', l1, lo⟩, l2⟩ := x
  have hG := p.1.1
  have n5 := hG'.2.1
  refine ⟨ol', ⟨r1, ⟨l0, l1, by rw [l2 2 (by decide) (by decide)]; exact l.2.2.1, by rw [l2 3 (by decide) (by decide)]; exact l.2.2.2.1, lo⟩, ⟨⟨hG', hL'⟩, ⟨fun k hk2 ha hr => ?_, bdP_ext hG hG' hd p.2.1.2.1, bdW_ext hG hG' hd p.2.1.2.2.1 (p.2.2.1.1 nl (Nat.le_refl _)).1, fun k hk2 => ?_⟩, ⟨fun k hk2 => p.2.2.1.1 k (by omega), p.2.2.1.2⟩, p.2.2.2⟩, ?_⟩, xA, fun r hr => s1.2.1 r (by omega), fun r hr => s1.2.2 r (by omega)⟩
  · dsimp only
    by_cases c0 : k = nl
    · rw [if_pos c0, c0, gx_s]
      exact Int.le_refl _
    · have hk3 : k < nl := by omega
      rw [if_neg c0]
      rw [gx_n hk3] at hr ⊢
      exact p.2.1.1 k hk3 (decide_eq_true hk3) hr
  · dsimp only
    by_cases c0 : k = nl
    · rw [if_pos c0]
      obtain ⟨M1, M2, M3⟩ := pm_lt hG (g 1)
      have hq := qn_le M3 (show n ≤ 24600 by have := p.2.2.2; omega)
      have h4 := (kOK_lt hk).2.1
      rw [gx_s] at h4
      exact fl_lim2 (bd_bq M1 (p.2.1.2.1 (g 1))) (by omega) M1 h4
    · rw [if_neg c0]
      exact p.2.1.2.2.2 k (by omega)
  · obtain ⟨a, b, d, f⟩ := c
    have f' := jcF (D' := D1) f (fun i hi => s1.1 i 0 (by omega)) (s1.2.1 _ (by omega)) (fun r hr => s1.2.2 r (by omega))
    refine ⟨⟨(s1.1 _ _ (by omega)).trans a.1, xC, xdr⟩, fun k hk2 => ?_, ⟨rowV_other d.1 (s1.2.2 _ (by omega)) (s1.2.2 _ (by omega)), rowV_other d.2.1 (s1.2.2 _ (by omega)) (s1.2.2 _ (by omega)), fun k hk2 => ?_, fun k hk2 => ?_⟩, f'.1, last_ext hG hG' hd (p.2.2.1.1 nl (Nat.le_refl _)).2 f'.2⟩
    · by_cases c0 : k = nl
      · rw [c0]
        exact ⟨v328, v329⟩
      · rw [s1.1 _ _ (by omega), s1.1 _ _ (by omega)]
        exact b k (by omega)
    · rw [v60]
      dsimp only
      by_cases c0 : k = nl
      · rw [if_pos c0, if_pos c0]
      · rw [if_neg c0, if_neg c0]
        exact d.2.2.1 k (by omega)
    · rw [v63]
      by_cases c0 : k = nl
      · rw [if_pos c0, c0]
        unfold onL
        rw [decide_eq_true (by omega)]
        rfl
      · rw [if_neg c0, d.2.2.2 k hk2]
        unfold onL
        by_cases c1 : k < nl
        · rw [decide_eq_true c1, decide_eq_true (by omega)]
        · rw [decide_eq_false c1, decide_eq_false (by omega)]
/-- refused: no such shaft -/
theorem o_link1 {Φ : Hp → Int32 → Prop} {x1 x2 x3 x4 x5 : Int32} (h : ZA A E ls ns nl nc n G P W mk aact ol S D) (hx : ¬ (inR x2 ns ∧ inR x3 ns)) (kk : Φ S (-900001)) : wL_link S (A 0) x1 x2 x3 x4 x5 Φ := by
  obtain ⟨r, l, p, c⟩ := id h
  have n1 := h.nl14.1
  unfold wL_link wL_link_b0
  exact ⟨c_is r, p_linkC (n := n) r c.1.2.1 p.1.1 p.1.2 c.1.1 l.1 c.1.2.2 c.2.2.1.1 p.2.1.2.1 (by have := p.2.2.2; omega) (fun _ => Or.inl ⟨rfl, kk⟩) (fun i2 i3 _ => absurd ⟨i2, i3⟩ hx) (fun κ f t a b _ hf ht _ e2 e3 _ _ _ _ _ _ _ _ _ => absurd ⟨xin e2 hf (by omega), xin e3 ht (by omega)⟩ hx) (fun κ f t a b _ hf ht _ e2 e3 _ _ _ _ _ _ _ _ _ _ _ => absurd ⟨xin e2 hf (by omega), xin e3 ht (by omega)⟩ hx)⟩
/-- refused: no meaning -/
theorem o_link2 {Φ : Hp → Int32 → Prop} {x1 x4 x5 : Int32} {f t : Nat} (h : ZA A E ls ns nl nc n G P W mk aact ol S D) (hf : f < ns) (ht : t < ns) (hx : ¬ mnP x1 x4 x5) (kk : Φ S (-900002)) : wL_link S (A 0) x1 (nI f) (nI t) x4 x5 Φ := by
  obtain ⟨r, l, p, c⟩ := id h
  have n1 := h.nl14.1
  unfold wL_link wL_link_b0
  exact ⟨c_is r, p_linkC (n := n) r c.1.2.1 p.1.1 p.1.2 c.1.1 l.1 c.1.2.2 c.2.2.1.1 p.2.1.2.1 (by have := p.2.2.2; omega) (fun q => absurd ⟨xin rfl hf (by omega), xin rfl ht (by omega)⟩ q) (fun _ _ _ => Or.inr (Or.inl ⟨rfl, kk⟩)) (fun κ f t a b _ _ _ _ _ _ _ _ m _ _ _ _ _ _ => absurd m hx) (fun κ f t a b _ _ _ _ _ _ _ _ m _ _ _ _ _ _ _ _ => absurd m hx)⟩
theorem row_eq {κ κ' f f' t t' a a' b b' : Nat} (h1 : κ' = κ) (h2 : f' = f) (h3 : t' = t) (h4 : a' = a) (h5 : b' = b) : lrow κ' f' 0 t' a' b' = lrow κ f 0 t a b := by rw [h1, h2, h3, h4, h5]
theorem kOK_sm {κ f s t a b : Nat} (h : kOK (gx G nl (lrow κ f s t a b)) nl) : κ < 200 ∧ a < 200 ∧ b < 200 := by
  unfold kOK at h
  rw [gx_s] at h
  have h : ((κ = 103 ∨ κ = 105 ∨ κ = 112) ∧ 6 ≤ a ∧ a ≤ 30 ∧ 6 ≤ b ∧ b ≤ 30) ∨ (κ = 118 ∧ 3 ≤ a ∧ a ≤ 12 ∧ b = 0) ∨ (κ = 114 ∧ 3 ≤ a ∧ a ≤ 24 ∧ b = 0) ∨ (κ = 107 ∧ a = 0 ∧ b = 0) := h
  omega
/-- refused: the same shaft, a driven one, or too far behind -/
theorem o_link3 {Φ : Hp → Int32 → Prop} {κ f t a b : Nat} (h : ZA A E ls ns nl nc n G P W mk aact ol S D) (hf : f < ns) (ht : t < ns) (hm : mnP (nI κ) (nI a) (nI b)) (hs : κ < 200 ∧ a < 200 ∧ b < 200) (hx : f = t ∨ drv G nl t ≠ none ∨ ¬ ∀ s, s < ns → dpF (gx G nl (lrow κ f 0 t a b)) (nl + 1) 4 s ≤ 3)
    (kk : ∀ S' A' D', ZA A' E ls ns nl nc n G P W mk aact ol S' D' → SamA nl nc A A' → Kpt D D' → Φ S' (-900003)) : wL_link S (A 0) (nI κ) (nI f) (nI t) (nI a) (nI b) Φ := by
  obtain ⟨r, l, p, c⟩ := id h
  have n1 := h.nl14.1
  unfold wL_link wL_link_b0
  refine ⟨c_is r, p_linkC (n := n) r c.1.2.1 p.1.1 p.1.2 c.1.1 l.1 c.1.2.2 c.2.2.1.1 p.2.1.2.1 (by have := p.2.2.2; omega) (fun q => absurd ⟨xin rfl hf (by omega), xin rfl ht (by omega)⟩ q) (fun _ _ q => absurd hm q) (fun κ' f' t' a' b' _ hf' ht' e1 e2 e3 e4 e5 _ hk S' A' D' x _ => ?_) (fun κ' f' t' a' b' _ hf' ht' e1 e2 e3 e4 e5 _ hk hne S' A' E' ls' D' x => ?_)⟩
  · obtain ⟨z1, z2, z3⟩ := z_no h x
    exact Or.inr (Or.inr (Or.inl ⟨rfl, kk S' A' D' z1 z2 z3⟩))
  · obtain ⟨k1, k2, k3⟩ := kOK_sm hk
    have q2 := xeq rfl e2 (by omega) (by omega)
    have q3 := xeq rfl e3 (by omega) (by omega)
    have hr := row_eq (xeq rfl e1 (by omega) (by omega)) q2 q3 (xeq rfl e4 (by omega) (by omega)) (xeq rfl e5 (by omega) (by omega))
    rw [hr] at x
    rcases hx with hx | hx | hx
    · exact absurd (q2.trans (hx.trans q3.symm)) hne
    · exact absurd x.2.2.1.1 hx
    · exact absurd x.2.2.1.2 hx
/-- a link comes -/
theorem o_link4 {Φ : Hp → Int32 → Prop} {κ f t a b : Nat} (h : ZA A E ls ns nl nc n G P W mk aact ol S D) (hf : f < ns) (ht : t < ns) (hm : mnP (nI κ) (nI a) (nI b)) (hs : κ < 200 ∧ a < 200 ∧ b < 200) (hne : f ≠ t) (hd : drv G nl t = none) (hx : ∀ s, s < ns → dpF (gx G nl (lrow κ f 0 t a b)) (nl + 1) 4 s ≤ 3)
    (kk : ∀ S' A' E' ls' ol' D', ZA A' E' ls' ns (nl + 1) nc n (gx G nl (lrow κ f 0 t a b)) P W (fun k => if k = nl then fl (a : Nat) (P f) else mk k) aact ol' S' D' → SamA nl nc A A' → Kpt D D' → kOK (gx G nl (lrow κ f 0 t a b)) nl → Φ S' (nI nl)) : wL_link S (A 0) (nI κ) (nI f) (nI t) (nI a) (nI b) Φ := by
  obtain ⟨r, l, p, c⟩ := id h
  have n1 := h.nl14.1
  unfold wL_link wL_link_b0
  refine ⟨c_is r, p_linkC (n := n) r c.1.2.1 p.1.1 p.1.2 c.1.1 l.1 c.1.2.2 c.2.2.1.1 p.2.1.2.1 (by have := p.2.2.2; omega) (fun q => absurd ⟨xin rfl hf (by omega), xin rfl ht (by omega)⟩ q) (fun _ _ q => absurd hm q) (fun κ' f' t' a' b' _ hf' ht' e1 e2 e3 e4 e5 _ hk S' A' D' x hy => ?_) (fun κ' f' t' a' b' _ hf' ht' e1 e2 e3 e4 e5 _ hk hne S' A' E' ls' D' x => ?_)⟩
  · obtain ⟨k1, k2, k3⟩ := kOK_sm hk
    have q2 := xeq rfl e2 (by omega) (by omega)
    have q3 := xeq rfl e3 (by omega) (by omega)
    have hr := row_eq (xeq rfl e1 (by omega) (by omega)) q2 q3 (xeq rfl e4 (by omega) (by omega)) (xeq rfl e5 (by omega) (by omega))
    rw [hr, q2, q3] at hy
    rcases hy with hy | hy | hy
    · exact absurd hy hne
    · exact absurd hd hy
    · exact absurd hx hy
  · obtain ⟨k1, k2, k3⟩ := kOK_sm hk
    have hr := row_eq (xeq rfl e1 (by omega) (by omega)) (xeq rfl e2 (by omega) (by omega)) (xeq rfl e3 (by omega) (by omega)) (xeq rfl e4 (by omega) (by omega)) (xeq rfl e5 (by omega) (by omega))
    rw [hr] at x hk
    obtain ⟨ol', z1, z2, z3⟩ := z_new h hk x
    exact kk S' A' E' ls' ol' D' z1 z2 z3 hk
theorem o_planets3 {Φ : Hp → Int32 → Prop} {f s t a b : Nat} (h : ZA A E ls ns nl nc n G P W mk aact ol S D) (hf : f < ns) (hs : s < ns) (ht : t < ns) (ha : 6 ≤ a ∧ a ≤ 30) (hb : 6 ≤ b ∧ b ≤ 30) (hx : f = s ∨ f = t ∨ s = t)
    (kk : ∀ S' A' D', ZA A' E ls ns nl nc n G P W mk aact ol S' D' → SamA nl nc A A' → Kpt D D' → Φ S' (-900003)) : wL_planets S (A 0) (nI f) (nI s) (nI t) (nI a) (nI b) Φ := by
  obtain ⟨r, l, p, c⟩ := id h
  have n1 := h.nl14.1
  have ta : (nI a).toInt = a := nI_toInt (by omega)
  have tb : (nI b).toInt = b := nI_toInt (by omega)
  have hab : (6 ≤ (nI a).toInt ∧ (nI a).toInt ≤ 30) ∧ 6 ≤ (nI b).toInt ∧ (nI b).toInt ≤ 30 := by
    rw [ta, tb]
    omega
  unfold wL_planets wL_planets_b0
  refine ⟨c_is r, p_planetsC (n := n) r c.1.2.1 p.1.1 p.1.2 c.1.1 l.1 c.1.2.2 c.2.2.1.1 p.2.1.2.1 (by have := p.2.2.2; omega) (fun q => absurd ⟨xin rfl hf (by omega), xin rfl hs (by omega), xin rfl ht (by omega)⟩ q) (fun _ _ _ q => absurd hab q) (fun f' s' t' a' b' hf' hs' ht' e1 e2 e3 e4 e5 _ hk S' A' D' x _ => ?_) (fun f' s' t' a' b' hf' hs' ht' e1 e2 e3 e4 e5 _ hk hne S' A' E' ls' D' x => ?_)⟩
  · obtain ⟨z1, z2, z3⟩ := z_no h x
    exact Or.inr (Or.inr (Or.inl ⟨rfl, kk S' A' D' z1 z2 z3⟩))
  · have q1 := xeq rfl e1 (by omega) (by omega)
    have q2 := xeq rfl e2 (by omega) (by omega)
    have q3 := xeq rfl e3 (by omega) (by omega)
    rw [q1, q2, q3] at hne
    exact absurd hx hne
theorem o_planets4 {Φ : Hp → Int32 → Prop} {f s t a b : Nat} (h : ZA A E ls ns nl nc n G P W mk aact ol S D) (hf : f < ns) (hs : s < ns) (ht : t < ns) (ha : 6 ≤ a ∧ a ≤ 30) (hb : 6 ≤ b ∧ b ≤ 30) (hne : ¬ (f = s ∨ f = t ∨ s = t)) (hd : drv G nl t = none) (hx : ∀ r, r < ns → dpF (gx G nl (lrow 112 f s t a b)) (nl + 1) 4 r ≤ 3)
    (kk : ∀ S' A' E' ls' ol' D', ZA A' E' ls' ns (nl + 1) nc n (gx G nl (lrow 112 f s t a b)) P W (fun k => if k = nl then fl (a : Nat) (P f) else mk k) aact ol' S' D' → SamA nl nc A A' → Kpt D D' → kOK (gx G nl (lrow 112 f s t a b)) nl → Φ S' (nI nl)) : wL_planets S (A 0) (nI f) (nI s) (nI t) (nI a) (nI b) Φ := by
  obtain ⟨r, l, p, c⟩ := id h
  have n1 := h.nl14.1
  have ta : (nI a).toInt = a := nI_toInt (by omega)
  have tb : (nI b).toInt = b := nI_toInt (by omega)
  have hab : (6 ≤ (nI a).toInt ∧ (nI a).toInt ≤ 30) ∧ 6 ≤ (nI b).toInt ∧ (nI b).toInt ≤ 30 := by
    rw [ta, tb]
    omega
  unfold wL_planets wL_planets_b0
  refine ⟨c_is r, p_planetsC (n := n) r c.1.2.1 p.1.1 p.1.2 c.1.1 l.1 c.1.2.2 c.2.2.1.1 p.2.1.2.1 (by have := p.2.2.2; omega) (fun q => absurd ⟨xin rfl hf (by omega), xin rfl hs (by omega), xin rfl ht (by omega)⟩ q) (fun _ _ _ q => absurd hab q) (fun f' s' t' a' b' hf' hs' ht' e1 e2 e3 e4 e5 _ hk S' A' D' x hy => ?_) (fun f' s' t' a' b' hf' hs' ht' e1 e2 e3 e4 e5 _ hk _ S' A' E' ls' D' x => ?_)⟩
  · obtain ⟨k1, k2, k3⟩ := kOK_sm hk
    have q1 := xeq rfl e1 (by omega) (by omega)
    have q2 := xeq rfl e2 (by omega) (by omega)
    have q3 := xeq rfl e3 (by omega) (by omega)
    have q4 := xeq rfl e4 (by omega) (by omega)
    have q5 := xeq rfl e5 (by omega) (by omega)
    rw [q1, q2, q3, q4, q5] at hy
    rcases hy with hy | hy | hy
    · exact absurd hy hne
    · exact absurd hd hy
    · exact absurd hx hy
  · obtain ⟨k1, k2, k3⟩ := kOK_sm hk
    have q1 := xeq rfl e1 (by omega) (by omega)
    have q2 := xeq rfl e2 (by omega) (by omega)
    have q3 := xeq rfl e3 (by omega) (by omega)
    have q4 := xeq rfl e4 (by omega) (by omega)
    have q5 := xeq rfl e5 (by omega) (by omega)
    rw [q1, q2, q3, q4, q5] at x hk
    obtain ⟨ol', z1, z2, z3⟩ := z_new h hk x
    exact kk S' A' E' ls' ol' D' z1 z2 z3 hk
/-! turning -/
theorem o_turn1 {Φ : Hp → Int32 → Prop} {x y : Int32} (h : ZA A E ls ns nl nc n G P W mk aact ol S D) (hx : ¬ inR x ns) (kk : Φ S (-900001)) : wL_turn S (A 0) x y Φ := by
  obtain ⟨r, l, p, c⟩ := id h
  obtain ⟨n1, n2⟩ := h.nl14
  unfold wL_turn wL_turn_b0
  exact ⟨c_is r, p_turnC (act := onL nl) (pn := fun _ _ _ => false) (ds := fun _ => 0) (V := fun _ _ => 0) (W := W) (mk := mk) (life := fun _ => 0) r c.1.1 c.1.2.1 p.1.1 p.1.2 l.2.2.2.2 l.1 l.2.1 l.2.2.2.1 rfl (fun s hs => c.1.2.2 s (by omega)) c.2.2.1.1 c.2.2.1.2.2.1 (fun k hk => c.2.2.1.2.2.2 k (by omega)) (fun k hk => by rw [c.2.2.1.2.2.2 k hk]; exact nb_bI _) (fun k hk => decide_eq_false (by omega)) c.2.2.1.2.1 (fun k hk => ⟨(c.2.1 k hk).2, by omega⟩) (fun d t hd => absurd hd (Nat.not_lt_zero d)) (fun d hd => absurd hd (Nat.not_lt_zero d)) (fun d _ _ hd => absurd hd (Nat.not_lt_zero d)) p.2.1.1 p.2.1.2.1 p.2.1.2.2.2 p.2.1.2.2.1 (by have := p.2.2.2; omega) (fun _ => Or.inl ⟨rfl, kk⟩) (fun q _ => absurd q hx) (fun s hs e _ _ => absurd (xin e hs (by omega)) hx) (fun inp Ps tns mks S1 D1 hs e _ _ _ _ _ _ _ _ _ _ _ _ _ _ _ _ _ _ => absurd (xin e hs (by omega)) hx)⟩
theorem o_turn2 {Φ : Hp → Int32 → Prop} {y : Int32} {s : Nat} (h : ZA A E ls ns nl nc n G P W mk aact ol S D) (hs : s < ns) (hy : ¬ (-48 ≤ y.toInt ∧ y.toInt ≤ 48)) (kk : Φ S (-900002)) : wL_turn S (A 0) (nI s) y Φ := by
  obtain ⟨r, l, p, c⟩ := id h
  obtain ⟨n1, n2⟩ := h.nl14
  unfold wL_turn wL_turn_b0
  exact ⟨c_is r, p_turnC (act := onL nl) (pn := fun _ _ _ => false) (ds := fun _ => 0) (V := fun _ _ => 0) (W := W) (mk := mk) (life := fun _ => 0) r c.1.1 c.1.2.1 p.1.1 p.1.2 l.2.2.2.2 l.1 l.2.1 l.2.2.2.1 rfl (fun s hs => c.1.2.2 s (by omega)) c.2.2.1.1 c.2.2.1.2.2.1 (fun k hk => c.2.2.1.2.2.2 k (by omega)) (fun k hk => by rw [c.2.2.1.2.2.2 k hk]; exact nb_bI _) (fun k hk => decide_eq_false (by omega)) c.2.2.1.2.1 (fun k hk => ⟨(c.2.1 k hk).2, by omega⟩) (fun d t hd => absurd hd (Nat.not_lt_zero d)) (fun d hd => absurd hd (Nat.not_lt_zero d)) (fun d _ _ hd => absurd hd (Nat.not_lt_zero d)) p.2.1.1 p.2.1.2.1 p.2.1.2.2.2 p.2.1.2.2.1 (by have := p.2.2.2; omega) (fun q => absurd (xin rfl hs (by omega)) q) (fun _ _ => Or.inr (Or.inl ⟨rfl, kk⟩)) (fun s hs e q _ => absurd q hy) (fun inp Ps tns mks S1 D1 hs e q _ _ _ _ _ _ _ _ _ _ _ _ _ _ _ _ _ => absurd q hy)⟩
theorem o_turn3 {Φ : Hp → Int32 → Prop} {y : Int32} {s : Nat} (h : ZA A E ls ns nl nc n G P W mk aact ol S D) (hs : s < ns) (hy : -48 ≤ y.toInt ∧ y.toInt ≤ 48) (hd : drv G nl s ≠ none) (kk : Φ S (-900003)) : wL_turn S (A 0) (nI s) y Φ := by
  obtain ⟨r, l, p, c⟩ := id h
  obtain ⟨n1, n2⟩ := h.nl14
  unfold wL_turn wL_turn_b0
  exact ⟨c_is r, p_turnC (act := onL nl) (pn := fun _ _ _ => false) (ds := fun _ => 0) (V := fun _ _ => 0) (W := W) (mk := mk) (life := fun _ => 0) r c.1.1 c.1.2.1 p.1.1 p.1.2 l.2.2.2.2 l.1 l.2.1 l.2.2.2.1 rfl (fun s hs => c.1.2.2 s (by omega)) c.2.2.1.1 c.2.2.1.2.2.1 (fun k hk => c.2.2.1.2.2.2 k (by omega)) (fun k hk => by rw [c.2.2.1.2.2.2 k hk]; exact nb_bI _) (fun k hk => decide_eq_false (by omega)) c.2.2.1.2.1 (fun k hk => ⟨(c.2.1 k hk).2, by omega⟩) (fun d t hd => absurd hd (Nat.not_lt_zero d)) (fun d hd => absurd hd (Nat.not_lt_zero d)) (fun d _ _ hd => absurd hd (Nat.not_lt_zero d)) p.2.1.1 p.2.1.2.1 p.2.1.2.2.2 p.2.1.2.2.1 (by have := p.2.2.2; omega) (fun q => absurd (xin rfl hs (by omega)) q) (fun _ q => absurd hy q) (fun _ _ _ _ _ => Or.inr (Or.inr ⟨rfl, kk⟩)) (fun inp Ps tns mks S1 D1 hs' e _ q _ _ _ _ _ _ _ _ _ _ _ _ _ _ _ _ => absurd q (by rw [xeq rfl e (by omega) (by omega)]; exact hd))⟩
theorem o_turn4 {Φ : Hp → Int32 → Prop} {y : Int32} {s : Nat} (h : ZA A E ls ns nl nc n G P W mk aact ol S D) (hs : s < ns) (hy : -48 ≤ y.toInt ∧ y.toInt ≤ 48) (hn : n + 48 ≤ 24000) (hd : drv G nl s = none)
    (kk : ∀ Ps tns mks S' D', Ps 0 = P → mks 0 = mk → Sq G nl (onL nl) s (wayOf y) y.toInt.natAbs Ps tns mks → ZA A E ls ns nl nc (n + y.toInt.natAbs) G (Ps y.toInt.natAbs) (Wsq G (onL nl) tns W y.toInt.natAbs) (mks y.toInt.natAbs) (onL nl) ol S' D' → Kpt D D' → Φ S' (nI (cnt ns (fun s => decide (Ps y.toInt.natAbs s ≠ P s))))) : wL_turn S (A 0) (nI s) y Φ := by
  obtain ⟨r, l, p, c⟩ := id h
  obtain ⟨n1, n2⟩ := h.nl14
  unfold wL_turn wL_turn_b0
  refine ⟨c_is r, p_turnC (act := onL nl) (pn := fun _ _ _ => false) (ds := fun _ => 0) (V := fun _ _ => 0) (W := W) (mk := mk) (life := fun _ => 0) r c.1.1 c.1.2.1 p.1.1 p.1.2 l.2.2.2.2 l.1 l.2.1 l.2.2.2.1 rfl (fun s hs => c.1.2.2 s (by omega)) c.2.2.1.1 c.2.2.1.2.2.1 (fun k hk => c.2.2.1.2.2.2 k (by omega)) (fun k hk => by rw [c.2.2.1.2.2.2 k hk]; exact nb_bI _) (fun k hk => decide_eq_false (by omega)) c.2.2.1.2.1 (fun k hk => ⟨(c.2.1 k hk).2, by omega⟩) (fun d t hd => absurd hd (Nat.not_lt_zero d)) (fun d hd => absurd hd (Nat.not_lt_zero d)) (fun d _ _ hd => absurd hd (Nat.not_lt_zero d)) p.2.1.1 p.2.1.2.1 p.2.1.2.2.2 p.2.1.2.2.1 (by omega) (fun q => absurd (xin rfl hs (by omega)) q) (fun _ q => absurd hy q) (fun _ _ e _ q => absurd hd (by rw [xeq rfl e (by omega) (by omega)] at q; exact q)) (fun inp Ps tns mks S1 D1 hi e _ hdr p0 m0 sq r1 s1 v462 v463 v328 v63 vP v60 vW vA v61 v64 vV => ?_)⟩
  obtain rfl := xeq rfl e (by omega) (by omega)
  have hN48 : y.toInt.natAbs ≤ 48 := by omega
  have hG := p.1.1
  have hL := p.1.2
  obtain ⟨hR, hB, hWB, hMB⟩ := p.2.1
  have hw1 : (wayOf y).natAbs ≤ 1 := way_le y
  have inv := sq_inv hG hL hw1 sq (by rw [p0, m0]; exact hR) (by rw [p0]; exact hB) (by rw [m0]; exact hMB) hWB (by omega)
  have nbw : ∀ k, bw (Wsq G (onL nl) tns W y.toInt.natAbs) (fun _ => 0) k = false := fun k => decide_eq_false (fun q => absurd q.1 (Nat.lt_irrefl 0))
  obtain ⟨a, b, d, f⟩ := c
  have nG : ∀ r, 500 ≤ r → ¬ ((32 ≤ r ∧ r < 42) ∨ r = 60 ∨ r = 61) := fun r hr => by omega
  have nI' : ∀ r, (500 ≤ r ∨ r = 5) → ¬ (r = 63 ∨ r = 64 ∨ ∃ d, d < 0 ∧ r = 602 + 3 * d) := fun r hr => by
    rintro (q | q | ⟨d, q1, q2⟩) <;> omega
  refine kk Ps tns mks S1 D1 p0 m0 sq ⟨r1, l, ⟨p.1, ?_, ⟨fun k hk => ⟨?_, decide_eq_false (by omega)⟩, fun s hs' => ?_⟩, by omega⟩, ⟨jcA a (s1.1 _ _ (by omega)) (fun i r h1 h2 h3 _ => s1.1 i r (by omega)) (s1.2.1 _ (nI' 5 (Or.inr rfl))), fun k hk => ?_, ⟨vP, vW, v60, fun k hk => ?_⟩, fun k hk => (v64 k hk).trans (d.2.2.2 k hk), Or.inr ⟨inp, y, Ps, tns, mks, v462, hs, v463, hN48, ⟨sq, fun j hj => ?_⟩, ?_, fun k hk => by rw [m0]; exact v61 k hk, rfl⟩⟩⟩ ⟨fun r hr => s1.2.1 r (nI' r (Or.inl hr)), fun r hr => s1.2.2 r (nG r hr)⟩
  · obtain ⟨i1, i2, i3, i4⟩ := inv _ (Nat.le_refl _)
    exact ⟨i1, i2, i4, i3⟩
  · rw [wsq_0 (decide_eq_false (by omega))]
    exact (p.2.2.1.1 k hk).1
  · rw [sq_out hG hs sq hs' _ (Nat.le_refl _), p0]
    exact p.2.2.1.2 s hs'
  · rw [v328 k hk, nbw, if_neg (by decide), s1.1 329 _ (by omega)]
    exact b k hk
  · rw [v63, nbw, if_neg (fun q => absurd q.2 (by decide))]
    exact d.2.2.2 k hk
  · obtain ⟨i1, i2, i3, i4⟩ := inv j hj
    refine ⟨i1, ⟨n + j, by omega, i2⟩, fun k hk _ => ?_⟩
    have := i3 k hk
    unfold Rg
    omega
  · rw [p0]
    exact vA
end ZZ2
