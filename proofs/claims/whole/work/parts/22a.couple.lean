/-! CLASS AND REFERENCE, SIDE BY SIDE -/
def actE (eng brk : Nat → Bool) (k : Nat) : Bool := eng k && !brk k
/-- the class's data -/
def JC (ns nl nc nd : Nat) (G : Nat → Nat → Nat) (P W : Nat → Rat) (mk : Nat → Int) (eng brk aact : Nat → Bool) (life sl : Nat → Nat) (K : Nat → Cm) (pn : Nat → Nat → Nat → Bool) (ds : Nat → Nat) (V : Nat → Nat → Int32) (D : Dt) : Prop :=
  (D.FI 461 0 = nI ns ∧ LkC G nl D ∧ DrA G nl 14 5 D) ∧
  (∀ k, k < nl → D.FI 327 (400 + k) = bI (eng k) ∧ D.FI 328 (400 + k) = bI (brk k) ∧ D.FI 329 (400 + k) = nI (life k) ∧ D.FI 330 (400 + k) = nI (sl k)) ∧
  (RowV D 2 14 P ∧ RowV D 1 16 W ∧ (∀ k, k < nl → D.AJ 60 k = i6 (mk k)) ∧ (∀ k, k < 16 → D.AI 63 k = bI (actE eng brk k))) ∧
  (∀ c, c < nc → CmC (K c) c D) ∧
  ((∀ d, d < nd → D.FI 128 (600 + 3 * d) = nI (ds d)) ∧ (∀ d t, d < nd → t < 8 → D.AI (602 + 3 * d) t = V d t) ∧ MskM pn nd D) ∧
  ((∀ k, k < 16 → D.AI 64 k = bI (aact k)) ∧ Last G ns nl P aact D)
/-- the reference's data -/
def JM (ns nl nc nd : Nat) (G : Nat → Nat → Nat) (P W : Nat → Rat) (mk : Nat → Int) (eng brk : Nat → Bool) (life sl : Nat → Nat) (K : Nat → Cm) (pn : Nat → Nat → Nat → Bool) (ds : Nat → Nat) (V : Nat → Nat → Int32) (D : Dt) : Prop :=
  (D.FI 543 70 = nI ns ∧ D.FI 544 70 = nI nl ∧ D.FI 545 70 = nI nc ∧ D.FI 546 70 = nI nd) ∧
  (LkM G nl D ∧ DrA G nl ns 79 D) ∧
  (∀ k, k < nl → D.AI 87 k = bI (!eng k) ∧ D.AI 88 k = bI (brk k) ∧ D.AI 89 k = nI (life k) ∧ D.AI 90 k = nI (sl k) ∧ D.AJ 93 k = i6 (mk k)) ∧
  (MR D 72 ns P ∧ MR D 91 nl W) ∧
  ((∀ c, c < nc → CmM (K c) c D) ∧ ∀ c, nc ≤ c → c < 8 → D.AI 95 c = 0) ∧
  ((∀ d, d < nd → D.AI 100 d = nI (ds d)) ∧ PinM pn D ∧ ∀ d t, d < 4 → t < 8 → D.AI (240 + d) t = V d t)
/-- what holds of the numbers -/
def JP (i ns nl nc nd : Nat) (G : Nat → Nat → Nat) (P W : Nat → Rat) (mk : Nat → Int) (eng brk aact : Nat → Bool) (life sl : Nat → Nat) (K : Nat → Cm) (pn : Nat → Nat → Nat → Bool) (ds : Nat → Nat) (V : Nat → Nat → Int32) (n : Nat) : Prop :=
  (GrOK ns nl G ∧ Lev nl G (dp G nl)) ∧
  (RI G nl (actE eng brk) P mk ∧ BdP G nl n P ∧ BdW G nl n W ∧ MB nl mk) ∧
  ((∀ k, k < nl → life k ≤ 999 ∧ sl k ≤ 99) ∧ (∀ c, c < nc → CmK ns (K c)) ∧ (∀ d, d < nd → ds d < ns) ∧ nc ≤ 8 ∧ nd ≤ 4) ∧
  ((∀ k, nl ≤ k → eng k = false ∧ W k = 0 ∧ aact k = false) ∧ (∀ s, ns ≤ s → P s = 0) ∧ (∀ k, 0 ≤ W k)) ∧
  ((ns = 0 → n = 0) ∧ (0 < ns → n + 48 ≤ 48 * i) ∧ i ≤ 512) ∧
  (∀ d, nd ≤ d → (∀ p t, pn d p t = false) ∧ ∀ t, V d t = 0)
def JL (A : Nat → Nat) (ls : Nat → List Nat) (nl nc nd : Nat) (G : Nat → Nat → Nat) (ol : List Nat) : Prop := ls 0 = (List.range nl).map (fun k => A (400 + k)) ∧ ls 1 = ol.map (fun k => A (400 + k)) ∧ ls 2 = (List.range nc).map (fun c => A (500 + 5 * c)) ∧ ls 3 = (List.range nd).map (fun d => A (600 + 3 * d)) ∧ OlOK G nl ol
/-- after i calls -/
def JS (i : Nat) (S : Hp) (v1 v2 v3 v4 : Nat) : Prop := ∃ A E ls ns nl nc nd G P W mk eng brk aact life sl K pn ds V n ol D, v1 = A 0 ∧ v2 = A 70 ∧ v3 = A 110 ∧ v4 = A 111 ∧ Rep A E ls nl nc nd S D ∧ JL A ls nl nc nd G ol ∧ JP i ns nl nc nd G P W mk eng brk aact life sl K pn ds V n ∧ JC ns nl nc nd G P W mk eng brk aact life sl K pn ds V D ∧ JM ns nl nc nd G P W mk eng brk life sl K pn ds V D
section JJ9
variable {i ns nl nc nd n : Nat} {G : Nat → Nat → Nat} {P W : Nat → Rat} {mk : Nat → Int} {eng brk aact : Nat → Bool} {life sl : Nat → Nat} {K : Nat → Cm} {pn : Nat → Nat → Nat → Bool} {ds : Nat → Nat} {V : Nat → Nat → Int32} {D D' : Dt} {ol : List Nat}
theorem last_cg (h : Last G ns nl P aact D) (e1 : D'.FI 462 0 = D.FI 462 0) (e2 : D'.FI 463 0 = D.FI 463 0) (e3 : D'.AJ 40 = D.AJ 40) (e4 : D'.AJ 41 = D.AJ 41) (e5 : D'.AJ 61 = D.AJ 61) : Last G ns nl P aact D' := by
  rcases h with h | ⟨inp, y, Ps, tns, mks, h1, h2, h3, h4, h5, h6, h7, h8⟩
  · exact Or.inl (e1.trans h)
  · exact Or.inr ⟨inp, y, Ps, tns, mks, e1.trans h1, h2, e2.trans h3, h4, h5, rowV_other h6 e3 e4, fun k hk => by rw [e5]; exact h7 k hk, h8⟩
/-- the class's data stand where nothing of it is touched -/
theorem jc_cg (h : JC ns nl nc nd G P W mk eng brk aact life sl K pn ds V D) (hl : nl ≤ 14) (h8 : nc ≤ 8) (h4 : nd ≤ 4) (eF : ∀ i r, r ≠ 70 → D'.FI i r = D.FI i r) (eA : ∀ r, (r = 5 ∨ r = 63 ∨ r = 64 ∨ 400 ≤ r) → D'.AI r = D.AI r) (eJ : ∀ r, (32 ≤ r ∧ r < 36) ∨ r = 40 ∨ r = 41 ∨ r = 60 ∨ r = 61 → D'.AJ r = D.AJ r) : JC ns nl nc nd G P W mk eng brk aact life sl K pn ds V D' := by
  obtain ⟨⟨a1, a2, a3⟩, b, ⟨c1, c2, c3, c4⟩, d, ⟨e1, e2, e3⟩, f1, f2⟩ := h
  refine ⟨⟨(eF _ _ (by decide)).trans a1, ?_, drA_cg a3 (eA 5 (Or.inl rfl))⟩, fun k hk => ?_, ⟨rowV_other c1 (eJ _ (by omega)) (eJ _ (by omega)), rowV_other c2 (eJ _ (by omega)) (eJ _ (by omega)), fun k hk => by rw [eJ 60 (by omega)]; exact c3 k hk, fun k hk => by rw [eA 63 (by omega)]; exact c4 k hk⟩, fun c hc => ?_, ⟨fun d hd => ?_, fun d t hd ht => ?_, fun d p t hd hp ht => ?_⟩, fun k hk => by rw [eA 64 (by omega)]; exact f1 k hk, last_cg f2 (eF _ _ (by decide)) (eF _ _ (by decide)) (eJ _ (by omega)) (eJ _ (by omega)) (eJ _ (by omega))⟩
  · intro k hk
    rw [eF 320 _ (by omega), eF 321 _ (by omega), eF 322 _ (by omega), eF 323 _ (by omega), eF 324 _ (by omega), eF 325 _ (by omega), eF 326 _ (by omega)]
    exact a2 k hk
  · rw [eF 327 _ (by omega), eF 328 _ (by omega), eF 329 _ (by omega), eF 330 _ (by omega)]
    exact b k hk
  · exact cmC_cg (d c hc) (fun i _ => eF _ _ (by omega)) (fun j j1 j2 => eA _ (by omega))
  · rw [eF _ _ (by omega)]
    exact e1 d hd
  · rw [eA _ (by omega)]
    exact e2 d t hd ht
  · rw [eA _ (by omega)]
    exact e3 d p t hd hp ht
theorem jm_cg (h : JM ns nl nc nd G P W mk eng brk life sl K pn ds V D) (h8 : nc ≤ 8) (h4 : nd ≤ 4) (eF : ∀ i, i ≠ 549 → D'.FI i 70 = D.FI i 70) (eA : ∀ r, 79 ≤ r → r < 400 → D'.AI r = D.AI r) (eJ : ∀ r, 72 ≤ r → r < 94 → D'.AJ r = D.AJ r) : JM ns nl nc nd G P W mk eng brk life sl K pn ds V D' := by
  obtain ⟨⟨a1, a2, a3, a4⟩, ⟨b1, b2⟩, c, ⟨d1, d2⟩, ⟨e1, e2⟩, f1, f2, f3⟩ := h
  refine ⟨⟨(eF _ (by decide)).trans a1, (eF _ (by decide)).trans a2, (eF _ (by decide)).trans a3, (eF _ (by decide)).trans a4⟩, ⟨lkM_cg b1 (fun r _ _ => eA r (by omega) (by omega)), drA_cg b2 (eA 79 (by omega) (by omega))⟩, fun k hk => ?_, ⟨mr_other d1 (eJ _ (by omega) (by omega)) (eJ _ (by omega) (by omega)), mr_other d2 (eJ _ (by omega) (by omega)) (eJ _ (by omega) (by omega))⟩, ⟨fun c hc => cmM_cg (e1 c hc) (by rw [eA 94 (by omega) (by omega)]) (by rw [eA 95 (by omega) (by omega)]) (fun r hr => eA r (by omega) (by omega)), fun c h1 h2 => by rw [eA 95 (by omega) (by omega)]; exact e2 c h1 h2⟩, fun d hd => by rw [eA 100 (by omega) (by omega)]; exact f1 d hd, fun d p t hd hp ht => by rw [eA _ (by omega) (by omega)]; exact f2 d p t hd hp ht, fun d t hd ht => by rw [eA _ (by omega) (by omega)]; exact f3 d t hd ht⟩
  rw [eA 87 (by omega) (by omega), eA 88 (by omega) (by omega), eA 89 (by omega) (by omega), eA 90 (by omega) (by omega), eJ 93 (by omega) (by omega)]
  exact c k hk
theorem jc_thr {c : Int32} (h : JC ns nl nc nd G P W mk eng brk aact life sl K pn ds V D) (hl : nl ≤ 14) (h8 : nc ≤ 8) (h4 : nd ≤ 4) (t : Thr c D D') : JC ns nl nc nd G P W mk eng brk aact life sl K pn ds V D' := jc_cg h hl h8 h4 (fun i r hr => t.1.1 i r (fun q => hr q.2)) (fun r _ => by rw [t.AI]) (fun r _ => by rw [t.AJ])
theorem jm_thr {c : Int32} (h : JM ns nl nc nd G P W mk eng brk life sl K pn ds V D) (h8 : nc ≤ 8) (h4 : nd ≤ 4) (t : Thr c D D') : JM ns nl nc nd G P W mk eng brk life sl K pn ds V D' := jm_cg h h8 h4 (fun i hi => t.FI hi) (fun r _ _ => by rw [t.AI]) (fun r _ _ => by rw [t.AJ])
theorem jc_out {r i : Nat} {v : Int64} (h : JC ns nl nc nd G P W mk eng brk aact life sl K pn ds V D) (hl : nl ≤ 14) (h8 : nc ≤ 8) (h4 : nd ≤ 4) (hr : r = 110) : JC ns nl nc nd G P W mk eng brk aact life sl K pn ds V (D.setAJ r i v) := jc_cg h hl h8 h4 (fun _ _ _ => rfl) (fun _ _ => rfl) (fun r' h' => funext fun j => dtAJ_n (fun q => by omega))
theorem jm_out {r i : Nat} {v : Int64} (h : JM ns nl nc nd G P W mk eng brk life sl K pn ds V D) (h8 : nc ≤ 8) (h4 : nd ≤ 4) (hr : r = 110) : JM ns nl nc nd G P W mk eng brk life sl K pn ds V (D.setAJ r i v) := jm_cg h h8 h4 (fun _ _ => rfl) (fun _ _ _ => rfl) (fun r' h1 h2 => funext fun j => dtAJ_n (fun q => by omega))
theorem jp_next (h : JP i ns nl nc nd G P W mk eng brk aact life sl K pn ds V n) (hi : i < 512) : JP (i + 1) ns nl nc nd G P W mk eng brk aact life sl K pn ds V n := by
  obtain ⟨a, b, c, d, ⟨e1, e2, e3⟩, f⟩ := h
  exact ⟨a, b, c, d, ⟨e1, fun h => by have := e2 h; omega, by omega⟩, f⟩
theorem jp_n (h : JP i ns nl nc nd G P W mk eng brk aact life sl K pn ds V n) (hi : i < 512) : n ≤ 24560 ∧ n ≤ 24600 ∧ (0 < ns → n + 48 ≤ 24560) := by
  obtain ⟨a, b, c, d, ⟨e1, e2, e3⟩, f⟩ := h
  by_cases c0 : ns = 0
  · have := e1 c0
    omega
  · have := e2 (by omega)
    omega
end JJ9
section FI9
variable {A E : Nat → Nat} {ls : Nat → List Nat} {nl nc nd : Nat} {S : Hp} {D : Dt}
def finP (A : Nat → Nat) (N : Hp → Prop) (k : Int32) (b : Int64) (S : Hp) : Prop := isA S (A 70) 8 ∧ wX8_thrown S (A 70) (fun S6 r7 => ((r7 = k → ((¬ k = 0 → N S6) ∧ (k = 0 → isA S6 (A 110) 22 ∧ vp_in 0 (S6.N (A 110)) ∧ (((lg_cmp (S6.AJ (A 110) ((0 : Int32).toNatClampNeg)) b) = 0 → N S6) ∧ (¬ ((lg_cmp (S6.AJ (A 110) ((0 : Int32).toNatClampNeg)) b) = 0) → False))))) ∧ (¬ (r7 = k) → False)))
theorem o_is (h : Rep A E ls nl nc nd S D) : isA S (A 110) 22 ∧ S.N (A 110) = 1 := ⟨rep_is h (al_s (by decide)) (by decide), rep_N h (al_s (by decide)) (by decide)⟩
theorem cmp_self (z : Int64) : lg_cmp z z = 0 := by
  unfold lg_cmp
  simp
theorem fin_t {N : Hp → Prop} {k : Int32} {b : Int64} (h : Rep A E ls nl nc nd S D) (ht : D.FI 549 70 = k) (hk : ¬ k = 0) (n : N S) : finP A N k b S := by
  have v : S.FI 549 (A 70) = k := (rep_FI h 549 (by decide) m_al).trans ht
  unfold finP wX8_thrown wX8_thrown_b0
  rw [v]
  exact ⟨m_is h, m_is h, if_p rfl (fi_n hk n)⟩
theorem fin_0 {N : Hp → Prop} {b : Int64} (h : Rep A E ls nl nc nd S D) (ht : D.FI 549 70 = 0) (hb : D.AJ 110 0 = b) (n : N S) : finP A N 0 b S := by
  have v : S.FI 549 (A 70) = 0 := (rep_FI h 549 (by decide) m_al).trans ht
  have w : S.AJ (A 110) ((0 : Int32).toNatClampNeg) = b := rd_J (i := 0) h (al_s (by decide)) (by omega) hb
  obtain ⟨o1, o2⟩ := o_is h
  unfold finP wX8_thrown wX8_thrown_b0
  rw [v]
  refine ⟨m_is h, m_is h, if_p rfl (fi_p rfl ⟨o1, by rw [o2]; exact in_nI (i := 0) (by decide) (by decide), ?_⟩)⟩
  rw [w]
  exact if_p (cmp_self b) n
/-- the answer is put down -/
theorem out_w {Z : Hp → Prop} {v : Int64} (h : Rep A E ls nl nc nd S D) (k : ∀ S', Rep A E ls nl nc nd S' (D.setAJ 110 0 v) → Z S') : isA S (A 110) 22 ∧ vp_in 0 (S.N (A 110)) ∧ ∀ S6, S6 = S.setAJ (A 110) ((0 : Int32).toNatClampNeg) v → Z S6 := by
  obtain ⟨o1, o2⟩ := o_is h
  refine ⟨o1, by rw [o2]; exact in_nI (i := 0) (by decide) (by decide), fun S6 e6 => k S6 ?_⟩
  rw [e6]
  exact set_AJ h 0 v (al_s (by decide))
end FI9
