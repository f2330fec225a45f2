/-! THE REFERENCE: link, planets, whole -/
/-- what holds in the reference once a link has come -/
def MNew (A E : Nat → Nat) (ls : Nat → List Nat) (nlr nl nc nd ns : Nat) (G : Nat → Nat → Nat) (g : Nat → Nat) (P : Nat → Rat) (D : Dt) (S' : Hp) (D' : Dt) : Prop :=
  Rep A E ls nlr nc nd S' D' ∧ SamG (fun i r => (i = 544 ∨ i = 549) ∧ r = 70) (fun r => r = 79 ∨ (81 ≤ r ∧ r < 91)) (fun r => 91 ≤ r ∧ r < 94) D D' ∧ D'.FI 549 70 = 0 ∧ D'.FI 544 70 = nI (nl + 1) ∧ LkM (gx G nl g) (nl + 1) D' ∧ DrA (gx G nl g) (nl + 1) ns 79 D' ∧ (∀ k, D'.AI 87 k = if k = nl then 0 else D.AI 87 k) ∧ (∀ k, D'.AI 88 k = if k = nl then 0 else D.AI 88 k) ∧ (∀ k, D'.AI 89 k = if k = nl then 0 else D.AI 89 k) ∧ (∀ k, D'.AI 90 k = if k = nl then 0 else D.AI 90 k) ∧ (∀ k, D'.AJ 91 k = if k = nl then 0 else D.AJ 91 k) ∧ (∀ k, D'.AJ 92 k = if k = nl then 1 else D.AJ 92 k) ∧ (∀ k, D'.AJ 93 k = if k = nl then i6 (fl (g 4 : Nat) (P (g 1))) else D.AJ 93 k)
/-- and what, if it is refused -/
def MNo (A E : Nat → Nat) (ls : Nat → List Nat) (nlr nl nc nd ns : Nat) (G : Nat → Nat → Nat) (D : Dt) (S' : Hp) (D' : Dt) : Prop :=
  Rep A E ls nlr nc nd S' D' ∧ SamG (fun i r => (i = 544 ∨ i = 549) ∧ r = 70) (fun r => r = 79 ∨ (81 ≤ r ∧ r < 87)) (fun _ => False) D D' ∧ D'.FI 549 70 = 3 ∧ D'.FI 544 70 = nI nl ∧ LkM G nl D' ∧ DrA G nl ns 79 D'
def tlM (A : Nat → Nat) (Φ : Hp → Int32 → Prop) (z : Int32) (S1 : Hp) : Prop := isA S1 (A 70) 8 ∧ wX8_isThrown S1 (A 70) z 3 (fun S1 r2 => ((¬ r2 = 0 → Φ S1 0) ∧ (r2 = 0 → isA S1 (A 70) 8 ∧ wX8_isThrown S1 (A 70) 0 4 (fun S5 r6 => ((r6 = 0 → isA S5 (A 70) 8 ∧ wX8_made S5 (A 70) (fun S9 r10 => Φ S9 r10)) ∧ (¬ (r6 = 0) → Φ S5 0))))))
section MK9
variable {A E : Nat → Nat} {ls : Nat → List Nat} {nl nc nd : Nat} {S : Hp} {D : Dt} {G : Nat → Nat → Nat} {g : Nat → Nat}
theorem p_addM {Φ : Hp → Int32 → Prop} {ns nlr n : Nat} {lv : Nat → Nat} {P : Nat → Rat} (h : Rep A E ls nlr nc nd S D) (hG : GrOK ns nl G) (hL : Lev nl G lv) (hM : LkM G nl D) (hnl : D.FI 544 70 = nI nl) (hns : D.FI 543 70 = nI ns) (hdr : DrA G nl ns 79 D) (hP : MR D 72 ns P) (hB : BdP G nl n P) (hn : n ≤ 24600) (hk : kOK (gx G nl g) nl) (h1 : g 1 < ns) (h2 : g 0 = 112 → g 2 < ns) (h3 : g 3 < ns)
    (k0 : ∀ S' D', MNo A E ls nlr nl nc nd ns G D S' D' → (sameG g ∨ drv G nl (g 3) ≠ none ∨ ¬ ∀ s, s < ns → dpF (gx G nl g) (nl + 1) 4 s ≤ 3) → Φ S' 0)
    (k1 : ∀ S' D', MNew A E ls nlr nl nc nd ns G g P D S' D' → ¬ sameG g → drv G nl (g 3) = none → (∀ s, s < ns → dpF (gx G nl g) (nl + 1) 4 s ≤ 3) → Φ S' (nI nl)) :
    wX8_isAdded S (A 70) (nI (g 0)) (nI (g 1)) (sec (gx G nl g) nl) (nI (g 3)) (nI (g 4)) (nI (g 5)) (fun S1 r2 => ((¬ r2 = 0 → tlM A Φ 0 S1) ∧ (r2 = 0 → tlM A Φ 1 S1))) := by
  have h14 := hG.1
  have hnl14 := hG.2.1
  refine p_isAdded h hG hL hM hnl hns hdr hk h1 h2 h3 (fun S1 D1 r1 s1 no n1 m1 d1 => fi_p rfl ⟨m_is r1, t_isThrown true r1 rfl (fun e => absurd e (by decide)) (fun _ S2 D2 r2 t2 => fi_n (by decide) (k0 S2 D2 ⟨r2, ?_, t2.2, ?_, ?_, ?_⟩ no))⟩) (fun S1 D1 r1 s1 ns1 ed fit n1 m1 d1 => fi_n (by decide) ⟨m_is r1, t_isThrown false r1 rfl (fun _ S2 D2 r2 t2 => fi_p rfl ⟨m_is r2, t_isThrown false r2 rfl (fun _ S3 D3 r3 t3 => if_p rfl ⟨m_is r3, ?_⟩) (fun e => absurd e (by decide))⟩) (fun e => absurd e (by decide))⟩)
  · exact (s1.wk (fun i r q => ⟨Or.inl q.1, q.2⟩) (fun r q => by omega) (fun r q => q.elim)).tr (t2.1.wk (fun i r q => ⟨Or.inr q.1, q.2⟩) (fun r q => q.elim) (fun r q => q.elim))
  · rw [t2.FI (by decide)]
    exact n1
  · exact lkM_cg m1 (fun r _ _ => by rw [t2.AI])
  · exact drA_cg d1 (by rw [t2.AI])
  · have t13 := t2.tr t3
    have hG' := gr_ext hG hk h1 h2 h3 ed
    have m3 : LkM (gx G nl g) (nl + 1) D3 := lkM_cg m1 (fun r _ _ => by rw [t13.AI])
    have d3 : DrA (gx G nl g) (nl + 1) ns 79 D3 := drA_cg d1 (by rw [t13.AI])
    have n3 : D3.FI 544 70 = nI (nl + 1) := by
      rw [t13.FI (by decide)]
      exact n1
    have aj : ∀ r, D3.AJ r = D.AJ r := fun r => by
      rw [t13.AJ]
      exact s1.2.2 r (fun q => q)
    have s3 : SamG (fun i r => (i = 544 ∨ i = 549) ∧ r = 70) (fun r => r = 79 ∨ (81 ≤ r ∧ r < 91)) (fun r => 91 ≤ r ∧ r < 94) D D3 := (s1.wk (fun i r q => ⟨Or.inl q.1, q.2⟩) (fun r q => by omega) (fun r q => q.elim)).tr (t13.1.wk (fun i r q => ⟨Or.inr q.1, q.2⟩) (fun r q => q.elim) (fun r q => q.elim))
    obtain ⟨M1, M2, M3⟩ := pm_lt hG (g 1)
    have hq := qn_le M3 hn
    have ai : ∀ r, ¬ (r = 79 ∨ (81 ≤ r ∧ r < 87)) → D3.AI r = D.AI r := fun r hr => by
      rw [t13.AI]
      exact s1.2.1 r hr
    refine p_made (G := gx G nl g) (ns := ns) (P := P) (M := pm G nl (g 1)) (B := n * qm G nl (g 1)) r3 (by omega) h14 m3 (by rw [gx_s]; exact h1) (kOK_lt hk).2.1 n3 (mr_other hP (aj _) (aj _)) (by rw [gx_s]; exact bd_bq M1 (hB _)) M1 M2 (by omega) (fun S4 D4 r4 s4 f87 f88 f89 f90 f91 f92 f93 => k1 S4 D4 ⟨r4, s3.tr (s4.wk (fun _ _ q => q.elim) (fun r q => by omega) (fun r q => q)), ?_, ?_, ?_, ?_, ?_, ?_, ?_, ?_, ?_, ?_, ?_⟩ ns1 ed fit)
    · rw [s4.1 549 70 (fun q => q)]
      exact t13.2
    · rw [s4.1 544 70 (fun q => q)]
      exact n3
    · exact lkM_cg m3 (fun r q1 q2 => s4.2.1 r (by omega))
    · exact drA_cg d3 (s4.2.1 79 (by omega))
    · intro k
      rw [f87 k, ai 87 (by omega)]
    · intro k
      rw [f88 k, ai 88 (by omega)]
    · intro k
      rw [f89 k, ai 89 (by omega)]
    · intro k
      rw [f90 k, ai 90 (by omega)]
    · intro k
      rw [f91 k, aj 91]
    · intro k
      rw [f92 k, aj 92]
    · intro k
      rw [f93 k, aj 93, gx_s]
theorem p_linkM {Φ : Hp → Int32 → Prop} {ns nlr n : Nat} {lv : Nat → Nat} {P : Nat → Rat} {x1 x2 x3 x4 x5 : Int32} (h : Rep A E ls nlr nc nd S D) (hG : GrOK ns nl G) (hL : Lev nl G lv) (hM : LkM G nl D) (hnl : D.FI 544 70 = nI nl) (hns : D.FI 543 70 = nI ns) (hdr : DrA G nl ns 79 D) (hP : MR D 72 ns P) (hB : BdP G nl n P) (hn : n ≤ 24600)
    (kt1 : ¬ (inR x2 ns ∧ inR x3 ns) → ∀ S' D', Rep A E ls nlr nc nd S' D' → Thr 1 D D' → Φ S' 0) (kt2 : inR x2 ns → inR x3 ns → ¬ mnP x1 x4 x5 → ∀ S' D', Rep A E ls nlr nc nd S' D' → Thr 2 D D' → Φ S' 0)
    (hok : inR x2 ns → inR x3 ns → mnP x1 x4 x5 → ∃ κ f t a b, κ ≠ 112 ∧ f < ns ∧ t < ns ∧ x1 = nI κ ∧ x2 = nI f ∧ x3 = nI t ∧ x4 = nI a ∧ x5 = nI b ∧ kOK (gx G nl (lrow κ f 0 t a b)) nl ∧
      (∀ S' D', MNo A E ls nlr nl nc nd ns G D S' D' → (f = t ∨ drv G nl t ≠ none ∨ ¬ ∀ s, s < ns → dpF (gx G nl (lrow κ f 0 t a b)) (nl + 1) 4 s ≤ 3) → Φ S' 0) ∧
      (∀ S' D', MNew A E ls nlr nl nc nd ns G (lrow κ f 0 t a b) P D S' D' → f ≠ t → drv G nl t = none → (∀ s, s < ns → dpF (gx G nl (lrow κ f 0 t a b)) (nl + 1) 4 s ≤ 3) → Φ S' (nI nl))) : wX8_link S (A 70) x1 x2 x3 x4 x5 Φ := by
  have h14 := hG.1
  have hnl14 := hG.2.1
  have b17 : ¬ (inR x2 ns ∧ inR x3 ns) → wX8_link_b17 (A 70) x1 x2 x3 x4 x5 Φ S (A 70) := fun q => by
    unfold wX8_link_b17 wX8_link_b22
    exact ⟨m_is h, t_isThrown true h rfl (fun e => absurd e (by decide)) (fun _ S2 D2 r2 t2 => fi_n (by decide) (kt1 q S2 D2 r2 t2))⟩
  have bf : ∀ {x : Int32}, inRb x ns = false → ¬ inR x ns := fun e q => by
    rw [inRb_t.mpr q] at e
    exact absurd e (by decide)
  unfold wX8_link wX8_link_b0
  refine ⟨m_is h, t_isNoShaft h hns h14 ?_⟩
  cases e2 : inRb x2 ns
  · exact fi_n (by decide) (b17 (fun q => bf e2 q.1))
  refine fi_p rfl ⟨m_is h, t_isNoShaft h hns h14 ?_⟩
  cases e3 : inRb x3 ns
  · exact if_n (by decide) (b17 (fun q => bf e3 q.2))
  refine if_p rfl ?_
  have i2 := inRb_t.mp e2
  have i3 := inRb_t.mp e3
  unfold wX8_link_b22
  refine ⟨m_is h, t_isThrown false h rfl (fun _ S1 D1 r1 t1 => fi_p rfl (t_isKind (fun hm => fi_n (by decide) ?_) (fun hm => fi_p rfl ?_))) (fun e => absurd e (by decide))⟩
  · unfold wX8_link_b46
    refine ⟨m_is r1, t_isThrown false r1 rfl (fun _ S2 D2 r2 t2 => if_p rfl ⟨m_is r2, ?_⟩) (fun e => absurd e (by decide))⟩
    have t12 := t1.tr t2
    have v544 : S2.FI 544 (A 70) = nI nl := by
      rw [rep_FI r2 544 (by decide) m_al, t12.FI (by decide)]
      exact hnl
    rw [v544]
    refine fi_n (fun q => absurd ((nI_iff (b := 16) (by omega) (by decide)).mp q) (by omega)) ?_
    obtain ⟨κ, f, t, a, b, h112, hf, ht, z1, z2, z3, z4, z5, hk, no, new⟩ := hok i2 i3 hm
    have hsec : sec (gx G nl (lrow κ f 0 t a b)) nl = -1 := by
      unfold sec
      rw [gx_s]
      exact if_neg h112
    have c549 : SamG (fun i r => (i = 544 ∨ i = 549) ∧ r = 70) (fun r => r = 79 ∨ (81 ≤ r ∧ r < 91)) (fun r => 91 ≤ r ∧ r < 94) D D2 := t12.1.wk (fun i r q => ⟨Or.inr q.1, q.2⟩) (fun r q => q.elim) (fun r q => q.elim)
    have hsame : sameG (lrow κ f 0 t a b) ↔ f = t := by
      unfold sameG
      constructor
      · rintro (q | q | q)
        · exact q
        · exact absurd q.1 h112
        · exact absurd q.1 h112
      · exact fun q => Or.inl q
    have := p_addM (Φ := Φ) (g := lrow κ f 0 t a b) (n := n) (P := P) r2 hG hL (lkM_cg hM (fun r _ _ => by rw [t12.AI])) (by rw [t12.FI (by decide)]; exact hnl) (by rw [t12.FI (by decide)]; exact hns) (drA_cg hdr (by rw [t12.AI])) (mr_other hP (by rw [t12.AJ]) (by rw [t12.AJ])) hB hn hk hf (fun q => absurd q h112) ht (fun S' D' w q => no S' D' ⟨w.1, (t12.1.wk (fun i r q => ⟨Or.inr q.1, q.2⟩) (fun r q => q.elim) (fun r q => q.elim)).tr w.2.1, w.2.2.1, w.2.2.2.1, w.2.2.2.2⟩ (q.imp hsame.mp (fun z => z))) (fun S' D' w q1 q2 q3 => new S' D' ?_ (fun z => q1 (hsame.mpr z)) q2 q3)
    · rw [z1, z2, z3, z4, z5]
      unfold wX8_link_b69
      rw [hsec] at this
      exact ⟨m_is r2, this⟩
    · obtain ⟨w1, w2, w3, w4, w5, w6, w7, w8, w9, w10, w11, w12, w13⟩ := w
      rw [t12.AI] at w7 w8 w9 w10
      rw [t12.AJ] at w11 w12 w13
      exact ⟨w1, c549.tr w2, w3, w4, w5, w6, w7, w8, w9, w10, w11, w12, w13⟩
  · unfold wX8_link_b46
    exact ⟨m_is r1, t_isThrown true r1 rfl (fun e => absurd e (by decide)) (fun _ S2 D2 r2 t2 => if_n (by decide) (kt2 i2 i3 hm S2 D2 r2 (t1.tr t2)))⟩
end MK9
