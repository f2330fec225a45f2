/-! A TURNING: its steps in a row -/
def SamG (XF : Nat → Nat → Prop) (XI XJ : Nat → Prop) (D D' : Dt) : Prop := (∀ i r, ¬ XF i r → D'.FI i r = D.FI i r) ∧ (∀ r, ¬ XI r → D'.AI r = D.AI r) ∧ ∀ r, ¬ XJ r → D'.AJ r = D.AJ r
theorem SamG.rf {XF : Nat → Nat → Prop} {XI XJ : Nat → Prop} {D : Dt} : SamG XF XI XJ D D := ⟨fun _ _ _ => rfl, fun _ _ => rfl, fun _ _ => rfl⟩
theorem SamG.tr {XF : Nat → Nat → Prop} {XI XJ : Nat → Prop} {D D' D'' : Dt} (h : SamG XF XI XJ D D') (h' : SamG XF XI XJ D' D'') : SamG XF XI XJ D D'' := ⟨fun i r hr => (h'.1 i r hr).trans (h.1 i r hr), fun r hr => (h'.2.1 r hr).trans (h.2.1 r hr), fun r hr => (h'.2.2 r hr).trans (h.2.2 r hr)⟩
theorem SamG.wk {XF YF : Nat → Nat → Prop} {XI XJ YI YJ : Nat → Prop} {D D' : Dt} (h : SamG XF XI XJ D D') (h0 : ∀ i r, XF i r → YF i r) (h1 : ∀ r, XI r → YI r) (h2 : ∀ r, XJ r → YJ r) : SamG YF YI YJ D D' := ⟨fun i r hr => h.1 i r (fun q => hr (h0 i r q)), fun r hr => h.2.1 r (fun q => hr (h1 r q)), fun r hr => h.2.2 r (fun q => hr (h2 r q))⟩
theorem SamX.G {XF : Nat → Nat → Prop} {XI XJ : Nat → Prop} {D D' : Dt} (h : SamX XI XJ D D') : SamG XF XI XJ D D' := ⟨fun _ _ _ => by rw [h.1], h.2.1, h.2.2⟩
theorem SamJ.G {XF : Nat → Nat → Prop} {XI X : Nat → Prop} {D D' : Dt} (h : SamJ X D D') : SamG XF XI X D D' := ⟨fun _ _ _ => by rw [h.1], fun _ _ => by rw [h.2.2.1], h.2.2.2⟩
theorem samG_F {XF : Nat → Nat → Prop} {XI XJ : Nat → Prop} {D : Dt} {i r : Nat} {v : Int32} (h1 : XF i r) : SamG XF XI XJ D (D.setFI i r v) := ⟨fun _ _ hr => dtFI_n (fun e => hr (e.1 ▸ e.2 ▸ h1)), fun _ _ => rfl, fun _ _ => rfl⟩
theorem samG_I {XF : Nat → Nat → Prop} {XI XJ : Nat → Prop} {D : Dt} {r i : Nat} {v : Int32} (h1 : XI r) : SamG XF XI XJ D (D.setAI r i v) := (samX_I h1).G
theorem samG_J {XF : Nat → Nat → Prop} {XI XJ : Nat → Prop} {D : Dt} {r i : Nat} {v : Int64} (h1 : XJ r) : SamG XF XI XJ D (D.setAJ r i v) := (samX_J h1).G
/-- N steps, one behind another -/
def Sq (G : Nat → Nat → Nat) (nl : Nat) (act : Nat → Bool) (inp : Nat) (wy : Int) (N : Nat) (Ps tns : Nat → Nat → Rat) (mks : Nat → Nat → Int) : Prop :=
  ∀ i, i < N → StepEq G nl act (Ps i) (mks i) inp wy (tns i) (mks (i + 1)) ∧ Ps (i + 1) = fun s => Ps i s + tns i s
def Wsq (G : Nat → Nat → Nat) (act : Nat → Bool) (tns : Nat → Nat → Rat) (W : Nat → Rat) : Nat → Nat → Rat
  | 0 => W
  | i + 1 => wnx G act (tns i) (Wsq G act tns W i)
def Vsq (pn : Nat → Nat → Nat → Bool) (ds : Nat → Nat) (Ps tns : Nat → Nat → Rat) (V : Nat → Nat → Int32) : Nat → Nat → Nat → Int32
  | 0 => V
  | i + 1 => fun d t => hits (pn d) (fl 24 (Ps i (ds d))) (fl 24 (Ps i (ds d) + tns i (ds d))) (Vsq pn ds Ps tns V i d) t
theorem rec_ex {α : Type} (a : α) (F : α → α) : ∃ g : Nat → α, g 0 = a ∧ ∀ n, g (n + 1) = F (g n) := ⟨fun n => Nat.rec a (fun _ x => F x) n, rfl, fun _ => rfl⟩
theorem sq_ex {ns nl : Nat} {G : Nat → Nat → Nat} {lv : Nat → Nat} (hG : GrOK ns nl G) (hL : Lev nl G lv) (act : Nat → Bool) (P : Nat → Rat) (mk : Nat → Int) (inp : Nat) (wy : Int) (hi : ∀ k, k < nl → act k = true → G k 3 ≠ inp) (N : Nat) : ∃ Ps tns mks, Ps 0 = P ∧ mks 0 = mk ∧ Sq G nl act inp wy N Ps tns mks := by
  have hx : ∀ st : (Nat → Rat) × (Nat → Int), ∃ r : (Nat → Rat) × (Nat → Int), StepEq G nl act st.1 st.2 inp wy r.1 r.2 := fun st => by
    obtain ⟨tn, mk', h⟩ := step_ex hG hL act st.1 st.2 inp wy hi
    exact ⟨(tn, mk'), h⟩
  obtain ⟨f, hf⟩ := Classical.axiomOfChoice hx
  obtain ⟨g, g0, g1⟩ := rec_ex (P, mk) (fun st => ((fun s => st.1 s + (f st).1 s), (f st).2))
  refine ⟨fun i => (g i).1, fun i => (f (g i)).1, fun i => (g i).2, congrArg Prod.fst g0, congrArg Prod.snd g0, fun i _ => ⟨?_, ?_⟩⟩
  · dsimp only
    rw [g1 i]
    exact hf (g i)
  · dsimp only
    rw [g1 i]
/-- how far the marks go -/
def MB (nl : Nat) (mk : Nat → Int) : Prop := ∀ k, k < nl → (mk k).natAbs ≤ 4000000000000000000
theorem fl_lim2 {M B a : Nat} {q : Rat} (b : Bq M B q) (hB : B ≤ 100000000000000000) (hM : 0 < M) (ha : a ≤ 30) : (fl (a : Nat) q).natAbs ≤ 4000000000000000000 := by
  unfold fl
  have h1 := Int.natAbs_ediv_le_natAbs (((a : Nat) : Int) * q.num) (q.den : Int)
  have h2 : (((a : Nat) : Int) * q.num).natAbs = a * q.num.natAbs := by rw [Int.natAbs_mul, Int.natAbs_natCast]
  obtain ⟨w0, w1, w2, w3⟩ := b
  have w4 : 0 < w1 := Nat.pos_of_ne_zero (fun e => by rw [e, Nat.mul_zero] at w2; omega)
  have w5 : q.num.natAbs ≤ q.num.natAbs * w1 := Nat.le_mul_of_pos_right _ w4
  have w6 : a * q.num.natAbs ≤ 30 * q.num.natAbs := Nat.mul_le_mul_right _ ha
  omega
theorem mb_step {ns nl n : Nat} {G : Nat → Nat → Nat} {act : Nat → Bool} {P tn : Nat → Rat} {mk mk' : Nat → Int} {inp : Nat} {wy : Int} (hG : GrOK ns nl G) (h : MB nl mk) (hst : StepEq G nl act P mk inp wy tn mk') (hB : BdP G nl (n + 1) (fun s => P s + tn s)) (hn : n ≤ 24560) : MB nl mk' := by
  intro k hk
  by_cases ha : act k = true
  · rw [(hst.2.2.1 k hk ha).2.2]
    unfold mkn
    by_cases h0 : G k 0 = 114
    · rw [if_pos h0]
      obtain ⟨M1, M2, M3⟩ := pm_lt hG (G k 1)
      have hq := qn_le M3 (show n + 1 ≤ 24600 by omega)
      have hb := bd_bq M1 (hB (G k 1))
      have := fl_lim2 hb (by omega) M1 (kOK_lt (hG.2.2.1 k hk).1).2.1
      have h1 := h k hk
      dsimp only at this
      omega
    · rw [if_neg h0]
      exact h k hk
  · rw [hst.2.2.2 k (fun q => ha q.2)]
    exact h k hk
theorem sq_inv {ns nl n N : Nat} {G : Nat → Nat → Nat} {lv : Nat → Nat} {act : Nat → Bool} {inp : Nat} {wy : Int} {Ps tns : Nat → Nat → Rat} {mks : Nat → Nat → Int} {W : Nat → Rat} (hG : GrOK ns nl G) (hL : Lev nl G lv) (hw : wy.natAbs ≤ 1) (hs : Sq G nl act inp wy N Ps tns mks) (hR : RI G nl act (Ps 0) (mks 0)) (hB : BdP G nl n (Ps 0)) (hM : MB nl (mks 0)) (hW : BdW G nl n W) (hn : n + N ≤ 24560) :
    ∀ i, i ≤ N → RI G nl act (Ps i) (mks i) ∧ BdP G nl (n + i) (Ps i) ∧ MB nl (mks i) ∧ BdW G nl (n + i) (Wsq G act tns W i) := by
  intro i
  induction i with
  | zero => exact fun _ => ⟨hR, hB, hM, hW⟩
  | succ i ih =>
    intro hi
    obtain ⟨a1, a2, a3, a4⟩ := ih (by omega)
    obtain ⟨b1, b2⟩ := hs i (by omega)
    have htb := tn_bd hG hL hw b1 a1
    have c1 := ri_step b1
    have c2 := bdP_step a2 htb
    have c3 := mb_step hG a3 b1 c2 (by omega)
    rw [b2]
    exact ⟨c1, c2, c3, bdW_step hG hL a4 htb⟩
theorem sq_tb {ns nl n N : Nat} {G : Nat → Nat → Nat} {lv : Nat → Nat} {act : Nat → Bool} {inp : Nat} {wy : Int} {Ps tns : Nat → Nat → Rat} {mks : Nat → Nat → Int} {W : Nat → Rat} (hG : GrOK ns nl G) (hL : Lev nl G lv) (hw : wy.natAbs ≤ 1) (hs : Sq G nl act inp wy N Ps tns mks) (hR : RI G nl act (Ps 0) (mks 0)) (hB : BdP G nl n (Ps 0)) (hM : MB nl (mks 0)) (hW : BdW G nl n W) (hn : n + N ≤ 24560) :
    ∀ i, i < N → ∀ s, Bd (pm G nl s) (qm G nl s) (tns i s) := fun i hi => tn_bd hG hL hw (hs i hi).1 (sq_inv hG hL hw hs hR hB hM hW hn i (Nat.le_of_lt hi)).1
section MC9
variable {A E : Nat → Nat} {ls : Nat → List Nat} {nl nc nd : Nat} {S : Hp} {D : Dt} {G : Nat → Nat → Nat}
theorem p_mcopy {Φ : Hp → Prop} {m m' : Nat} (h : Rep A E ls nl nc nd S D) (hm : m < 3) (hm' : m' < 3) (hne : m ≠ m') (hnb : ∀ i, i < 16 → nb (D.AI (63 + m') i))
    (kk : ∀ S' D', Rep A E ls nl nc nd S' D' → SamG (fun _ _ => False) (fun r => r = 63 + m) (fun r => r = 34 + 6 * m ∨ r = 35 + 6 * m ∨ r = 60 + m) D D' → (∀ V, RowV D (2 + 3 * m') 14 V → RowV D' (2 + 3 * m) 14 V) → (∀ i, i < 16 → D'.AJ (60 + m) i = D.AJ (60 + m') i) → (∀ i, i < 16 → D'.AI (63 + m) i = D.AI (63 + m') i) → Φ S') : wX6_copyFrom S (A (20 + m)) (A (20 + m')) Φ := by
  have p1 : 2 + 3 * m < 11 := by omega
  have p2 : 2 + 3 * m' < 11 := by omega
  have r1 : rn (2 + 3 * m) = 14 := if_neg (by omega)
  have r2 : rn (2 + 3 * m') = 14 := if_neg (by omega)
  obtain ⟨m1, m2, m3, m4, m5, m6, m7, m8, m9, m10⟩ := mot_ h hm
  obtain ⟨n1, n2, n3, n4, n5, n6, n7, n8, n9, n10⟩ := mot_ h hm'
  unfold wX6_copyFrom wX6_copyFrom_b0
  refine ⟨m1, _, m2, n1, _, n2, (row_ h p1).1, p_copyFrom h p1 p2 r1 r2 (by omega) (fun S5 h5 => ?_)⟩
  have sm : SamG (fun _ _ => False) (fun r => r = 63 + m) (fun r => r = 34 + 6 * m ∨ r = 35 + 6 * m ∨ r = 60 + m) D ((D.cpyJ (30 + 2 * (2 + 3 * m)) (30 + 2 * (2 + 3 * m')) 14).cpyJ (31 + 2 * (2 + 3 * m)) (31 + 2 * (2 + 3 * m')) 14) := (samJ_cpy (by omega) (by omega)).G
  have rv : ∀ V, RowV D (2 + 3 * m') 14 V → RowV ((D.cpyJ (30 + 2 * (2 + 3 * m)) (30 + 2 * (2 + 3 * m')) 14).cpyJ (31 + 2 * (2 + 3 * m)) (31 + 2 * (2 + 3 * m')) 14) (2 + 3 * m) 14 V := fun V hV => rowV_cpy hV (by omega)
  generalize (D.cpyJ (30 + 2 * (2 + 3 * m)) (30 + 2 * (2 + 3 * m')) 14).cpyJ (31 + 2 * (2 + 3 * m)) (31 + 2 * (2 + 3 * m')) 14 = D5 at *
  refine it2_ex (fun j S1 v => v = nI j ∧ ∃ D1, Rep A E ls nl nc nd S1 D1 ∧ SamG (fun _ _ => False) (fun r => r = 63 + m) (fun r => r = 34 + 6 * m ∨ r = 35 + 6 * m ∨ r = 60 + m) D D1 ∧ (∀ V, RowV D (2 + 3 * m') 14 V → RowV D1 (2 + 3 * m) 14 V) ∧ (∀ i, i < j → D1.AJ (60 + m) i = D.AJ (60 + m') i) ∧ (∀ i, i < j → D1.AI (63 + m) i = D.AI (63 + m') i)) 16 ?_ ?_ ⟨rfl, D5, h5, sm, rv, fun i hi => absurd hi (Nat.not_lt_zero i), fun i hi => absurd hi (Nat.not_lt_zero i)⟩
  · rintro j hj S1 _ k9 ⟨rfl, D1, h1, s1, v1, q1, t1⟩ hk9
    obtain ⟨a1, a2, a3, a4, a5, a6, a7, a8, a9, a10⟩ := mot_ h1 hm
    obtain ⟨b1, b2, b3, b4, b5, b6, b7, b8, b9, b10⟩ := mot_ h1 hm'
    have cj : (nI j).toNatClampNeg = j := cl_nI (by omega)
    have vj : S1.AJ (A (60 + m')) j = D.AJ (60 + m') j := by
      rw [rep_AJ h1 j (mot_al hm').1, s1.2.2 _ (by omega)]
    unfold wX6_copyFrom_b13
    rw [cj]
    refine if_n (nI_ge (b := 16) hj (by decide)) ⟨a1, _, a5, b1, _, b5, b7, by rw [b9]; exact in_nI hj (by decide), a7, by rw [a9]; exact in_nI hj (by decide), fun S3 e3 => ?_⟩
    rw [vj] at e3
    have h3 := set_AJ h1 (r := 60 + m) j (D.AJ (60 + m') j) (mot_al hm).1
    rw [← e3] at h3
    obtain ⟨c1, c2, c3, c4, c5, c6, c7, c8, c9, c10⟩ := mot_ h3 hm
    obtain ⟨d1, d2, d3, d4, d5, d6, d7, d8, d9, d10⟩ := mot_ h3 hm'
    have vi : S3.AI (A (63 + m')) j = D.AI (63 + m') j := by
      rw [rep_AI h3 j (mot_al hm').2]
      show D1.AI (63 + m') j = _
      rw [s1.2.1 _ (by omega)]
    refine ⟨_, c6, _, d6, d8, by rw [d10]; exact in_nI hj (by decide), c8, by rw [c10]; exact in_nI hj (by decide), by rw [vi]; exact hnb j hj, fun S4 e4 => ?_⟩
    rw [vi] at e4
    have h4 := set_AI h3 (r := 63 + m) j (D.AI (63 + m') j) (mot_al hm).2
    rw [← e4] at h4
    rw [← nI_succ]
    refine hk9 _ _ ⟨rfl, _, h4, (s1.tr (samG_J (Or.inr (Or.inr rfl)))).tr (samG_I rfl), fun V hV => rowV_other (v1 V hV) ?_ ?_, fun i hi => ?_, fun i hi => ?_⟩
    · show (up2 D1.AJ (60 + m) j _) _ = _
      exact up2_row (by omega)
    · show (up2 D1.AJ (60 + m) j _) _ = _
      exact up2_row (by omega)
    · show (D1.setAJ (60 + m) j (D.AJ (60 + m') j)).AJ (60 + m) i = _
      by_cases c : i = j
      · rw [c, dtAJ_s]
      · rw [dtAJ_n (fun q => c q.2)]
        exact q1 i (by omega)
    · by_cases c : i = j
      · rw [c, dtAI_s]
      · rw [dtAI_n (fun q => c q.2)]
        exact t1 i (by omega)
  · rintro S1 _ k9 ⟨rfl, D1, h1, s1, v1, q1, t1⟩
    unfold wX6_copyFrom_b13
    exact if_p (nI_le (a := 16) (b := 16) (Nat.le_refl _) (by decide)) (kk S1 D1 h1 s1 v1 q1 t1)
end MC9
