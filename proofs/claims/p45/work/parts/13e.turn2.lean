/-! THE CLASS: a turning -/
def wayOf (y : Int32) : Int := if y.toInt < 0 then -1 else 1
section CT8
variable {A E : Nat → Nat} {ls : Nat → List Nat} {nl nc nd : Nat} {S : Hp} {D : Dt} {G : Nat → Nat → Nat}
theorem lkC_X {XI XJ : Nat → Prop} {D D' : Dt} (h : LkC G nl D) (s : SamX XI XJ D D') : LkC G nl D' := lkC_sam h s.1
/-- the steps of a turning -/
theorem p_turnLoop {Φ : Hp → Int32 → Prop} {Ψ : Hp → String → Prop} {ns n inp N : Nat} {y : Int32} {lv : Nat → Nat} {ol : List Nat} {act : Nat → Bool} {Ps tns : Nat → Nat → Rat} {mks : Nat → Nat → Int} {W : Nat → Rat} {pn : Nat → Nat → Nat → Bool} {ds : Nat → Nat} {V : Nat → Nat → Int32}
    (h : Rep A E ls nl nc nd S D) (hC : LkC G nl D) (hG : GrOK ns nl G) (hL : Lev nl G lv) (hO : OlOK G nl ol) (hls0 : ls 0 = (List.range nl).map (fun k => A (400 + k))) (hls1 : ls 1 = ol.map (fun k => A (400 + k))) (hls3 : ls 3 = (List.range nd).map (fun d => A (600 + 3 * d))) (hnd : nd = 0)
    (hP : RowV D 2 14 (Ps 0)) (hmk : ∀ k, k < nl → D.AJ 60 k = i6 (mks 0 k)) (hact : ∀ k, k < nl → D.AI 63 k = bI (act k)) (ha0 : ∀ k, nl ≤ k → act k = false) (hW : RowV D 1 16 W) (hV : ∀ d t, d < nd → t < 8 → D.AI (602 + 3 * d) t = V d t) (hds : ∀ d, d < nd → D.FI 128 (600 + 3 * d) = nI (ds d) ∧ ds d < ns) (hpn : MskM pn nd D)
    (hi : inp < ns) (hy : -48 ≤ y.toInt ∧ y.toInt ≤ 48) (hN : N = y.toInt.natAbs) (hs : Sq G nl act inp (wayOf y) N Ps tns mks) (hR : RI G nl act (Ps 0) (mks 0)) (hB : BdP G nl n (Ps 0)) (hM : MB nl (mks 0)) (hWB : BdW G nl n W) (hn : n + N ≤ 24560)
    (kk : ∀ S' D', Rep A E ls nl nc nd S' D' → SamX (fun r => ∃ d, d < nd ∧ r = 602 + 3 * d) (fun r => (32 ≤ r ∧ r < 40) ∨ r = 60) D D' → RowV D' 2 14 (Ps N) → (∀ k, k < nl → D'.AJ 60 k = i6 (mks N k)) → RowV D' 1 16 (Wsq G act tns W N) → (∀ d t, d < nd → t < 8 → D'.AI (602 + 3 * d) t = Vsq pn ds Ps tns V N d t) → isA S' (A 0) 7 ∧ wX7_breakWornLinks S' (A 0) (fun S2 => isA S2 (A 0) 7 ∧ wX7_countMoved S2 (A 0) (fun S4 r5 => Φ S4 r5))) : ∃ n, it2 (wX7_turn_b56 (A 0) (nI inp) y Φ Ψ) n S 0 := by
  have hw : (wayOf y).natAbs ≤ 1 := by
    unfold wayOf
    by_cases c : y.toInt < 0
    · rw [if_pos c]
      decide
    · rw [if_neg c]
      decide
  have h0y : 0 ≤ y ↔ 0 ≤ y.toInt := Int32.le_iff_toInt_le
  have eA : (if 0 ≤ y then y else 0 - y) = nI N := by
    apply Int32.toInt_inj.mp
    rw [nI_toInt (by omega)]
    by_cases c : 0 ≤ y
    · rw [if_pos c]
      have := h0y.mp c
      omega
    · have : ¬ 0 ≤ y.toInt := fun q => c (h0y.mpr q)
      rw [if_neg c, Int32.zero_sub, Int32.toInt_neg, Int.bmod_eq_of_le (by omega) (by omega)]
      omega
  have inv := sq_inv hG hL hw hs hR hB hM hWB hn
  have htb := sq_tb hG hL hw hs hR hB hM hWB hn
  refine it2_ex (fun j S1 v => v = nI j ∧ ∃ D1, Rep A E ls nl nc nd S1 D1 ∧ SamX (fun r => ∃ d, d < nd ∧ r = 602 + 3 * d) (fun r => (32 ≤ r ∧ r < 40) ∨ r = 60) D D1 ∧ RowV D1 2 14 (Ps j) ∧ (∀ k, k < nl → D1.AJ 60 k = i6 (mks j k)) ∧ RowV D1 1 16 (Wsq G act tns W j) ∧ (∀ d t, d < nd → t < 8 → D1.AI (602 + 3 * d) t = Vsq pn ds Ps tns V j d t)) N ?_ ?_ ⟨rfl, D, h, SamX.rf, hP, hmk, hW, hV⟩
  · rintro j hj S1 _ k9 ⟨rfl, D1, h1, s1, p1, q1, w1, v1⟩ hk9
    obtain ⟨a1, a2, a3, a4⟩ := inv j (Nat.le_of_lt hj)
    obtain ⟨b1, b2⟩ := hs j hj
    have tb := htb j hj
    have main : ∀ z3 : Int32, z3.toInt64 = i6 (wayOf y) → wX7_turn_b79 (A 0) (nI inp) y Φ Ψ k9 S1 (nI j) (A 0) (A 20) (nI inp) z3 := fun z3 hz => by
      unfold wX7_turn_b79
      refine ⟨c_is h1, p_takeStep (m := 0) (n := n + j) h1 (by decide) (lkC_X hC s1) hG hL hO hls1 p1 q1 (fun k hk _ => ?_) (fun k hk => by rw [s1.2.1 63 (fun ⟨_, q⟩ => by omega)]; exact hact k hk) hi hz hw b1 a1 (by omega) a2 (fun S2 D2 h2 s2 r3 r4 r2 m2 => ⟨c_is h2, ?_⟩)⟩
      · have := a3 k hk
        unfold Rg
        omega
      have s2' : SamX (fun r => ∃ d, d < nd ∧ r = 602 + 3 * d) (fun r => (32 ≤ r ∧ r < 40) ∨ r = 60) D1 D2 := s2.X.wk (fun r hr => hr) (fun r hr => by unfold XM at hr; omega)
      have w2 : RowV D2 1 16 (Wsq G act tns W j) := rowV_other w1 (s2.2.2.2 32 (by unfold XM; omega)) (s2.2.2.2 33 (by unfold XM; omega))
      refine p_countWear (n := n + j) h2 (lkC_X hC (s1.tr s2')) hG hL hls0 (fun k hk => by rw [(s1.tr s2').2.1 63 (fun ⟨_, q⟩ => by omega)]; exact hact k hk) ha0 w2 r4 (by omega) a4 tb (fun S3 D3 h3 s3 w3 => ⟨c_is h3, ?_⟩)
      have s3' : SamX (fun r => ∃ d, d < nd ∧ r = 602 + 3 * d) (fun r => (32 ≤ r ∧ r < 40) ∨ r = 60) D2 D3 := s3.X.wk (fun r hr => hr) (fun r hr => by omega)
      have s13 := (s1.tr s2').tr s3'
      have c3 : RowV D3 3 14 (Ps j) := rowV_other r3 (s3.2.2.2 36 (by decide)) (s3.2.2.2 37 (by decide))
      have c4 : RowV D3 4 14 (tns j) := rowV_other r4 (s3.2.2.2 38 (by decide)) (s3.2.2.2 39 (by decide))
      have c2 : RowV D3 2 14 (fun s => Ps j s + tns j s) := rowV_other r2 (s3.2.2.2 34 (by decide)) (s3.2.2.2 35 (by decide))
      refine p_strikePins (n := n + j) (ds := ds) (pn := pn) h3 hG hls3 hnd c3 c4 c2 (by omega) a2 tb (fun d hd => by rw [s13.1]; exact hds d hd) (fun d p t hd hp ht => ?_) (fun S4 D4 h4 s4 v4 => ?_)
      · rw [s13.2.1 _ (fun ⟨_, _, q⟩ => by omega)]
        exact hpn d p t hd hp ht
      · rw [← nI_succ]
        have s4' : SamX (fun r => ∃ d, d < nd ∧ r = 602 + 3 * d) (fun r => (32 ≤ r ∧ r < 40) ∨ r = 60) D3 D4 := s4.wk (fun r hr => hr) (fun r hr => hr.elim)
        refine hk9 _ _ ⟨rfl, D4, h4, s13.tr s4', ?_, fun k hk => ?_, ?_, fun d t hd ht => ?_⟩
        · rw [b2]
          exact rowV_other c2 (s4.2.2 34 (fun q => q)) (s4.2.2 35 (fun q => q))
        · rw [s4.2.2 60 (fun q => q), s3.2.2.2 60 (by decide)]
          exact m2 k hk
        · exact rowV_other w3 (s4.2.2 32 (fun q => q)) (s4.2.2 33 (fun q => q))
        · rw [v4 d t hd ht]
          refine hits_congr ?_
          rw [s3.2.2.1, s2.2.2.1]
          exact v1 d t hd ht
    unfold wX7_turn_b56
    rw [eA]
    refine if_n (nI_ge hj (by omega)) ⟨c_is h1, A 20, rep_fr h1 (458, 0, 20) (by decide), ?_⟩
    by_cases c : 0 ≤ y
    · refine if_p c (main 1 ?_)
      have := h0y.mp c
      have e : wayOf y = 1 := if_neg (by omega)
      rw [e]
      rfl
    · refine if_n c (main (-1) ?_)
      have : ¬ 0 ≤ y.toInt := fun q => c (h0y.mpr q)
      have e : wayOf y = -1 := if_pos (by omega)
      rw [e]
      rfl
  · rintro S1 _ k9 ⟨rfl, D1, h1, s1, p1, q1, w1, v1⟩
    unfold wX7_turn_b56
    rw [eA]
    exact if_p (nI_le (Nat.le_refl _) (by omega)) (kk S1 D1 h1 s1 p1 q1 w1 v1)
end CT8
