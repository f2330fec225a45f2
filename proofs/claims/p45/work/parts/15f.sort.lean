/-! THE CLASS: the links in the order of levels -/
def OlP (G : Nat → Nat → Nat) (nl : Nat) (ol : List Nat) : Prop := ∀ (j k : Nat), ol[j]? = some k → k < nl ∧ k ∉ ol.take j ∧ ∀ k', k' < nl → src G k (G k' 3) → k' ∈ ol.take j
theorem olP_nil {G : Nat → Nat → Nat} {nl : Nat} : OlP G nl [] := fun j k h => by
  rw [List.getElem?_nil] at h
  exact absurd h (by intro q; cases q)
theorem olP_snoc {G : Nat → Nat → Nat} {nl k : Nat} {ol : List Nat} (h : OlP G nl ol) (hk : k < nl) (hn : k ∉ ol) (hs : ∀ k', k' < nl → src G k (G k' 3) → k' ∈ ol) : OlP G nl (ol ++ [k]) := by
  intro j x hx
  by_cases c : j < ol.length
  · rw [List.getElem?_append_left c] at hx
    rw [List.take_append_of_le_length (by omega)]
    exact h j x hx
  · have hj : j = ol.length := by
      obtain ⟨h1, _⟩ := List.getElem?_eq_some_iff.mp hx
      rw [List.length_append, List.length_singleton] at h1
      omega
    subst hj
    rw [List.getElem?_append_right (Nat.le_refl _), Nat.sub_self] at hx
    have e : k = x := by
      simpa using hx
    subst e
    rw [List.take_append_of_le_length (Nat.le_refl _), List.take_length]
    exact ⟨hk, hn, hs⟩
theorem olP_len {G : Nat → Nat → Nat} {nl : Nat} {ol : List Nat} (h : OlP G nl ol) : ol.length ≤ nl := by
  refine php nl ol.length (fun j => ol.getD j 0) (fun j hj => ?_) (fun j j' hj hj' e => ?_)
  · have e : ol[j]? = some (ol.getD j 0) := by
      rw [List.getD_eq_getElem?_getD, List.getElem?_eq_getElem hj]
      rfl
    exact (h j _ e).1
  · have e1 : ol[j]? = some (ol.getD j 0) := by
      rw [List.getD_eq_getElem?_getD, List.getElem?_eq_getElem hj]
      rfl
    have e2 : ol[j']? = some (ol.getD j' 0) := by
      rw [List.getD_eq_getElem?_getD, List.getElem?_eq_getElem hj']
      rfl
    rw [e] at e1
    rcases Nat.lt_trichotomy j j' with q | q | q
    · refine absurd ?_ (h j' _ e2).2.1
      exact List.mem_of_getElem? (i := j) (by rw [List.getElem?_take_of_lt q]; exact e1)
    · exact q
    · refine absurd ?_ (h j _ e1).2.1
      exact List.mem_of_getElem? (i := j') (by rw [List.getElem?_take_of_lt q]; exact e2)
section SO9
variable {A E : Nat → Nat} {ls : Nat → List Nat} {nl nc nd : Nat} {S : Hp} {D : Dt} {G : Nat → Nat → Nat}
theorem p_sortLinks {Φ : Hp → Prop} {ns : Nat} {lv : Nat → Nat} (h : Rep A E ls nl nc nd S D) (hC : LkC G nl D) (hG : GrOK ns nl G) (hL : Lev nl G lv) (hls : ls 0 = (List.range nl).map (fun k => A (400 + k))) (hv : ∀ s, s < 14 → D.AI 6 s = nI (lv s))
    (kk : ∀ S' E' ls' ol, Rep A E' ls' nl nc nd S' D → (∀ i, i ≠ 1 → ls' i = ls i) → ls' 1 = ol.map (fun k => A (400 + k)) → OlOK G nl ol → Φ S') : wX7_sortLinks S (A 0) Φ := by
  have h14 := hG.1
  have hnl14 := hG.2.1
  have lv1 : ∀ k, k < nl → 1 ≤ lv (G k 3) := fun k hk => by
    have := hL.1 k (G k 1) hk (Or.inl rfl)
    omega
  unfold wX7_sortLinks wX7_sortLinks_b0
  refine ⟨c_is h, A (1 + 1), rep_fr h (449, 0, 2) (by decide), ls_is h (by decide), p_lsclear h (j := 1) (by decide) (fun S1 h1 => ?_)⟩
  refine it2_up (fun l S2 v => v = nI (l + 1) ∧ ∃ E2 ls2 ol, Rep A E2 ls2 nl nc nd S2 D ∧ (∀ i, i ≠ 1 → ls2 i = ls i) ∧ ls2 1 = ol.map (fun k => A (400 + k)) ∧ OlP G nl ol ∧ ∀ k, k ∈ ol ↔ k < nl ∧ lv (G k 3) ≤ l) 3 ?_ ?_ ⟨rfl, E, _, [], h1, fun i hi => if_neg hi, rfl, olP_nil, fun k => ⟨fun q => absurd q (List.not_mem_nil), fun q => by have := lv1 k q.1; omega⟩⟩ (by decide)
  · rintro l hl S2 _ k9 ⟨rfl, E2, ls2, ol2, h2, o2, l2, p2, m2⟩ hk9
    unfold wX7_sortLinks_b9
    refine if_n (nI_nlt (a := 3) (b := l + 1) (by omega) (by decide)) ?_
    refine it3_up (fun j S3 a v => a = nI (l + 1) ∧ v = nI j ∧ ∃ E3 ls3 ol, Rep A E3 ls3 nl nc nd S3 D ∧ (∀ i, i ≠ 1 → ls3 i = ls i) ∧ ls3 1 = ol.map (fun k => A (400 + k)) ∧ OlP G nl ol ∧ ∀ k, k ∈ ol ↔ k < nl ∧ (lv (G k 3) ≤ l ∨ (lv (G k 3) = l + 1 ∧ k < j))) nl ?_ ?_ ⟨rfl, rfl, E2, ls2, ol2, h2, o2, l2, p2, fun k => by rw [m2 k]; constructor <;> intro q <;> (refine ⟨q.1, ?_⟩; have := q.2; omega)⟩ (by omega)
    · rintro j hj S3 _ _ k8 ⟨rfl, rfl, E3, ls3, ol, h3, o3, l3, p3, m3⟩ hk8
      obtain ⟨hkk, hf, hs, ht⟩ := hG.2.2.1 j hj
      have lk := lkS_of h3 hC hj (by omega)
      have hls3 : ls3 0 = (List.range nl).map (fun k => A (400 + k)) := by rw [o3 0 (by decide)]; exact hls
      have a6 : isA S3 (A 6) 21 := rep_is h3 (al_s (by decide)) (by decide)
      have n6 : S3.N (A 6) = 14 := rep_N h3 (al_s (by decide)) (by decide)
      have v6 : S3.AI (A 6) (nI (G j 3)).toNatClampNeg = nI (lv (G j 3)) := rd_I h3 (al_s (by decide)) (by omega) (hv _ (by omega))
      have lv3 := hL.2 (G j 3)
      unfold wX7_sortLinks_b16
      refine ⟨c_is h3, A (1 + 0), rep_fr h3 (448, 0, 1) (by decide), ls_is h3 (by decide), p_size h3 (j := 0) (by decide) (if_n ?_ ⟨c_is h3, A (1 + 0), rep_fr h3 (448, 0, 1) (by decide), ls_is h3 (by decide), p_get (x := A (400 + j)) h3 (j := 0) (by decide) (lnk_get hls3 hj) ⟨A (400 + j), rfl, lk.1, c_is h3, A 6, rep_fr h3 (453, 0, 6) (by decide), a6, by rw [lk.2.2.2.2.2.1, n6]; exact in_nI (by omega) (by decide), ?_⟩⟩)⟩
      · rw [lnk_len hls3]
        exact nI_ge hj (by omega)
      rw [lk.2.2.2.2.2.1, v6]
      by_cases c : lv (G j 3) = l + 1
      · refine fi_p (by rw [c]) ⟨A (1 + 1), rep_fr h3 (449, 0, 2) (by decide), ls_is h3 (by decide), ?_⟩
        have hlen : (ls3 1).length ≤ 14 := by
          rw [l3, List.length_map]
          have := olP_len p3
          omega
        refine p_lsadd h3 (j := 1) (by decide) hlen (Or.inr (Or.inr lk.1)) (fun S4 E4 h4 _ => ?_)
        unfold wX7_sortLinks_b61
        rw [← nI_succ]
        have hnj : j ∉ ol := fun q => by
          have := (m3 j).mp q
          omega
        refine hk8 _ _ _ ⟨rfl, rfl, E4, _, ol ++ [j], h4, fun i hi => (if_neg hi).trans (o3 i hi), ?_, olP_snoc p3 hj hnj (fun k' hk' hs' => ?_), fun k => ?_⟩
        · show ls3 1 ++ [A (400 + j)] = _
          rw [l3, List.map_append, List.map_singleton]
        · have := hL.1 j (G k' 3) hj hs'
          exact (m3 k').mpr ⟨hk', Or.inl (by omega)⟩
        · rw [List.mem_append, List.mem_singleton, m3 k]
          constructor
          · rintro (q | q)
            · refine ⟨q.1, ?_⟩
              have := q.2
              omega
            · subst q
              exact ⟨hj, Or.inr ⟨c, by omega⟩⟩
          · rintro ⟨q1, q2⟩
            by_cases e : k = j
            · exact Or.inr e
            · refine Or.inl ⟨q1, ?_⟩
              omega
      · refine fi_n (fun q => c ((nI_iff (by omega) (by omega)).mp q)) ?_
        unfold wX7_sortLinks_b61
        rw [← nI_succ]
        refine hk8 _ _ _ ⟨rfl, rfl, E3, ls3, ol, h3, o3, l3, p3, fun k => ?_⟩
        rw [m3 k]
        constructor
        · intro q
          refine ⟨q.1, ?_⟩
          have := q.2
          omega
        · intro q
          refine ⟨q.1, ?_⟩
          have := q.2
          by_cases e : k = j
          · subst e
            omega
          · omega
    · rintro S3 _ _ k8 ⟨rfl, rfl, E3, ls3, ol, h3, o3, l3, p3, m3⟩
      have hls3 : ls3 0 = (List.range nl).map (fun k => A (400 + k)) := by rw [o3 0 (by decide)]; exact hls
      unfold wX7_sortLinks_b16
      refine ⟨c_is h3, A (1 + 0), rep_fr h3 (448, 0, 1) (by decide), ls_is h3 (by decide), p_size h3 (j := 0) (by decide) (if_p ?_ ?_)⟩
      · rw [lnk_len hls3]
        exact nI_le (Nat.le_refl _) (by omega)
      · rw [← nI_succ]
        refine hk9 _ _ ⟨rfl, E3, ls3, ol, h3, o3, l3, p3, fun k => ?_⟩
        rw [m3 k]
        constructor
        · intro q
          refine ⟨q.1, ?_⟩
          have := q.2
          omega
        · intro q
          refine ⟨q.1, ?_⟩
          have := q.2
          omega
  · rintro S2 _ k9 ⟨rfl, E2, ls2, ol2, h2, o2, l2, p2, m2⟩
    unfold wX7_sortLinks_b9
    refine if_p (nI_lt (a := 3) (b := 4) (by decide) (by decide)) (kk S2 E2 ls2 ol2 h2 o2 l2 ⟨?_, fun k hk => (m2 k).mpr ⟨hk, hL.2 _⟩, p2⟩)
    have := olP_len p2
    omega
end SO9
