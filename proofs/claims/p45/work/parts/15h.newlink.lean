/-! THE CLASS: a link is made -/
theorem nc_kind {x : Nat} (h : x = 103 ∨ x = 105 ∨ x = 107 ∨ x = 112 ∨ x = 114 ∨ x = 118) : nc (nI x) := by
  unfold nc
  rcases h with h | h | h | h | h | h <;> subst h <;> exact ⟨by decide, by decide⟩
theorem kOK_kind {G : Nat → Nat → Nat} {k : Nat} (h : kOK G k) : G k 0 = 103 ∨ G k 0 = 105 ∨ G k 0 = 107 ∨ G k 0 = 112 ∨ G k 0 = 114 ∨ G k 0 = 118 := by
  unfold kOK at h
  omega
section NL9
variable {A E : Nat → Nat} {ls : Nat → List Nat} {nl nc nd : Nat} {S : Hp} {D : Dt} {G : Nat → Nat → Nat} {g : Nat → Nat}
theorem p_newLink {Φ : Hp → Int32 → Prop} {Ψ : Hp → String → Prop} {ns n q : Nat} {lv : Nat → Nat} {P : Nat → Rat} (h : Rep A E ls nl nc nd S D) (hq : q ∉ S.L) (hC : LkC G nl D) (hG : GrOK ns nl G) (hL : Lev nl G lv) (hk : kOK (gx G nl g) nl) (h1 : g 1 < ns) (h2 : g 0 = 112 → g 2 < ns) (h3 : g 3 < ns) (hns : D.FI 461 0 = nI ns) (hls : ls 0 = (List.range nl).map (fun k => A (400 + k))) (hdr : DrA G nl 14 5 D)
    (hP : RowV D 2 14 P) (hB : BdP G nl n P) (hn : n ≤ 24600)
    (kt : ∀ S' D' A', (∀ r, al nl nc nd r → A' r = A r) → Rep A' E ls nl nc nd S' D' → SamG (fun _ r => r = 400 + nl) (fun r => r = 6 ∨ r = 400 + nl) (fun r => r = 400 + nl) D D' → (drv G nl (g 3) ≠ none ∨ ¬ ∀ s, s < ns → dpF (gx G nl g) (nl + 1) 4 s ≤ 3) → Ψ S' "java/lang/UnsupportedOperationException")
    (kk : ∀ S' A' E' ls' D' ol, (∀ r, al nl nc nd r → A' r = A r) → Rep A' E' ls' (nl + 1) nc nd S' D' → drv G nl (g 3) = none → (∀ s, s < ns → dpF (gx G nl g) (nl + 1) 4 s ≤ 3) → GrOK ns (nl + 1) (gx G nl g) → Lev (nl + 1) (gx G nl g) (dp (gx G nl g) (nl + 1)) → SamG (fun _ r => r = 400 + nl) (fun r => r = 5 ∨ r = 6 ∨ r = 63 ∨ r = 400 + nl) (fun r => r = 60 ∨ r = 400 + nl) D D' → LkC (gx G nl g) (nl + 1) D' → D'.FI 327 (400 + nl) = 1 → D'.FI 328 (400 + nl) = 0 → D'.FI 329 (400 + nl) = 0 → D'.FI 330 (400 + nl) = 0 → DrA (gx G nl g) (nl + 1) 14 5 D' →
      (∀ i, D'.AI 63 i = if i = nl then 1 else D.AI 63 i) → (∀ i, D'.AJ 60 i = if i = nl then i6 (fl (g 4 : Nat) (P (g 1))) else D.AJ 60 i) → ls' 0 = (List.range (nl + 1)).map (fun k => A' (400 + k)) → ls' 1 = ol.map (fun k => A' (400 + k)) → OlOK (gx G nl g) (nl + 1) ol → (∀ i, i ≠ 0 → i ≠ 1 → ls' i = ls i) → Φ S' (nI nl)) :
    isA (S.new q 5 0) (A 0) 7 ∧ ∃ a12, (S.new q 5 0).FR 448 (A 0) = some a12 ∧ isA (S.new q 5 0) a12 9 ∧ wJx4a65c_size_8abf5 (S.new q 5 0) a12 (fun S13 r14 => wX5_init S13 q r14 (nI (g 0)) (nI (g 1)) (sec (gx G nl g) nl) (nI (g 3)) (nI (g 4)) (nI (g 5)) (fun S16 => isA S16 (A 0) 7 ∧ wX7_addLink S16 (A 0) q (fun S17 r18 => Φ S17 r18) Ψ)) := by
  have h14 := hG.1
  have hnl14 := hG.2.1
  have hoff := off_new h hq
  have hr := rep_new h 5 0 hq
  have hlen : (ls 0).length = nl := lnk_len hls
  refine ⟨c_is hr, A (1 + 0), rep_fr hr (448, 0, 1) (by decide), ls_is hr (by decide), p_size hr (j := 0) (by decide) ?_⟩
  rw [hlen]
  have q5 : isA (S.new q 5 0) q 5 := new_isA
  have qN : (S.new q 5 0).N q = 0 := if_pos rfl
  have z : ∀ i, (S.new q 5 0).FI i q = 0 := fun i => if_pos rfl
  unfold wX5_init wX5_init_b0
  refine ⟨q5, fun S2 e2 S3 e3 => ⟨nc_kind (by have := kOK_kind hk; rw [gx_s] at this; exact this), fun S5 e5 S6 e6 S7 e7 S8 e8 S9 e9 S10 e10 => ?_⟩⟩
  have hr2 := off_FI hr (i := 327) 1 hoff (by decide)
  rw [← e2] at hr2
  have hr3 := off_FI hr2 (i := 320) (nI nl) hoff (by decide)
  rw [← e3] at hr3
  have hr5 := off_FI hr3 (i := 321) (nI (g 0)) hoff (by decide)
  rw [← e5] at hr5
  have hr6 := off_FI hr5 (i := 322) (nI (g 1)) hoff (by decide)
  rw [← e6] at hr6
  have hr7 := off_FI hr6 (i := 323) (sec (gx G nl g) nl) hoff (by decide)
  rw [← e7] at hr7
  have hr8 := off_FI hr7 (i := 324) (nI (g 3)) hoff (by decide)
  rw [← e8] at hr8
  have hr9 := off_FI hr8 (i := 325) (nI (g 4)) hoff (by decide)
  rw [← e9] at hr9
  have hr10 := off_FI hr9 (i := 326) (nI (g 5)) hoff (by decide)
  rw [← e10] at hr10
  have t5 : isA S10 q 5 := by
    rw [e10, e9, e8, e7, e6, e5, e3, e2]
    exact q5
  have tN : S10.N q = 0 := by
    rw [e10, e9, e8, e7, e6, e5, e3, e2]
    exact qN
  have f : S10.FI 320 q = nI nl ∧ S10.FI 321 q = nI (g 0) ∧ S10.FI 322 q = nI (g 1) ∧ S10.FI 323 q = sec (gx G nl g) nl ∧ S10.FI 324 q = nI (g 3) ∧ S10.FI 325 q = nI (g 4) ∧ S10.FI 326 q = nI (g 5) := by
    rw [e10, e9, e8, e7, e6, e5, e3]
    refine ⟨?_, ?_, ?_, ?_, ?_, ?_, hpFI_s⟩
    · rw [hpFI_n (by omega), hpFI_n (by omega), hpFI_n (by omega), hpFI_n (by omega), hpFI_n (by omega), hpFI_n (by omega), hpFI_s]
    · rw [hpFI_n (by omega), hpFI_n (by omega), hpFI_n (by omega), hpFI_n (by omega), hpFI_n (by omega), hpFI_s]
    · rw [hpFI_n (by omega), hpFI_n (by omega), hpFI_n (by omega), hpFI_n (by omega), hpFI_s]
    · rw [hpFI_n (by omega), hpFI_n (by omega), hpFI_n (by omega), hpFI_s]
    · rw [hpFI_n (by omega), hpFI_n (by omega), hpFI_s]
    · rw [hpFI_n (by omega), hpFI_s]
  have f2 : S10.FI 327 q = 1 ∧ S10.FI 328 q = 0 ∧ S10.FI 329 q = 0 ∧ S10.FI 330 q = 0 := by
    rw [e10, e9, e8, e7, e6, e5, e3, e2]
    refine ⟨?_, ?_, ?_, ?_⟩
    · rw [hpFI_n (by omega), hpFI_n (by omega), hpFI_n (by omega), hpFI_n (by omega), hpFI_n (by omega), hpFI_n (by omega), hpFI_n (by omega), hpFI_s]
    · rw [hpFI_n (by omega), hpFI_n (by omega), hpFI_n (by omega), hpFI_n (by omega), hpFI_n (by omega), hpFI_n (by omega), hpFI_n (by omega), hpFI_n (by omega)]
      exact z _
    · rw [hpFI_n (by omega), hpFI_n (by omega), hpFI_n (by omega), hpFI_n (by omega), hpFI_n (by omega), hpFI_n (by omega), hpFI_n (by omega), hpFI_n (by omega)]
      exact z _
    · rw [hpFI_n (by omega), hpFI_n (by omega), hpFI_n (by omega), hpFI_n (by omega), hpFI_n (by omega), hpFI_n (by omega), hpFI_n (by omega), hpFI_n (by omega)]
      exact z _
  obtain ⟨A', a1, a2, a3⟩ := rep_addl hr10 (by omega) t5 tN hoff
  clear e2 e3 e5 e6 e7 e8 e9 e10 hr2 hr3 hr5 hr6 hr7 hr8 hr9
  obtain ⟨f320, f321, f322, f323, f324, f325, f326⟩ := f
  obtain ⟨g1, g2, g3, g4⟩ := f2
  have sP : SamG (fun _ r => r = 400 + nl) (fun r => r = 400 + nl) (fun r => r = 400 + nl) D (D.put (400 + nl) S10 q) := ⟨fun i r hr => put_FI hr, fun r hr => put_AI hr, fun r hr => put_AJr hr⟩
  have hC' : LkC (gx G nl g) (nl + 1) (D.put (400 + nl) S10 q) := by
    intro k hk'
    by_cases c : k = nl
    · subst c
      rw [gx_s, put_FIs, put_FIs, put_FIs, put_FIs, put_FIs, put_FIs, put_FIs]
      exact ⟨f320, f321, f322, f323, f324, f325, f326⟩
    · have hn : 400 + k ≠ 400 + nl := by omega
      have hk2 : k < nl := by omega
      have := hC k hk2
      unfold sec at this ⊢
      rw [gx_n hk2, put_FI hn, put_FI hn, put_FI hn, put_FI hn, put_FI hn, put_FI hn, put_FI hn]
      exact this
  have v0 : A' 0 = A 0 := a1 0 c_al
  have mapc : ∀ m, m ≤ nl → (List.range m).map (fun k => A' (400 + k)) = (List.range m).map (fun k => A (400 + k)) := fun m hm => by
    refine List.map_congr_left (fun k hk => a1 _ (al_l ?_))
    have := List.mem_range.mp hk
    omega
  have p327 : (D.put (400 + nl) S10 q).FI 327 (400 + nl) = 1 := put_FIs.trans g1
  have p328 : (D.put (400 + nl) S10 q).FI 328 (400 + nl) = 0 := put_FIs.trans g2
  have p329 : (D.put (400 + nl) S10 q).FI 329 (400 + nl) = 0 := put_FIs.trans g3
  have p330 : (D.put (400 + nl) S10 q).FI 330 (400 + nl) = 0 := put_FIs.trans g4
  generalize D.put (400 + nl) S10 q = D1 at *
  refine ⟨c_is hr10, ?_⟩
  rw [← v0, ← a2]
  refine p_addLink (n := n) a3 hG hL hk h1 h2 h3 hC' ((sP.1 461 0 (by omega)).trans hns) (by rw [mapc nl (Nat.le_refl _)]; exact hls) (fun s hs => by rw [sP.2.1 5 (by omega)]; exact hdr s hs) p327 p328 (rowV_other hP (sP.2.2 34 (by omega)) (sP.2.2 35 (by omega))) hB hn (fun S' D' r' s' no => ?_) (fun S' E' ls' D' ol r' e' fit' hG' hL' s' dr' t63 t60 l0 l1 ok lo => ?_)
  · refine kt S' D' A' a1 (rep_down r' (Nat.le_succ _) (Nat.le_refl _) (Nat.le_refl _)) ((sP.wk (fun _ _ q => q) (fun r q => Or.inr q) (fun r q => q)).tr (s'.wk (fun _ _ q => q.elim) (fun r q => Or.inl q) (fun r q => q.elim))) no
  · refine kk S' A' E' ls' D' ol a1 r' e' fit' hG' hL' ((sP.wk (fun _ _ q => q) (fun r q => by omega) (fun r q => Or.inr q)).tr (s'.wk (fun _ _ q => q.elim) (fun r q => by omega) (fun r q => Or.inl q))) (lkC_cg hC' (fun i r _ _ => s'.1 i r (fun q => q))) ((s'.1 _ _ (fun q => q)).trans p327) ((s'.1 _ _ (fun q => q)).trans p328) ((s'.1 _ _ (fun q => q)).trans p329) ((s'.1 _ _ (fun q => q)).trans p330) dr' (fun i => ?_) (fun i => ?_) l0 l1 ok lo
    · rw [t63 i, sP.2.1 63 (by omega)]
    · rw [t60 i, sP.2.2 60 (by omega)]
end NL9
