/-! THE CLASS: the pins of drums -/
def MskM (pn : Nat → Nat → Nat → Bool) (nd : Nat) (D : Dt) : Prop := ∀ d p t, d < nd → p < 24 → t < 8 → ((D.AI (601 + 3 * d) p &&& (1 <<< (nI t &&& 31))) = 0 ↔ pn d p t = false)
section CP9
variable {A E : Nat → Nat} {ls : Nat → List Nat} {nl nc nd : Nat} {S : Hp} {D : Dt} {G : Nat → Nat → Nat}
/-! how far a shaft goes in one step: at most some 870 parts -/
def Rnn : Nat → Nat
  | 0 => 1
  | n + 1 => 5 * Rnn n + 24
theorem rnn_pos (n : Nat) : 0 < Rnn n := by
  cases n with
  | zero => decide
  | succ n => show 0 < 5 * Rnn n + 24; omega
theorem cmb_ra {G : Nat → Nat → Nat} {k B : Nat} {x y : Nat × Nat} (hk : kOK G k) (h1 : x.2 ≤ B * x.1) (h2 : y.2 ≤ B * y.1) : (cmb G k x y).2 ≤ (5 * B + 24) * (cmb G k x y).1 := by
  have ex : ∀ P : Nat, (5 * B + 24) * P = 5 * (B * P) + 24 * P := fun P => by rw [Nat.add_mul, Nat.mul_assoc]
  unfold cmb
  split
  · have h5 : G k 4 ≤ 5 * G k 5 := by
      unfold kOK at hk
      omega
    have e2 : G k 4 * x.2 ≤ 5 * G k 5 * (B * x.1) := Nat.mul_le_mul h5 h1
    have e3 : 5 * G k 5 * (B * x.1) = 5 * (B * (x.1 * G k 5)) := by ac_rfl
    dsimp only
    rw [ex]
    exact Nat.max_le.mpr ⟨by omega, by omega⟩
  · split
    · dsimp only
      rw [ex]
      exact Nat.max_le.mpr ⟨by omega, by omega⟩
    · split
      · have h5 : 0 < G k 4 := by
          unfold kOK at hk
          omega
        have e1 : x.1 ≤ x.1 * G k 4 := Nat.le_mul_of_pos_right _ h5
        have e2 : B * x.1 ≤ B * (x.1 * G k 4) := Nat.mul_le_mul_left _ e1
        dsimp only
        rw [ex]
        exact Nat.max_le.mpr ⟨by omega, by omega⟩
      · split
        · have h5 : 0 < G k 4 := by
            unfold kOK at hk
            omega
          have e1 : x.1 ≤ x.1 * G k 4 := Nat.le_mul_of_pos_right _ h5
          have e2 : G k 4 * x.2 ≤ G k 4 * (B * x.1) := Nat.mul_le_mul_left _ h1
          have e3 : G k 4 * (B * x.1) = B * (x.1 * G k 4) := by ac_rfl
          dsimp only
          rw [ex]
          exact Nat.max_le.mpr ⟨by omega, by omega⟩
        · have e2 : G k 4 * x.2 * y.1 ≤ G k 4 * (B * x.1) * y.1 := Nat.mul_le_mul_right _ (Nat.mul_le_mul_left _ h1)
          have e3 : G k 5 * y.2 * x.1 ≤ G k 5 * (B * y.1) * x.1 := Nat.mul_le_mul_right _ (Nat.mul_le_mul_left _ h2)
          have e4 : G k 4 * (B * x.1) * y.1 = B * (x.1 * y.1 * G k 4) := by ac_rfl
          have e5 : G k 5 * (B * y.1) * x.1 = B * (x.1 * y.1 * G k 5) := by ac_rfl
          have e6 : B * (x.1 * y.1 * (G k 4 + G k 5)) = B * (x.1 * y.1 * G k 4) + B * (x.1 * y.1 * G k 5) := by rw [Nat.mul_add, Nat.mul_add]
          dsimp only
          rw [ex]
          exact Nat.max_le.mpr ⟨by omega, by omega⟩
theorem dQ_ra {ns nl : Nat} {G : Nat → Nat → Nat} (hG : GrOK ns nl G) : ∀ n s, (dQ G nl n s).2 ≤ Rnn n * (dQ G nl n s).1 := by
  intro n
  induction n with
  | zero => intro s; exact Nat.le_refl 1
  | succ n ih =>
    intro s
    rw [show dQ G nl (n + 1) s = (match drv G nl s with | none => (1, 1) | some k => cmb G k (dQ G nl n (G k 1)) (dQ G nl n (G k 2))) from rfl]
    cases h : drv G nl s with
    | none =>
      have hp := rnn_pos (n + 1)
      show 1 ≤ Rnn (n + 1) * 1
      omega
    | some k => exact cmb_ra (hG.2.2.1 k (drv_some h).1).1 (ih _) (ih _)
theorem tn_far {ns nl : Nat} {G : Nat → Nat → Nat} (hG : GrOK ns nl G) {s : Nat} {q t : Rat} (h : Bd (pm G nl s) (qm G nl s) t) : (fl 24 (q + t) - fl 24 q).natAbs ≤ 100000 := by
  have h1 := fl_diff (a := 24) (q := q) h
  have h2 := dQ_ra hG 3 s
  have h3 := (dQ_pos hG 3 s).1
  have h4 : Rnn 3 = 869 := by decide
  rw [h4] at h2
  unfold pm qm at h1
  generalize (dQ G nl 3 s).1 = x at *
  generalize (dQ G nl 3 s).2 = y at *
  have h5 : (fl 24 (q + t) - fl 24 q).natAbs * (24 * x) ≤ 870 * (24 * x) := by
    have h6 : (fl ((24 : Nat) : Int) (q + t) - fl ((24 : Nat) : Int) q).natAbs * (24 * x) ≤ 24 * y + 24 * x := h1
    refine Nat.le_trans h6 ?_
    omega
  have h7 := Nat.le_of_mul_le_mul_right h5 (by omega)
  omega
/-- how far a place times 24 can be -/
theorem fl_lim {M B : Nat} {q : Rat} (b : Bq M B q) (hM0 : 0 < M) (hB : B ≤ 100000000000000000) : (fl 24 q).natAbs ≤ 2400000000000000000 := by
  unfold fl
  have h1 := Int.natAbs_ediv_le_natAbs ((24 : Int) * q.num) (q.den : Int)
  have h2 : ((24 : Int) * q.num).natAbs = 24 * q.num.natAbs := Int.natAbs_mul _ _
  obtain ⟨w0, w1, w2, w3⟩ := b
  have w4 : 0 < w1 := Nat.pos_of_ne_zero (fun e => by rw [e, Nat.mul_zero] at w2; omega)
  have w5 : q.num.natAbs ≤ q.num.natAbs * w1 := Nat.le_mul_of_pos_right _ w4
  omega
theorem p_strikePins {Φ : Hp → Prop} {ns n : Nat} {P tn : Nat → Rat} {pn : Nat → Nat → Nat → Bool} {ds : Nat → Nat} (h : Rep A E ls nl nc nd S D) (hG : GrOK ns nl G) (hls : ls 3 = (List.range nd).map (fun d => A (600 + 3 * d))) (hnd : nd = 0) (hB3 : RowV D 3 14 P) (hT : RowV D 4 14 tn) (hP : RowV D 2 14 (fun s => P s + tn s)) (hn : n ≤ 24560) (hB : BdP G nl n P) (htb : ∀ s, Bd (pm G nl s) (qm G nl s) (tn s))
    (hds : ∀ d, d < nd → D.FI 128 (600 + 3 * d) = nI (ds d) ∧ ds d < ns) (hpn : MskM pn nd D)
    (kk : ∀ S' D', Rep A E ls nl nc nd S' D' → SamX (fun r => ∃ d, d < nd ∧ r = 602 + 3 * d) (fun _ => False) D D' → (∀ d t, d < nd → t < 8 → D'.AI (602 + 3 * d) t = hits (pn d) (fl 24 (P (ds d))) (fl 24 (P (ds d) + tn (ds d))) (fun t => D.AI (602 + 3 * d) t) t) → Φ S') : wX7_strikePins S (A 0) Φ := by
  have hlen : (ls 3).length = 0 := by rw [hls, List.length_map, List.length_range, hnd]
  unfold wX7_strikePins wX7_strikePins_b0
  refine ⟨1, ?_⟩
  show wX7_strikePins_b2 (A 0) Φ (it2 (wX7_strikePins_b2 (A 0) Φ) 0) S 0
  unfold wX7_strikePins_b2
  refine ⟨c_is h, A (1 + 3), rep_fr h (451, 0, 4) (by decide), ls_is h (by decide), p_size h (j := 3) (by decide) (if_p ?_ (kk S D h SamX.rf (fun d t hd _ => absurd hd (by omega))))⟩
  rw [hlen]
  decide
end CP9
