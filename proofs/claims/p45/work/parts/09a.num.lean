/-! LOOPS, INTEGERS, FRACTIONS: nothing of the heap -/
theorem it2_up {A B : Type} {F9 : (A → B → Prop) → A → B → Prop} (I : Nat → A → B → Prop) (m : Nat)
    (hs : ∀ j, j < m → ∀ a b (k : A → B → Prop), I j a b → (∀ a' b', I (j + 1) a' b' → k a' b') → F9 k a b)
    (he : ∀ a b k, I m a b → F9 k a b) {a : A} {b : B} (h0 : I 0 a b) {n : Nat} (hn : m < n) : it2 F9 n a b := by
  have g : ∀ d9 j, j + d9 = m → ∀ n, d9 < n → ∀ a b, I j a b → it2 F9 n a b := by
    intro d9
    induction d9 with
    | zero =>
      intro j hj n hn a b h
      obtain ⟨n, rfl⟩ : ∃ n', n = n' + 1 := ⟨n - 1, by omega⟩
      have e9 : j = m := by omega
      rw [e9] at h
      show F9 (it2 F9 n) a b
      exact he a b _ h
    | succ d9 ih =>
      intro j hj n hn a b h
      obtain ⟨n, rfl⟩ : ∃ n', n = n' + 1 := ⟨n - 1, by omega⟩
      show F9 (it2 F9 n) a b
      exact hs j (by omega) a b _ h (fun a' b' h' => ih (j + 1) (by omega) n (by omega) a' b' h')
  exact g m 0 (by omega) n hn a b h0
theorem it2_ex {A B : Type} {F9 : (A → B → Prop) → A → B → Prop} (I : Nat → A → B → Prop) (m : Nat)
    (hs : ∀ j, j < m → ∀ a b (k : A → B → Prop), I j a b → (∀ a' b', I (j + 1) a' b' → k a' b') → F9 k a b)
    (he : ∀ a b k, I m a b → F9 k a b) {a : A} {b : B} (h0 : I 0 a b) : ∃ n, it2 F9 n a b := ⟨m + 1, it2_up I m hs he h0 (Nat.lt_succ_self m)⟩
theorem it3_up {A B C : Type} {F9 : (A → B → C → Prop) → A → B → C → Prop} (I : Nat → A → B → C → Prop) (m : Nat)
    (hs : ∀ j, j < m → ∀ a b c (k : A → B → C → Prop), I j a b c → (∀ a' b' c', I (j + 1) a' b' c' → k a' b' c') → F9 k a b c)
    (he : ∀ a b c k, I m a b c → F9 k a b c) {a : A} {b : B} {c : C} (h0 : I 0 a b c) {n : Nat} (hn : m < n) : it3 F9 n a b c := by
  have g : ∀ d9 j, j + d9 = m → ∀ n, d9 < n → ∀ a b c, I j a b c → it3 F9 n a b c := by
    intro d9
    induction d9 with
    | zero =>
      intro j hj n hn a b c h
      obtain ⟨n, rfl⟩ : ∃ n', n = n' + 1 := ⟨n - 1, by omega⟩
      have e9 : j = m := by omega
      rw [e9] at h
      show F9 (it3 F9 n) a b c
      exact he a b c _ h
    | succ d9 ih =>
      intro j hj n hn a b c h
      obtain ⟨n, rfl⟩ : ∃ n', n = n' + 1 := ⟨n - 1, by omega⟩
      show F9 (it3 F9 n) a b c
      exact hs j (by omega) a b c _ h (fun a' b' c' h' => ih (j + 1) (by omega) n (by omega) a' b' c' h')
  exact g m 0 (by omega) n hn a b c h0
theorem it3_ex {A B C : Type} {F9 : (A → B → C → Prop) → A → B → C → Prop} (I : Nat → A → B → C → Prop) (m : Nat)
    (hs : ∀ j, j < m → ∀ a b c (k : A → B → C → Prop), I j a b c → (∀ a' b' c', I (j + 1) a' b' c' → k a' b' c') → F9 k a b c)
    (he : ∀ a b c k, I m a b c → F9 k a b c) {a : A} {b : B} {c : C} (h0 : I 0 a b c) : ∃ n, it3 F9 n a b c := ⟨m + 1, it3_up I m hs he h0 (Nat.lt_succ_self m)⟩
theorem it4_up {A B C D : Type} {F9 : (A → B → C → D → Prop) → A → B → C → D → Prop} (I : Nat → A → B → C → D → Prop) (m : Nat)
    (hs : ∀ j, j < m → ∀ a b c d (k : A → B → C → D → Prop), I j a b c d → (∀ a' b' c' d', I (j + 1) a' b' c' d' → k a' b' c' d') → F9 k a b c d)
    (he : ∀ a b c d k, I m a b c d → F9 k a b c d) {a : A} {b : B} {c : C} {d : D} (h0 : I 0 a b c d) {n : Nat} (hn : m < n) : it4 F9 n a b c d := by
  have g : ∀ d9 j, j + d9 = m → ∀ n, d9 < n → ∀ a b c d, I j a b c d → it4 F9 n a b c d := by
    intro d9
    induction d9 with
    | zero =>
      intro j hj n hn a b c d h
      obtain ⟨n, rfl⟩ : ∃ n', n = n' + 1 := ⟨n - 1, by omega⟩
      have e9 : j = m := by omega
      rw [e9] at h
      show F9 (it4 F9 n) a b c d
      exact he a b c d _ h
    | succ d9 ih =>
      intro j hj n hn a b c d h
      obtain ⟨n, rfl⟩ : ∃ n', n = n' + 1 := ⟨n - 1, by omega⟩
      show F9 (it4 F9 n) a b c d
      exact hs j (by omega) a b c d _ h (fun a' b' c' d' h' => ih (j + 1) (by omega) n (by omega) a' b' c' d' h')
  exact g m 0 (by omega) n hn a b c d h0
theorem it4_ex {A B C D : Type} {F9 : (A → B → C → D → Prop) → A → B → C → D → Prop} (I : Nat → A → B → C → D → Prop) (m : Nat)
    (hs : ∀ j, j < m → ∀ a b c d (k : A → B → C → D → Prop), I j a b c d → (∀ a' b' c' d', I (j + 1) a' b' c' d' → k a' b' c' d') → F9 k a b c d)
    (he : ∀ a b c d k, I m a b c d → F9 k a b c d) {a : A} {b : B} {c : C} {d : D} (h0 : I 0 a b c d) : ∃ n, it4 F9 n a b c d := ⟨m + 1, it4_up I m hs he h0 (Nat.lt_succ_self m)⟩
theorem if_p {p a b : Prop} (h : p) (x : a) : (p → a) ∧ (¬ p → b) := ⟨fun _ => x, fun n => absurd h n⟩
theorem if_n {p a b : Prop} (h : ¬ p) (x : b) : (p → a) ∧ (¬ p → b) := ⟨fun q => absurd q h, fun _ => x⟩
theorem fi_p {p a b : Prop} (h : p) (x : b) : (¬ p → a) ∧ (p → b) := ⟨fun n => absurd h n, fun _ => x⟩
theorem fi_n {p a b : Prop} (h : ¬ p) (x : a) : (¬ p → a) ∧ (p → b) := ⟨fun _ => x, fun q => absurd q h⟩
def i6 (z : Int) : Int64 := Int64.ofInt z
def Rg (z : Int) : Prop := -9223372036854775808 < z ∧ z < 9223372036854775808
theorem i6_to (x : Int64) : i6 x.toInt = x := Int64.ofInt_toInt x
theorem i6_add (a b : Int) : i6 a + i6 b = i6 (a + b) := (Int64.ofInt_add a b).symm
theorem i6_sub (a b : Int) : i6 a - i6 b = i6 (a - b) := (Int64.ofInt_sub a b).symm
theorem i6_mul (a b : Int) : i6 a * i6 b = i6 (a * b) := (Int64.ofInt_mul a b).symm
theorem i6_neg (a : Int) : -i6 a = i6 (-a) := (Int64.ofInt_neg a).symm
theorem i6_0 : (0 : Int64) = i6 0 := rfl
theorem i6_1 : (1 : Int64) = i6 1 := rfl
theorem i6_32 (x : Int32) : x.toInt64 = i6 x.toInt := (Int64.ofInt_int32ToInt x).symm
theorem rg_abs {z w : Int} (h : z.natAbs ≤ w.natAbs) (hw : Rg w) : Rg z := by
  unfold Rg at *
  omega
theorem to_i6 {z : Int} (h : Rg z) : (i6 z).toInt = z := Int64.toInt_ofInt_of_le (by have := h.1; omega) (by have := h.2; omega)
theorem i6_inj {a b : Int} (ha : Rg a) (hb : Rg b) (h : i6 a = i6 b) : a = b := by
  rw [← to_i6 ha, ← to_i6 hb, h]
theorem i6_tdiv {a b : Int} (ha : Rg a) (hb : Rg b) : i6 a / i6 b = i6 (a.tdiv b) := by
  unfold Rg at ha hb
  refine (Int64.ofInt_tdiv ?_ ?_ ?_ ?_).symm
  · rw [Int64.toInt_minValue]; omega
  · rw [Int64.toInt_maxValue]; omega
  · rw [Int64.toInt_minValue]; omega
  · rw [Int64.toInt_maxValue]; omega
theorem i6_div {a b : Int} (ha : Rg a) (hb : Rg b) (hd : b ∣ a) : i6 a / i6 b = i6 (a / b) := by
  rw [i6_tdiv ha hb, Int.tdiv_eq_ediv_of_dvd hd]
theorem i6_divp {a b : Int} (ha : Rg a) (hb : Rg b) (h0 : 0 ≤ a) : i6 a / i6 b = i6 (a / b) := by
  rw [i6_tdiv ha hb, Int.tdiv_eq_ediv_of_nonneg h0]
theorem cmp_le {a b : Int} (ha : Rg a) (hb : Rg b) : lg_cmp (i6 a) (i6 b) ≤ 0 ↔ a ≤ b := by
  rw [lg_cmp_le, Int64.le_iff_toInt_le, to_i6 ha, to_i6 hb]
theorem cmp_gt {a b : Int} (ha : Rg a) (hb : Rg b) : 0 < lg_cmp (i6 a) (i6 b) ↔ b < a := by
  rw [lg_cmp_gt, Int64.lt_iff_toInt_lt, to_i6 ha, to_i6 hb]
theorem cmp_ge {a b : Int} (ha : Rg a) (hb : Rg b) : 0 ≤ lg_cmp (i6 a) (i6 b) ↔ b ≤ a := by
  rw [lg_cmp_ge, Int64.le_iff_toInt_le, to_i6 ha, to_i6 hb]
theorem cmp_eq {a b : Int} (ha : Rg a) (hb : Rg b) : lg_cmp (i6 a) (i6 b) = 0 ↔ a = b := by
  rw [lg_cmp_eq]
  exact ⟨fun h => i6_inj ha hb h, fun h => by rw [h]⟩
theorem rg_0 : Rg 0 := by unfold Rg; omega
theorem i6_ne {a : Int} (ha : Rg a) (h : a ≠ 0) : ¬ i6 a = 0 := fun e => h (i6_inj ha rg_0 e)
/-! the common divisor -/
theorem gcd_next (a b : Nat) : Nat.gcd a b = Nat.gcd b (a % b) := by
  rw [Nat.gcd_comm a b, Nat.gcd_rec b a, Nat.gcd_comm]
theorem i6_rem {a b : Nat} (ha : Rg a) (hb : Rg b) : i6 a - i6 a / i6 b * i6 b = i6 ((a % b : Nat) : Int) := by
  rw [i6_divp ha hb (Int.natCast_nonneg a), i6_mul, i6_sub]
  congr 1
  rw [Int.natCast_emod, Int.emod_def, Int.mul_comm]
theorem half_rem {k a b : Nat} (hb : b < 2 ^ (k + 1)) (h0 : b ≠ 0) (hr : ¬ a % b < 2 ^ k) : b % (a % b) < 2 ^ k := by
  have h1 : a % b < b := Nat.mod_lt _ (Nat.pos_of_ne_zero h0)
  have h2 : b % (a % b) = b - a % b := by
    rw [Nat.mod_eq_sub_mod (Nat.le_of_lt h1)]
    exact Nat.mod_eq_of_lt (by rw [Nat.pow_succ] at hb; omega)
  rw [h2]
  rw [Nat.pow_succ] at hb
  omega
theorem rg_mod {a b : Nat} (hb : Rg b) (h0 : b ≠ 0) : Rg ((a % b : Nat) : Int) := by
  have h1 : a % b < b := Nat.mod_lt _ (Nat.pos_of_ne_zero h0)
  unfold Rg at *
  omega
theorem commonOf_loop {x0 x2 : Int64} {Φ : Hp → Int64 → Prop} {S : Hp} : ∀ (k a b j : Nat), Rg a → b < 2 ^ k → Rg b → j + 2 * k ≤ 199 → Φ S (i6 (Nat.gcd a b : Nat)) → ∃ n, it4 (wX3_commonOf_b31 x0 x2 Φ) n S (i6 a) (i6 b) (nI j) := by
  intro k
  induction k with
  | zero =>
    intro a b j ha hb hrb hj hΦ
    have h0 : b = 0 := by simpa using hb
    subst h0
    rw [Nat.gcd_zero_right] at hΦ
    refine ⟨1, ?_⟩
    show wX3_commonOf_b31 x0 x2 Φ _ S (i6 a) (i6 (0 : Nat)) (nI j)
    unfold wX3_commonOf_b31
    refine if_n (nI_ge (b := 200) (by omega) (by decide)) (if_p ?_ hΦ)
    rw [i6_0, cmp_eq hrb rg_0]
    rfl
  | succ k ih =>
    intro a b j ha hb hrb hj hΦ
    by_cases h0 : b = 0
    · subst h0
      rw [Nat.gcd_zero_right] at hΦ
      refine ⟨1, ?_⟩
      show wX3_commonOf_b31 x0 x2 Φ _ S (i6 a) (i6 (0 : Nat)) (nI j)
      unfold wX3_commonOf_b31
      refine if_n (nI_ge (b := 200) (by omega) (by decide)) (if_p ?_ hΦ)
      rw [i6_0, cmp_eq hrb rg_0]
      rfl
    · have hz : ¬ lg_cmp (i6 b) 0 = 0 := by
        rw [i6_0, cmp_eq hrb rg_0]
        omega
      have hn0 : ¬ i6 (b : Int) = 0 := i6_ne hrb (by omega)
      by_cases hr : a % b < 2 ^ k
      · rw [gcd_next] at hΦ
        obtain ⟨n, hn⟩ := ih b (a % b) (j + 1) hrb hr (rg_mod hrb h0) (by omega) hΦ
        refine ⟨n + 1, ?_⟩
        show wX3_commonOf_b31 x0 x2 Φ (it4 (wX3_commonOf_b31 x0 x2 Φ) n) S (i6 a) (i6 b) (nI j)
        unfold wX3_commonOf_b31
        refine if_n (nI_ge (b := 200) (by omega) (by decide)) (if_n hz ⟨hn0, ?_⟩)
        rw [i6_rem ha hrb, ← nI_succ]
        exact hn
      · have hr0 : a % b ≠ 0 := fun e => hr (by rw [e]; exact Nat.two_pow_pos k)
        have hrr := rg_mod (a := a) hrb h0
        rw [gcd_next, gcd_next] at hΦ
        obtain ⟨n, hn⟩ := ih (a % b) (b % (a % b)) (j + 2) hrr (half_rem hb h0 hr) (rg_mod hrr hr0) (by omega) hΦ
        refine ⟨n + 2, ?_⟩
        show wX3_commonOf_b31 x0 x2 Φ (wX3_commonOf_b31 x0 x2 Φ (it4 (wX3_commonOf_b31 x0 x2 Φ) n)) S (i6 a) (i6 b) (nI j)
        unfold wX3_commonOf_b31
        refine if_n (nI_ge (b := 200) (by omega) (by decide)) (if_n hz ⟨hn0, ?_⟩)
        rw [i6_rem ha hrb, ← nI_succ]
        have hz2 : ¬ lg_cmp (i6 ((a % b : Nat) : Int)) 0 = 0 := by
          rw [i6_0, cmp_eq hrr rg_0]
          omega
        refine if_n (nI_ge (b := 200) (by omega) (by decide)) (if_n hz2 ⟨i6_ne hrr (by omega), ?_⟩)
        rw [i6_rem hrb hrr, ← nI_succ]
        exact hn
theorem i6_abs {z : Int} (h : Rg z) : (if 0 < i6 z then i6 z else -i6 z) = i6 (z.natAbs : Int) := by
  have h1 : (0 < i6 z) ↔ 0 < z := by
    rw [i6_0, Int64.lt_iff_toInt_lt, to_i6 h, to_i6 rg_0]
  by_cases h2 : 0 < z
  · rw [if_pos (h1.mpr h2)]
    congr 1
    omega
  · rw [if_neg (fun q => h2 (h1.mp q)), i6_neg]
    congr 1
    omega
theorem rg_na {z : Int} (h : Rg z) : Rg (z.natAbs : Int) := by
  unfold Rg at *
  omega
/-- the class's common divisor -/
theorem p_commonOf {S : Hp} {Φ : Hp → Int64 → Prop} {x y : Int} (hx : Rg x) (hy : Rg y) (h : Φ S (i6 (Int.gcd x y : Nat))) : wX3_commonOf S (i6 x) (i6 y) Φ := by
  have hk : y.natAbs < 2 ^ 63 := by
    unfold Rg at hy
    omega
  have key := commonOf_loop (x0 := i6 x) (x2 := i6 y) (Φ := Φ) (S := S) 63 x.natAbs y.natAbs 0 (rg_na hx) hk (rg_na hy) (by omega) h
  unfold wX3_commonOf wX3_commonOf_b0 wX3_commonOf_b12 wX3_commonOf_b26
  have e1 : ∀ z : Int, Rg z → 0 ≤ z → i6 z = i6 (z.natAbs : Int) := fun z _ h0 => by
    congr 1
    omega
  have e2 : ∀ z : Int, Rg z → ¬ 0 ≤ z → -i6 z = i6 (z.natAbs : Int) := fun z _ h0 => by
    rw [i6_neg]
    congr 1
    omega
  by_cases h1 : 0 ≤ x
  · refine if_p (by rw [i6_0, cmp_ge hx rg_0]; exact h1) ?_
    by_cases h2 : 0 ≤ y
    · refine if_p (by rw [i6_0, cmp_ge hy rg_0]; exact h2) ?_
      rw [e1 x hx h1, e1 y hy h2] at *
      exact key
    · refine if_n (by rw [i6_0, cmp_ge hy rg_0]; exact h2) ?_
      rw [e2 y hy h2]
      rw [e1 x hx h1] at *
      exact key
  · refine if_n (by rw [i6_0, cmp_ge hx rg_0]; exact h1) ?_
    by_cases h2 : 0 ≤ y
    · refine if_p (by rw [i6_0, cmp_ge hy rg_0]; exact h2) ?_
      rw [e2 x hx h1]
      rw [e1 y hy h2] at *
      exact key
    · refine if_n (by rw [i6_0, cmp_ge hy rg_0]; exact h2) ?_
      rw [e2 x hx h1, e2 y hy h2]
      exact key
/-! fractions -/
def Fq (o u : Int64) (q : Rat) : Prop := o = i6 q.num ∧ u = i6 q.den
def Sm (q : Rat) : Prop := Rg q.num ∧ Rg q.den
theorem fq_unique {o u o' u' : Int64} {q : Rat} (h : Fq o u q) (h' : Fq o' u' q) : o = o' ∧ u = u' := ⟨h.1.trans h'.1.symm, h.2.trans h'.2.symm⟩
theorem fq_inj {o u : Int64} {q q' : Rat} (h : Fq o u q) (h' : Fq o u q') (hs : Sm q) (hs' : Sm q') : q = q' := by
  refine Rat.ext (i6_inj hs.1 hs'.1 (h.1.symm.trans h'.1)) ?_
  have h2 := i6_inj hs.2 hs'.2 (h.2.symm.trans h'.2)
  exact Int.ofNat.inj h2
theorem nf_num (N : Int) {D : Int} (hD : 0 < D) : (Rat.divInt N D).num = N / (Int.gcd N D : Nat) := by
  rw [Rat.num_divInt, Int.sign_eq_one_of_pos hD, Int.one_mul, Int.gcd_comm]
theorem nf_den (N : Int) {D : Int} (hD : 0 < D) : ((Rat.divInt N D).den : Int) = D / (Int.gcd N D : Nat) := by
  rw [Rat.den_divInt, if_neg (by omega), Int.natCast_ediv, Int.natAbs_of_nonneg (by omega), Int.gcd_comm]
theorem gcd_pos_r {N D : Int} (hD : 0 < D) : 0 < Int.gcd N D := Int.gcd_pos_of_ne_zero_right N (by omega)
theorem rg_gcd {N D : Int} (hD : 0 < D) (h : Rg D) : Rg (Int.gcd N D : Nat) := by
  have h1 : (Int.gcd N D : Int) ∣ D := Int.gcd_dvd_right N D
  have h2 := Int.le_of_dvd hD h1
  unfold Rg at *
  omega
theorem q_add {a b c d : Int} (hb : 0 < b) (hd : 0 < d) : Rat.divInt a b + Rat.divInt c d = Rat.divInt (a * (d / (Int.gcd b d : Nat)) + c * (b / (Int.gcd b d : Nat))) (b / (Int.gcd b d : Nat) * d) := by
  have hg : 0 < Int.gcd b d := gcd_pos_r hd
  have h1 : (Int.gcd b d : Int) ∣ b := Int.gcd_dvd_left b d
  have h2 : (Int.gcd b d : Int) ∣ d := Int.gcd_dvd_right b d
  have e1 := Int.mul_ediv_cancel' h1
  have e2 := Int.mul_ediv_cancel' h2
  generalize (Int.gcd b d : Int) = g at *
  generalize b / g = b1 at *
  generalize d / g = d1 at *
  have hb1 : b1 ≠ 0 := fun e => by rw [e, Int.mul_zero] at e1; omega
  rw [Rat.divInt_add_divInt _ _ (by omega) (by omega), Rat.divInt_eq_divInt_iff (Int.mul_ne_zero (by omega) (by omega)) (Int.mul_ne_zero hb1 (by omega)), ← e1, ← e2]
  grind
theorem q_self (q : Rat) : Rat.divInt q.num q.den = q := Rat.num_divInt_den q
theorem den_pos (q : Rat) : (0 : Int) < q.den := by
  have := q.den_pos
  omega
theorem q_floor (n : Int) {d : Int} (hd : 0 < d) : (Rat.divInt n d).floor = n / d := by
  have hg : 0 < Int.gcd n d := gcd_pos_r hd
  rw [Rat.floor_def, nf_num n hd, nf_den n hd]
  have e1 := Int.mul_ediv_cancel' (Int.gcd_dvd_left n d)
  have e2 := Int.mul_ediv_cancel' (Int.gcd_dvd_right n d)
  have hg' : 0 < (Int.gcd n d : Int) := by omega
  generalize (Int.gcd n d : Int) = g at *
  generalize n / g = n1 at *
  generalize d / g = d1 at *
  rw [← e1, ← e2, Int.mul_ediv_mul_of_pos _ _ hg']
theorem xor_sign {x y : Int} (hx : Rg x) (hy : Rg y) (hp : 0 < y) : (0 ≤ lg_cmp (i6 x ^^^ i6 y) 0) ↔ 0 ≤ x := by
  rw [lg_cmp_ge, Int64.le_iff_toInt_le]
  have h1 : ∀ z : Int64, (0 : Int64).toInt ≤ z.toInt ↔ z.toBitVec.msb = false := fun z => by
    have h2 := BitVec.msb_eq_toInt (x := z.toBitVec)
    rw [h2]
    show (0 : Int) ≤ z.toBitVec.toInt ↔ _
    simp
  rw [h1, Int64.toBitVec_xor, BitVec.msb_xor]
  have h2 := (h1 (i6 y)).mp (by rw [to_i6 hy]; show (0 : Int) ≤ y; omega)
  have h3 := h1 (i6 x)
  rw [to_i6 hx] at h3
  rw [h2, Bool.xor_false, ← h3]
  rfl
theorem p_floorDiv {S : Hp} {Φ : Hp → Int64 → Prop} {n d : Int} (hn : Rg n) (hd : Rg d) (hp : 0 < d) (h : Φ S (i6 (n / d))) : wJ9_floorDiv_f86c9 S (i6 n) (i6 d) Φ := by
  unfold wJ9_floorDiv_f86c9 wJ9_floorDiv_f86c9_b0
  refine ⟨i6_ne hd (by omega), ?_⟩
  by_cases h0 : 0 ≤ n
  · refine if_p ((xor_sign hn hd hp).mpr h0) ?_
    rw [i6_divp hn hd h0]
    exact h
  · refine if_n (fun q => h0 ((xor_sign hn hd hp).mp q)) ?_
    rw [i6_tdiv hn hd, i6_mul]
    have hle : (n.tdiv d).natAbs * d.natAbs ≤ n.natAbs := by
      rw [Int.natAbs_tdiv]
      exact Nat.div_mul_le_self _ _
    have hr : Rg (n.tdiv d * d) := rg_abs (by rw [Int.natAbs_mul]; exact hle) hn
    by_cases h3 : n.tdiv d * d = n
    · refine if_p (by rw [cmp_eq hr hn]; exact h3) ?_
      have h4 : d ∣ n := ⟨n.tdiv d, by rw [Int.mul_comm]; exact h3.symm⟩
      rw [Int.tdiv_eq_ediv_of_dvd h4]
      exact h
    · refine if_n (by rw [cmp_eq hr hn]; exact h3) ?_
      have h4 : ¬ d ∣ n := fun h4 => h3 (by rw [Int.tdiv_eq_ediv_of_dvd h4, Int.mul_comm]; exact Int.mul_ediv_cancel' h4)
      rw [i6_1, i6_sub]
      have h5 : n.tdiv d - 1 = n / d := by
        rw [Int.tdiv_eq_ediv, if_neg (by intro q; rcases q with q | q; exact h0 q; exact h4 q), Int.sign_eq_one_of_pos hp]
        omega
      rw [h5]
      exact h
theorem p_floorMod {S : Hp} {Φ : Hp → Int64 → Prop} {n d : Int} (hn : Rg n) (hd : Rg d) (hp : 0 < d) (h : Φ S (i6 (n % d))) : wJ9_floorMod_f86c9 S (i6 n) (i6 d) Φ := by
  unfold wJ9_floorMod_f86c9 wJ9_floorMod_f86c9_b0
  refine ⟨i6_ne hd (by omega), ?_⟩
  have h1 := Int.emod_def n d
  have hlt := Int.emod_lt_of_pos n hp
  have hge := Int.emod_nonneg n (show d ≠ 0 by omega)
  by_cases h0 : 0 ≤ n
  · refine if_p ((xor_sign hn hd hp).mpr h0) ?_
    rw [i6_divp hn hd h0, i6_mul, i6_sub, Int.mul_comm, ← h1]
    exact h
  · refine if_n (fun q => h0 ((xor_sign hn hd hp).mp q)) ?_
    rw [i6_tdiv hn hd, i6_mul, i6_sub]
    by_cases h4 : d ∣ n
    · have h5 : n - n.tdiv d * d = 0 := by
        rw [Int.tdiv_eq_ediv_of_dvd h4, Int.mul_comm, Int.mul_ediv_cancel' h4]
        omega
      have h6 : n % d = 0 := Int.emod_eq_zero_of_dvd h4
      rw [h5]
      refine if_p (by rw [i6_0, cmp_eq rg_0 rg_0]) ?_
      rw [← h6]
      exact h
    · have h5 : n - n.tdiv d * d = n % d - d := by
        rw [h1, Int.tdiv_eq_ediv, if_neg (by intro q; rcases q with q | q; exact h0 q; exact h4 q), Int.sign_eq_one_of_pos hp]
        grind
      have h6 : n % d ≠ 0 := fun e => h4 (Int.dvd_of_emod_eq_zero e)
      have hr : Rg (n % d - d) := by
        unfold Rg at *
        omega
      rw [h5]
      refine if_n (by rw [i6_0, cmp_eq hr rg_0]; omega) ?_
      rw [i6_add]
      have h7 : n % d - d + d = n % d := by omega
      rw [h7]
      exact h
/-- times a fraction, rounded down, by its whole and its rest -/
theorem whole_rest (n t : Int) {d : Int} (hd : 0 < d) : n / d * t + n % d * t / d = n * t / d := by
  have h1 : n * t = n % d * t + (n / d * t) * d := by
    have := Int.mul_ediv_add_emod n d
    grind
  rw [h1, Int.add_mul_ediv_right _ _ (by omega)]
  omega
theorem floor_times (q : Rat) (t : Int) : ((t : Rat) * q).floor = t * q.num / q.den := by
  have h1 : (t : Rat) * q = Rat.divInt (t * q.num) q.den := by
    have h2 : (t : Rat) = Rat.divInt t 1 := by
      rw [Rat.divInt_eq_div]
      grind
    have h3 := Rat.num_divInt_den q
    rw [h2]
    conv => lhs; rw [← h3]
    rw [Rat.divInt_mul_divInt, Int.one_mul]
  rw [h1, q_floor _ (den_pos q)]
