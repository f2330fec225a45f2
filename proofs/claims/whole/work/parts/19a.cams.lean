/-! CAMS: what they hold, on both sides -/
def Cm : Type := Nat × Nat × (Nat → Nat) × (Nat → Nat) × (Nat → Nat) × (Nat → Nat)
def cmS (x : Cm) : Nat := x.1
def cmN (x : Cm) : Nat := x.2.1
def cmL (x : Cm) : Nat → Nat := x.2.2.1
def cmH (x : Cm) : Nat → Nat := x.2.2.2.1
def cmW (x : Cm) : Nat → Nat := x.2.2.2.2.1
def cmV (x : Cm) : Nat → Nat := x.2.2.2.2.2
def fup (f : Nat → Nat) (i v : Nat) : Nat → Nat := fun j => if j = i then v else f j
def sumN (f : Nat → Nat) : Nat → Nat
  | 0 => 0
  | n + 1 => sumN f n + f n
theorem sumN_s (f : Nat → Nat) (n : Nat) : sumN f (n + 1) = sumN f n + f n := rfl
theorem sumN_cg {f g : Nat → Nat} : ∀ n, (∀ j, j < n → f j = g j) → sumN f n = sumN g n
  | 0, _ => rfl
  | n + 1, h => by
    rw [sumN_s, sumN_s, sumN_cg n (fun j hj => h j (by omega)), h n (by omega)]
theorem sumN_mono {f : Nat → Nat} {m : Nat} : ∀ n, m ≤ n → sumN f m ≤ sumN f n
  | 0, h => by
    have : m = 0 := by omega
    rw [this]
    exact Nat.le_refl _
  | n + 1, h => by
    by_cases c : m = n + 1
    · rw [c]
      exact Nat.le_refl _
    · have := sumN_mono (f := f) (m := m) n (by omega)
      rw [sumN_s]
      omega
theorem sumN_ge {f : Nat → Nat} : ∀ n, (∀ j, j < n → 1 ≤ f j) → n ≤ sumN f n
  | 0, _ => Nat.zero_le _
  | n + 1, h => by
    have := sumN_ge n (fun j hj => h j (by omega))
    have := h n (by omega)
    rw [sumN_s]
    omega
def cmApp (x : Cm) (p h w : Nat) : Cm := (cmS x, cmN x + 1, fup (cmL x) (cmN x) p, fup (cmH x) (cmN x) h, fup (cmW x) (cmN x) w, cmV x)
def cmClr (x : Cm) : Cm := (cmS x, 0, cmL x, cmH x, cmW x, cmV x)
def cmWsh (x : Cm) (j v : Nat) : Cm := (cmS x, cmN x, cmL x, cmH x, cmW x, fup (cmV x) j v)
def CmC (x : Cm) (c : Nat) (D : Dt) : Prop := D.FI 64 (500 + 5 * c) = nI (cmS x) ∧ D.FI 69 (500 + 5 * c) = nI (cmN x) ∧ D.FI 70 (500 + 5 * c) = nI (sumN (cmL x) (cmN x)) ∧ (∀ j, j < cmN x → D.AI (501 + 5 * c) j = nI (cmL x j) ∧ D.AI (502 + 5 * c) j = nI (cmH x j) ∧ D.AI (503 + 5 * c) j = nI (cmW x j)) ∧ ∀ j, j < 24 → D.AI (504 + 5 * c) j = nI (cmV x j) - 1
def CmM (x : Cm) (c : Nat) (D : Dt) : Prop := D.AI 94 c = nI (cmS x) ∧ D.AI 95 c = nI (cmN x) ∧ (∀ j, j < cmN x → D.AI (200 + c) j = nI (cmL x j) ∧ D.AI (210 + c) j = nI (cmH x j) ∧ D.AI (220 + c) j = nI (cmW x j)) ∧ ∀ j, j < 24 → D.AI (230 + c) j = nI (cmV x j) - 1
def CmK (ns : Nat) (x : Cm) : Prop := cmS x < ns ∧ sumN (cmL x) (cmN x) ≤ 24 ∧ (∀ j, j < cmN x → 1 ≤ cmL x j ∧ cmH x j ≤ 99 ∧ (cmW x j = 117 ∨ cmW x j = 112)) ∧ ∀ j, j < 24 → cmV x j ≤ 100
theorem cmK_n {ns : Nat} {x : Cm} (h : CmK ns x) : cmN x ≤ 24 := Nat.le_trans (sumN_ge _ (fun j hj => (h.2.2.1 j hj).1)) h.2.1
theorem cmK_l {ns : Nat} {x : Cm} (h : CmK ns x) {j : Nat} (hj : j < cmN x) : cmL x j ≤ 24 := by
  have := sumN_mono (f := cmL x) (m := j + 1) (cmN x) (by omega)
  rw [sumN_s] at this
  have := h.2.1
  omega
theorem cmK_app {ns p hh w : Nat} {x : Cm} (h : CmK ns x) (h1 : 1 ≤ p) (h2 : hh ≤ 99) (h3 : w = 117 ∨ w = 112) (h4 : sumN (cmL x) (cmN x) + p ≤ 24) : CmK ns (cmApp x p hh w) := by
  refine ⟨h.1, ?_, fun j hj => ?_, h.2.2.2⟩
  · show sumN (fup (cmL x) (cmN x) p) (cmN x + 1) ≤ 24
    rw [sumN_s, sumN_cg (f := fup (cmL x) (cmN x) p) (g := cmL x) (cmN x) (fun j hj => if_neg (by omega))]
    unfold fup
    rw [if_pos rfl]
    exact h4
  · show 1 ≤ fup (cmL x) (cmN x) p j ∧ fup (cmH x) (cmN x) hh j ≤ 99 ∧ (fup (cmW x) (cmN x) w j = 117 ∨ fup (cmW x) (cmN x) w j = 112)
    unfold fup
    have hj' : j < cmN x + 1 := hj
    by_cases c : j = cmN x
    · rw [if_pos c, if_pos c, if_pos c]
      exact ⟨h1, h2, h3⟩
    · rw [if_neg c, if_neg c, if_neg c]
      exact h.2.2.1 j (by omega)
theorem sum_app {p hh w : Nat} {x : Cm} : sumN (cmL (cmApp x p hh w)) (cmN (cmApp x p hh w)) = sumN (cmL x) (cmN x) + p := by
  show sumN (fup (cmL x) (cmN x) p) (cmN x + 1) = _
  rw [sumN_s, sumN_cg (f := fup (cmL x) (cmN x) p) (g := cmL x) (cmN x) (fun j hj => if_neg (by omega))]
  unfold fup
  rw [if_pos rfl]
theorem cmK_clr {ns : Nat} {x : Cm} (h : CmK ns x) : CmK ns (cmClr x) := ⟨h.1, Nat.zero_le _, fun j hj => absurd hj (Nat.not_lt_zero j), h.2.2.2⟩
theorem cmK_wsh {ns j v : Nat} {x : Cm} (h : CmK ns x) (hv : v ≤ 100) : CmK ns (cmWsh x j v) := ⟨h.1, h.2.1, h.2.2.1, fun i hi => by
  show fup (cmV x) j v i ≤ 100
  unfold fup
  by_cases c : i = j
  · rw [if_pos c]
    exact hv
  · rw [if_neg c]
    exact h.2.2.2 i hi⟩
theorem cmC_cg {x : Cm} {c : Nat} {D D' : Dt} (h : CmC x c D) (e1 : ∀ i, i = 64 ∨ i = 69 ∨ i = 70 → D'.FI i (500 + 5 * c) = D.FI i (500 + 5 * c)) (e2 : ∀ j, 1 ≤ j → j < 5 → D'.AI (500 + j + 5 * c) = D.AI (500 + j + 5 * c)) : CmC x c D' := by
  refine ⟨(e1 64 (Or.inl rfl)).trans h.1, (e1 69 (Or.inr (Or.inl rfl))).trans h.2.1, (e1 70 (Or.inr (Or.inr rfl))).trans h.2.2.1, fun j hj => ?_, fun j hj => ?_⟩
  · have q1 := e2 1 (by decide) (by decide)
    have q2 := e2 2 (by decide) (by decide)
    have q3 := e2 3 (by decide) (by decide)
    exact ⟨(congrFun q1 j).trans (h.2.2.2.1 j hj).1, (congrFun q2 j).trans (h.2.2.2.1 j hj).2.1, (congrFun q3 j).trans (h.2.2.2.1 j hj).2.2⟩
  · have q4 := e2 4 (by decide) (by decide)
    exact (congrFun q4 j).trans (h.2.2.2.2 j hj)
theorem cmM_cg {x : Cm} {c : Nat} {D D' : Dt} (h : CmM x c D) (e1 : D'.AI 94 c = D.AI 94 c) (e2 : D'.AI 95 c = D.AI 95 c) (e3 : ∀ r, r = 200 + c ∨ r = 210 + c ∨ r = 220 + c ∨ r = 230 + c → D'.AI r = D.AI r) : CmM x c D' := by
  refine ⟨e1.trans h.1, e2.trans h.2.1, fun j hj => ?_, fun j hj => ?_⟩
  · rw [e3 _ (Or.inl rfl), e3 _ (Or.inr (Or.inl rfl)), e3 _ (Or.inr (Or.inr (Or.inl rfl)))]
    exact h.2.2.1 j hj
  · rw [e3 _ (Or.inr (Or.inr (Or.inr rfl)))]
    exact h.2.2.2 j hj
theorem wI_m1 {n : Nat} (h : n < 2 ^ 30) : nI n - 1 = -1 ↔ n = 0 := by
  constructor
  · intro e
    have := congrArg Int32.toInt e
    rw [nI_m1 h] at this
    have e2 : (-1 : Int32).toInt = -1 := rfl
    omega
  · intro e
    rw [e]
    rfl
theorem nc_law {w : Nat} (h : w = 117 ∨ w = 112) : nc (nI w) := by
  rcases h with h | h <;> rw [h] <;> exact ⟨rfl, rfl⟩
section KC9
variable {A E : Nat → Nat} {ls : Nat → List Nat} {nl nc nd : Nat} {S : Hp} {D : Dt}
theorem cam_ (h : Rep A E ls nl nc nd S D) {c : Nat} (hc : c < nc) (hc8 : c < 8) : isA S (A (500 + 5 * c)) 1 ∧ S.FR 65 (A (500 + 5 * c)) = some (A (501 + 5 * c)) ∧ S.FR 66 (A (500 + 5 * c)) = some (A (502 + 5 * c)) ∧ S.FR 67 (A (500 + 5 * c)) = some (A (503 + 5 * c)) ∧ S.FR 68 (A (500 + 5 * c)) = some (A (504 + 5 * c)) ∧ isA S (A (501 + 5 * c)) 21 ∧ isA S (A (502 + 5 * c)) 21 ∧ isA S (A (503 + 5 * c)) 20 ∧ isA S (A (504 + 5 * c)) 21 ∧ S.N (A (501 + 5 * c)) = 24 ∧ S.N (A (502 + 5 * c)) = 24 ∧ S.N (A (503 + 5 * c)) = 24 ∧ S.N (A (504 + 5 * c)) = 24 := by
  have t1 : ∀ c, c < 8 → (kdr (500 + 5 * c) = 1 ∧ kdr (501 + 5 * c) = 21 ∧ kdr (502 + 5 * c) = 21 ∧ kdr (503 + 5 * c) = 20 ∧ kdr (504 + 5 * c) = 21) := by decide
  have t2 : ∀ c, c < 8 → (ndr (501 + 5 * c) = 24 ∧ ndr (502 + 5 * c) = 24 ∧ ndr (503 + 5 * c) = 24 ∧ ndr (504 + 5 * c) = 24) := by decide
  obtain ⟨k0, k1, k2, k3, k4⟩ := t1 c hc8
  obtain ⟨n1, n2, n3, n4⟩ := t2 c hc8
  obtain ⟨f1, f2, f3, f4⟩ := h.1.2.2.2.2.2.1 c hc
  have a0 : al nl nc nd (500 + 5 * c) := al_c (j := 0) hc (by decide)
  have a1 : al nl nc nd (501 + 5 * c) := al_c (j := 1) hc (by decide)
  have a2 : al nl nc nd (502 + 5 * c) := al_c (j := 2) hc (by decide)
  have a3 : al nl nc nd (503 + 5 * c) := al_c (j := 3) hc (by decide)
  have a4 : al nl nc nd (504 + 5 * c) := al_c (j := 4) hc (by decide)
  exact ⟨rep_is h a0 k0, f1, f2, f3, f4, rep_is h a1 k1, rep_is h a2 k2, rep_is h a3 k3, rep_is h a4 k4, rep_N h a1 n1, rep_N h a2 n2, rep_N h a3 n3, rep_N h a4 n4⟩
theorem cam_al {c : Nat} (hc : c < nc) : al nl nc nd (500 + 5 * c) ∧ al nl nc nd (501 + 5 * c) ∧ al nl nc nd (502 + 5 * c) ∧ al nl nc nd (503 + 5 * c) ∧ al nl nc nd (504 + 5 * c) := ⟨al_c (j := 0) hc (by decide), al_c (j := 1) hc (by decide), al_c (j := 2) hc (by decide), al_c (j := 3) hc (by decide), al_c (j := 4) hc (by decide)⟩
theorem cam_get {c : Nat} (hls : ls 2 = (List.range nc).map (fun c => A (500 + 5 * c))) (hc : c < nc) : (ls 2)[c]? = some (A (500 + 5 * c)) := by
  rw [hls, List.getElem?_map, List.getElem?_range hc]
  rfl
theorem cam_len (hls : ls 2 = (List.range nc).map (fun c => A (500 + 5 * c))) : (ls 2).length = nc := by
  rw [hls, List.length_map, List.length_range]
theorem p_camAt {Φ : Hp → Option Nat → Prop} {Ψ : Hp → String → Prop} {x : Int32} (h : Rep A E ls nl nc nd S D) (hls : ls 2 = (List.range nc).map (fun c => A (500 + 5 * c))) (h8 : nc ≤ 8) (k : ∀ c, c < nc → x = nI c → Φ S (some (A (500 + 5 * c)))) (kt : ¬ inR x nc → Ψ S "java/lang/IndexOutOfBoundsException") : wX7_camAt S (A 0) x Φ Ψ := by
  unfold wX7_camAt wX7_camAt_b0 wX7_camAt_b15
  by_cases c : x < 0
  · exact if_p c (kt (fun q => by have := lt0_iff.mp c; have := q.1; omega))
  · refine if_n c ⟨c_is h, A (1 + 2), rep_fr h (450, 0, 3) (by decide), ls_is h (by decide), p_size h (j := 2) (by decide) ?_⟩
    rw [cam_len hls]
    by_cases c2 : x < nI nc
    · obtain ⟨s, hs, e⟩ := inR_ex (x := x) (n := nc) ⟨Int.not_lt.mp (fun q => c (lt0_iff.mpr q)), (ltn_iff (by omega)).mp c2⟩ (by omega)
      rw [e] at c2 ⊢
      exact if_p c2 ⟨c_is h, A (1 + 2), rep_fr h (450, 0, 3) (by decide), ls_is h (by decide), p_get (x := A (500 + 5 * s)) h (j := 2) (by decide) (cam_get hls hs) ⟨A (500 + 5 * s), rfl, (cam_ h hs (by omega)).1, k s hs e⟩⟩
    · exact if_n c2 (kt (fun q => c2 ((ltn_iff (by omega)).mpr q.2)))
theorem p_checkLaw {Φ : Hp → Prop} {Ψ : Hp → String → Prop} {x : Int32} (k : ∀ w : Nat, (w = 117 ∨ w = 112) → x = nI w → Φ S) (kt : x ≠ 117 → x ≠ 112 → Ψ S "java/lang/IllegalArgumentException") : wX7_checkLaw S x Φ Ψ := by
  unfold wX7_checkLaw wX7_checkLaw_b0
  by_cases c : x = 117
  · exact if_p c (k 117 (Or.inl rfl) c)
  · by_cases c2 : x = 112
    · exact if_n c (if_p c2 (k 112 (Or.inr rfl) c2))
    · exact if_n c (if_n c2 (kt c c2))
theorem p_append {Φ : Hp → Prop} {ns c p hh w : Nat} {x : Cm} (h : Rep A E ls nl nc nd S D) (hc : c < nc) (hc8 : c < 8) (hx : CmC x c D) (hk : CmK ns x) (hn : cmN x < 24) (hw : w = 117 ∨ w = 112)
    (kk : ∀ S' D', Rep A E ls nl nc nd S' D' → SamG (fun i r => (i = 69 ∨ i = 70) ∧ r = 500 + 5 * c) (fun r => r = 501 + 5 * c ∨ r = 502 + 5 * c ∨ r = 503 + 5 * c) (fun _ => False) D D' → CmC (cmApp x p hh w) c D' → Φ S') : wX1_append S (A (500 + 5 * c)) (nI p) (nI hh) (nI w) Φ := by
  obtain ⟨l0, l1, l2, l3, l4⟩ := cam_al (nl := nl) (nd := nd) hc
  obtain ⟨x1, x2, x3, x4, x5⟩ := hx
  have v69 : ∀ S D, Rep A E ls nl nc nd S D → D.FI 69 (500 + 5 * c) = nI (cmN x) → S.FI 69 (A (500 + 5 * c)) = nI (cmN x) := fun S D h e => (rep_FI h 69 (by decide) l0).trans e
  have n24 : ∀ n, n = 24 → vp_in (nI (cmN x)) n := fun n e => by
    rw [e]
    exact in_nI hn (by decide)
  have cN : (nI (cmN x)).toNatClampNeg = cmN x := cl_nI (by omega)
  obtain ⟨g0, f1, f2, f3, f4, g1, g2, g3, g4, n1, n2, n3, n4⟩ := cam_ h hc hc8
  unfold wX1_append wX1_append_b0
  rw [v69 S D h x2, cN]
  refine ⟨g0, if_n (nI_ge (b := 24) hn (by decide)) ⟨_, f1, g1, n24 _ n1, fun S6 e6 => ?_⟩⟩
  obtain ⟨D6, r6, u6, j6, o6, i6⟩ := t_setAI (r := 501 + 5 * c) h l1 e6
  obtain ⟨-, -, f2, -, -, -, g2, -, -, -, n2, -, -⟩ := cam_ r6 hc hc8
  rw [v69 S6 D6 r6 (by rw [u6]; exact x2), cN]
  refine ⟨_, f2, g2, n24 _ n2, fun S10 e10 => ?_⟩
  obtain ⟨D10, r10, u10, j10, o10, i10⟩ := t_setAI (r := 502 + 5 * c) r6 l2 e10
  obtain ⟨-, -, -, f3, -, -, -, g3, -, -, -, n3, -⟩ := cam_ r10 hc hc8
  rw [v69 S10 D10 r10 (by rw [u10, u6]; exact x2), cN]
  refine ⟨_, f3, g3, n24 _ n3, nc_law hw, fun S15 e15 S16 e16 S17 e17 => ?_⟩
  obtain ⟨D15, r15, u15, j15, o15, i15⟩ := t_setAI (r := 503 + 5 * c) r10 l3 e15
  rw [v69 S15 D15 r15 (by rw [u15, u10, u6]; exact x2), ← nI_succ] at e16
  obtain ⟨D16, r16, u16, j16, o16, i16⟩ := t_setFI (r := 500 + 5 * c) (i := 69) r15 l0 (by decide) e16
  have v70 : S16.FI 70 (A (500 + 5 * c)) = nI (sumN (cmL x) (cmN x)) := (rep_FI r16 70 (by decide) l0).trans (by rw [o16 70 _ (by omega), u15, u10, u6]; exact x3)
  rw [v70, nI_add] at e17
  obtain ⟨D17, r17, u17, j17, o17, i17⟩ := t_setFI (r := 500 + 5 * c) (i := 70) r16 l0 (by decide) e17
  have w501 : ∀ j, D17.AI (501 + 5 * c) j = if j = cmN x then nI p else D.AI (501 + 5 * c) j := fun j => by
    rw [u17, u16, o15 _ (by omega), o10 _ (by omega), i6 j]
  have w502 : ∀ j, D17.AI (502 + 5 * c) j = if j = cmN x then nI hh else D.AI (502 + 5 * c) j := fun j => by
    rw [u17, u16, o15 _ (by omega), i10 j, o6 _ (by omega)]
  have w503 : ∀ j, D17.AI (503 + 5 * c) j = if j = cmN x then nI w else D.AI (503 + 5 * c) j := fun j => by
    rw [u17, u16, i15 j, o10 _ (by omega), o6 _ (by omega)]
  have wI : ∀ r, r ≠ 501 + 5 * c → r ≠ 502 + 5 * c → r ≠ 503 + 5 * c → D17.AI r = D.AI r := fun r h1 h2 h3 => by
    rw [u17, u16, o15 r h3, o10 r h2, o6 r h1]
  have wF : ∀ i r, ¬ ((i = 69 ∨ i = 70) ∧ r = 500 + 5 * c) → D17.FI i r = D.FI i r := fun i r hr => by
    rw [o17 i r (fun q => hr ⟨Or.inr q.1, q.2⟩), o16 i r (fun q => hr ⟨Or.inl q.1, q.2⟩), u15, u10, u6]
  refine kk S17 D17 r17 ⟨wF, fun r hr => wI r (fun q => hr (Or.inl q)) (fun q => hr (Or.inr (Or.inl q))) (fun q => hr (Or.inr (Or.inr q))), fun r _ => by rw [j17, j16, j15, j10, j6]⟩ ⟨?_, ?_, ?_, fun j hj => ?_, fun j hj => ?_⟩
  · rw [wF _ _ (by omega)]
    exact x1
  · rw [o17 _ _ (by omega), i16]
    rfl
  · rw [i17, sum_app]
  · have hj' : j < cmN x + 1 := hj
    rw [w501, w502, w503]
    show _ = nI (fup (cmL x) (cmN x) p j) ∧ _ = nI (fup (cmH x) (cmN x) hh j) ∧ _ = nI (fup (cmW x) (cmN x) w j)
    unfold fup
    by_cases cj : j = cmN x
    · repeat rw [if_pos cj]
      exact ⟨rfl, rfl, rfl⟩
    · repeat rw [if_neg cj]
      exact x4 j (by omega)
  · rw [wI _ (by omega) (by omega) (by omega)]
    exact x5 j hj
theorem p_empty {Φ : Hp → Prop} {c : Nat} {x : Cm} (h : Rep A E ls nl nc nd S D) (hc : c < nc) (hc8 : c < 8) (hx : CmC x c D)
    (kk : ∀ S' D', Rep A E ls nl nc nd S' D' → SamG (fun i r => (i = 69 ∨ i = 70) ∧ r = 500 + 5 * c) (fun _ => False) (fun _ => False) D D' → CmC (cmClr x) c D' → Φ S') : wX1_empty S (A (500 + 5 * c)) Φ := by
  obtain ⟨l0, l1, l2, l3, l4⟩ := cam_al (nl := nl) (nd := nd) hc
  unfold wX1_empty wX1_empty_b0
  refine ⟨(cam_ h hc hc8).1, fun S2 e2 S3 e3 => ?_⟩
  obtain ⟨D2, r2, u2, j2, o2, i2⟩ := t_setFI (r := 500 + 5 * c) (i := 69) h l0 (by decide) e2
  obtain ⟨D3, r3, u3, j3, o3, i3⟩ := t_setFI (r := 500 + 5 * c) (i := 70) r2 l0 (by decide) e3
  refine kk S3 D3 r3 ⟨fun i r hr => ?_, fun r _ => by rw [u3, u2], fun r _ => by rw [j3, j2]⟩ ⟨?_, ?_, ?_, fun j hj => absurd hj (Nat.not_lt_zero j), fun j hj => ?_⟩
  · rw [o3 i r (fun q => hr ⟨Or.inr q.1, q.2⟩), o2 i r (fun q => hr ⟨Or.inl q.1, q.2⟩)]
  · rw [o3 _ _ (by omega), o2 _ _ (by omega)]
    exact hx.1
  · rw [o3 _ _ (by omega), i2]
    rfl
  · rw [i3]
    rfl
  · rw [u3, u2]
    exact hx.2.2.2.2 j hj
theorem p_countWishes {Φ : Hp → Int32 → Prop} {c : Nat} {x : Cm} (h : Rep A E ls nl nc nd S D) (hc : c < nc) (hc8 : c < 8) (hx : CmC x c D) (hv : ∀ j, j < 24 → cmV x j ≤ 100) (kk : Φ S (nI (cnt 24 (fun j => decide (cmV x j ≠ 0))))) : wX1_countWishes S (A (500 + 5 * c)) Φ := by
  obtain ⟨l0, l1, l2, l3, l4⟩ := cam_al (nl := nl) (nd := nd) hc
  unfold wX1_countWishes wX1_countWishes_b0
  refine it3_ex (fun j S1 a v => S1 = S ∧ v = nI j ∧ a = nI (cnt j (fun j => decide (cmV x j ≠ 0)))) 24 ?_ ?_ ⟨rfl, rfl, rfl⟩
  · rintro j hj S1 _ _ k9 ⟨rfl, rfl, rfl⟩ hk9
    obtain ⟨g0, f1, f2, f3, f4, g1, g2, g3, g4, n1, n2, n3, n4⟩ := cam_ h hc hc8
    unfold wX1_countWishes_b4 wX1_countWishes_b23
    refine if_n (nI_ge (b := 24) hj (by decide)) ⟨g0, _, f4, g4, by rw [n4]; exact in_nI hj (by decide), ?_⟩
    have v : S1.AI (A (504 + 5 * c)) (nI j).toNatClampNeg = nI (cmV x j) - 1 := rd_I h l4 (by omega) (hx.2.2.2.2 j hj)
    have w := wI_m1 (n := cmV x j) (by have := hv j hj; omega)
    rw [v]
    by_cases cz : cmV x j = 0
    · refine if_p (w.mpr cz) ?_
      rw [← nI_succ]
      refine hk9 _ _ _ ⟨rfl, rfl, ?_⟩
      rw [cnt_s, if_neg (by rw [cz]; decide), Nat.add_zero]
    · refine if_n (fun q => cz (w.mp q)) ?_
      rw [← nI_succ, ← nI_succ]
      refine hk9 _ _ _ ⟨rfl, rfl, ?_⟩
      rw [cnt_s, if_pos (decide_eq_true cz)]
  · rintro S1 _ _ k9 ⟨rfl, rfl, rfl⟩
    unfold wX1_countWishes_b4
    exact if_p (nI_le (Nat.le_refl 24) (by decide)) kk
theorem wI_rng {y : Int32} (h : -1 ≤ y.toInt ∧ y.toInt ≤ 99) : ∃ v : Nat, v ≤ 100 ∧ y = nI v - 1 := by
  refine ⟨(y.toInt + 1).toNat, by omega, ?_⟩
  apply Int32.toInt_inj.mp
  rw [nI_m1 (by omega)]
  omega
theorem p_wishC {Φ : Hp → Int32 → Prop} {Ψ : Hp → String → Prop} {ns : Nat} {x1 x2 x3 : Int32} {K : Nat → Cm} (h : Rep A E ls nl nc nd S D) (hls : ls 2 = (List.range nc).map (fun c => A (500 + 5 * c))) (h8 : nc ≤ 8) (hx : ∀ c, c < nc → CmC (K c) c D ∧ CmK ns (K c))
    (kt1 : ¬ inR x1 nc → Ψ S "java/lang/IndexOutOfBoundsException") (kt2 : inR x1 nc → ¬ ((0 ≤ x2.toInt ∧ x2.toInt ≤ 23) ∧ (-1 ≤ x3.toInt ∧ x3.toInt ≤ 99)) → Ψ S "java/lang/IllegalArgumentException")
    (kk : ∀ c j v, c < nc → j < 24 → v ≤ 100 → x1 = nI c → x2 = nI j → x3 = nI v - 1 → ∀ S' D', Rep A E ls nl nc nd S' D' → SamG (fun _ _ => False) (fun r => r = 504 + 5 * c) (fun _ => False) D D' → CmC (cmWsh (K c) j v) c D' → Φ S' (nI (cnt 24 (fun i => decide (cmV (cmWsh (K c) j v) i ≠ 0))))) : wX7_wish S (A 0) x1 x2 x3 Φ Ψ := by
  unfold wX7_wish wX7_wish_b0
  refine ⟨c_is h, p_camAt h hls h8 (fun c hc e => ⟨_, rfl, p_checkRange (fun a1 a2 => p_checkRange (fun b1 b2 => ?_) (fun q => kt2 (by rw [e]; exact inR_nI hc (by omega)) (fun w => q w.2))) (fun q => kt2 (by rw [e]; exact inR_nI hc (by omega)) (fun w => q w.1))⟩) kt1⟩
  obtain ⟨hC, hK⟩ := hx c hc
  obtain ⟨l0, l1, l2, l3, l4⟩ := cam_al (nl := nl) (nd := nd) hc
  obtain ⟨g0, f1, f2, f3, f4, g1, g2, g3, g4, n1, n2, n3, n4⟩ := cam_ h hc (by omega)
  have a1' : (0 : Int) ≤ x2.toInt := a1
  have a2' : x2.toInt ≤ 23 := a2
  have b1' : (-1 : Int) ≤ x3.toInt := b1
  have b2' : x3.toInt ≤ 99 := b2
  obtain ⟨j, hj, rfl⟩ := inR_ex (x := x2) (n := 24) ⟨a1', by omega⟩ (by decide)
  obtain ⟨v, hv, rfl⟩ := wI_rng ⟨b1', b2'⟩
  refine ⟨g0, _, f4, g4, by rw [n4]; exact in_nI hj (by decide), fun S11 e11 => ?_⟩
  rw [cl_nI (by omega)] at e11
  obtain ⟨D11, r11, u11, j11, o11, i11⟩ := t_setAI (r := 504 + 5 * c) h l4 e11
  have hC' : CmC (cmWsh (K c) j v) c D11 := by
    obtain ⟨x1, x2, x3, x4, x5⟩ := hC
    refine ⟨by rw [u11]; exact x1, by rw [u11]; exact x2, by rw [u11]; exact x3, fun i hi => ?_, fun i hi => ?_⟩
    · rw [o11 _ (by omega), o11 _ (by omega), o11 _ (by omega)]
      exact x4 i hi
    · rw [i11 i]
      show _ = nI (fup (cmV (K c)) j v i) - 1
      unfold fup
      by_cases ci : i = j
      · rw [if_pos ci, if_pos ci]
      · rw [if_neg ci, if_neg ci]
        exact x5 i hi
  exact p_countWishes r11 hc (by omega) hC' (cmK_wsh hK hv).2.2.2 (kk c j v hc hj hv e rfl rfl S11 D11 r11 ⟨fun i r _ => by rw [u11], o11, fun r _ => by rw [j11]⟩ hC')
theorem p_segmentC {Φ : Hp → Int32 → Prop} {Ψ : Hp → String → Prop} {ns : Nat} {x1 x2 x3 x4 : Int32} {K : Nat → Cm} (h : Rep A E ls nl nc nd S D) (hls : ls 2 = (List.range nc).map (fun c => A (500 + 5 * c))) (h8 : nc ≤ 8) (hx : ∀ c, c < nc → CmC (K c) c D ∧ CmK ns (K c))
    (kt1 : ¬ inR x1 nc → Ψ S "java/lang/IndexOutOfBoundsException") (kt2 : inR x1 nc → ¬ ((1 ≤ x2.toInt ∧ x2.toInt ≤ 24) ∧ (0 ≤ x3.toInt ∧ x3.toInt ≤ 99) ∧ (x4 = 117 ∨ x4 = 112)) → Ψ S "java/lang/IllegalArgumentException")
    (kt3 : ∀ c p, c < nc → p ≤ 24 → x1 = nI c → x2 = nI p → ((1 ≤ x2.toInt ∧ x2.toInt ≤ 24) ∧ (0 ≤ x3.toInt ∧ x3.toInt ≤ 99) ∧ (x4 = 117 ∨ x4 = 112)) → ¬ sumN (cmL (K c)) (cmN (K c)) + p ≤ 24 → Ψ S "java/lang/UnsupportedOperationException")
    (kk : ∀ c p hh w, c < nc → 1 ≤ p → p ≤ 24 → hh ≤ 99 → (w = 117 ∨ w = 112) → x1 = nI c → x2 = nI p → x3 = nI hh → x4 = nI w → sumN (cmL (K c)) (cmN (K c)) + p ≤ 24 → ∀ S' D', Rep A E ls nl nc nd S' D' → SamG (fun i r => (i = 69 ∨ i = 70) ∧ r = 500 + 5 * c) (fun r => r = 501 + 5 * c ∨ r = 502 + 5 * c ∨ r = 503 + 5 * c) (fun _ => False) D D' → CmC (cmApp (K c) p hh w) c D' → Φ S' (nI (sumN (cmL (K c)) (cmN (K c)) + p))) : wX7_segment S (A 0) x1 x2 x3 x4 Φ Ψ := by
  unfold wX7_segment wX7_segment_b0
  refine ⟨c_is h, p_camAt h hls h8 (fun c hc e => ⟨_, rfl, p_checkRange (fun a1 a2 => p_checkRange (fun b1 b2 => p_checkLaw (fun w hw ew => ?_) (fun q1 q2 => kt2 (by rw [e]; exact inR_nI hc (by omega)) (fun w => by rcases w.2.2 with w | w; exact q1 w; exact q2 w))) (fun q => kt2 (by rw [e]; exact inR_nI hc (by omega)) (fun w => q w.2.1))) (fun q => kt2 (by rw [e]; exact inR_nI hc (by omega)) (fun w => q w.1))⟩) kt1⟩
  obtain ⟨hC, hK⟩ := hx c hc
  obtain ⟨l0, l1, l2, l3, l4⟩ := cam_al (nl := nl) (nd := nd) hc
  have a1' : (1 : Int) ≤ x2.toInt := a1
  have a2' : x2.toInt ≤ 24 := a2
  have b1' : (0 : Int) ≤ x3.toInt := b1
  have b2' : x3.toInt ≤ 99 := b2
  obtain ⟨p, hp, ep⟩ := inR_ex (x := x2) (n := 25) ⟨by omega, by omega⟩ (by decide)
  obtain ⟨hh, hhh, eh⟩ := inR_ex (x := x3) (n := 100) ⟨b1', by omega⟩ (by decide)
  have p1 : 1 ≤ p := by
    rw [ep, nI_toInt (by omega)] at a1'
    omega
  have v70 : S.FI 70 (A (500 + 5 * c)) = nI (sumN (cmL (K c)) (cmN (K c))) := (rep_FI h 70 (by decide) l0).trans hC.2.2.1
  have sm := hK.2.1
  refine ⟨(cam_ h hc (by omega)).1, ?_⟩
  rw [v70]
  by_cases ct : sumN (cmL (K c)) (cmN (K c)) + p ≤ 24
  · have hn : cmN (K c) < 24 := by
      have := sumN_ge (f := cmL (K c)) (cmN (K c)) (fun j hj => (hK.2.2.1 j hj).1)
      omega
    rw [ep, nI_add]
    refine if_p (nI_le (b := 24) ct (by decide)) ?_
    rw [eh, ew]
    refine p_append h hc (by omega) hC hK hn hw (fun S' D' r' s' hC' => ⟨(cam_ r' hc (by omega)).1, ?_⟩)
    have w70 : S'.FI 70 (A (500 + 5 * c)) = nI (sumN (cmL (K c)) (cmN (K c)) + p) := (rep_FI r' 70 (by decide) l0).trans (by rw [hC'.2.2.1, sum_app])
    rw [w70]
    exact kk c p hh w hc p1 (by omega) (by omega) hw e ep eh ew ct S' D' r' s' hC'
  · refine if_n (fun q => ct ?_) (kt3 c p hc (by omega) e ep ⟨⟨a1', a2'⟩, ⟨b1', b2'⟩, by rw [ew]; rcases hw with hw | hw <;> rw [hw]; exact Or.inl rfl; exact Or.inr rfl⟩ ct)
    rw [ep, nI_add] at q
    exact (nI_leI (b := 24) (by omega) (by decide)).mp q
theorem p_clearC {Φ : Hp → Int32 → Prop} {Ψ : Hp → String → Prop} {ns : Nat} {x1 : Int32} {K : Nat → Cm} (h : Rep A E ls nl nc nd S D) (hls : ls 2 = (List.range nc).map (fun c => A (500 + 5 * c))) (h8 : nc ≤ 8) (hx : ∀ c, c < nc → CmC (K c) c D ∧ CmK ns (K c))
    (kt1 : ¬ inR x1 nc → Ψ S "java/lang/IndexOutOfBoundsException")
    (kk : ∀ c, c < nc → x1 = nI c → ∀ S' D', Rep A E ls nl nc nd S' D' → SamG (fun i r => (i = 69 ∨ i = 70) ∧ r = 500 + 5 * c) (fun _ => False) (fun _ => False) D D' → CmC (cmClr (K c)) c D' → Φ S' (nI (cmN (K c)))) : wX7_clear S (A 0) x1 Φ Ψ := by
  unfold wX7_clear wX7_clear_b0
  refine ⟨c_is h, p_camAt h hls h8 (fun c hc e => ⟨_, rfl, (cam_ h hc (by omega)).1, ?_⟩) kt1⟩
  obtain ⟨hC, hK⟩ := hx c hc
  obtain ⟨l0, l1, l2, l3, l4⟩ := cam_al (nl := nl) (nd := nd) hc
  refine p_empty h hc (by omega) hC (fun S' D' r' s' hC' => ?_)
  have v69 : S.FI 69 (A (500 + 5 * c)) = nI (cmN (K c)) := (rep_FI h 69 (by decide) l0).trans hC.2.1
  rw [v69]
  exact kk c hc e S' D' r' s' hC'
end KC9
