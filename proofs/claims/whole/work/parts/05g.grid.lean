/-! ARRAYS OF ARRAYS IN THE POOL -/
theorem va_nodup {A : Nat → Prop} {L : List Nat} {f : Nat → va_E} (h : va_D A ([] ++ va_pl L f)) : L.Nodup := by
  refine List.pairwise_iff_getElem.mpr (fun i j hi hj hij heq => ?_)
  have g : ∀ (k : Nat) (hk : k < L.length), (([] : va_W) ++ va_pl L f)[k]? = some (L[k], f L[k]) := fun k hk => by
    show (va_pl L f)[k]? = _
    unfold va_pl
    rw [List.getElem?_map, List.getElem?_eq_getElem hk]
    rfl
  have := h.1 i j _ _ (g i hi) (g j hj) heq
  omega
theorem ok_grow {G : Gw} {S S' : Hp} {H H1 : Heap} (hO : Ok G S H) (hb : G.b ≤ H.size) (hold : ∀ x : Nat, x < H.size → H1[x]? = H[x]?) {N : List Nat} (hL : S'.L = S.L ++ N) (hT : S'.T = S.T) (hf : ∀ a ∈ S.L, wF G.cy S' a = wF G.cy S a) (hN : N.Nodup) (hge : ∀ a ∈ N, H.size ≤ a) (hc : ∀ a ∈ N, va_at G.D vwCl (a, wF G.cy S' a) H1) : Ok G S' H1 := by
  have hlt : ∀ a ∈ S.L, a < H.size := fun a ha => by
    obtain ⟨k, hk⟩ := ok_get (G := G) ha
    exact (hO.1 k _ hk).lt
  have hP0 : va_P G.D vwCl (plW G S) H1 := hO.1.kept (fun k9 x hx => hold x.1 ((hO.1 k9 x hx).lt))
  have hget : ∀ (k : Nat) (q : Nat × va_E), (plW G S')[k]? = some q → ∃ a, S'.L[k]? = some a ∧ q = (a, wF G.cy S' a) := fun k q hq => by
    unfold plW va_pl at hq
    rw [List.nil_append, List.getElem?_map] at hq
    cases h9 : S'.L[k]? with
    | none => rw [h9] at hq; cases hq
    | some a => rw [h9] at hq; exact ⟨a, rfl, (Option.some.inj hq).symm⟩
  have hnd : S'.L.Nodup := by
    rw [hL]
    refine List.nodup_append.mpr ⟨va_nodup hO.2.1, hN, fun a ha b hb9 heq => ?_⟩
    have h1 := hlt a ha
    have h2 := hge b hb9
    omega
  refine ⟨fun k q hq => ?_, ⟨fun i j p q hi hj hpq => ?_, fun k q hq => ?_⟩, by rw [hT]; exact hO.2.2⟩
  · obtain ⟨a, ha, rfl⟩ := hget k q hq
    have hm := List.mem_of_getElem? ha
    rw [hL] at hm
    rcases List.mem_append.mp hm with hm | hm
    · obtain ⟨k0, hk0⟩ := ok_get (G := G) hm
      have := hP0 k0 _ hk0
      rw [hf a hm]
      exact this
    · exact hc a hm
  · obtain ⟨a, ha, rfl⟩ := hget i p hi
    obtain ⟨b, hb9, rfl⟩ := hget j q hj
    have e : a = b := hpq
    subst e
    exact (List.getElem?_inj (List.getElem?_eq_some_iff.mp ha).1 hnd).mp (ha.trans hb9.symm)
  · obtain ⟨a, ha, rfl⟩ := hget k q hq
    have hm := List.mem_of_getElem? ha
    rw [hL] at hm
    rcases List.mem_append.mp hm with hm | hm
    · obtain ⟨k0, hk0⟩ := ok_get (G := G) hm
      have h8 := hO.2.1.2 k0 _ hk0
      exact h8
    · exact Nat.le_trans hb (hge a hm)
/-- many new arrays of one kind -/
def Hp.news (S : Hp) (l : List Nat) (k n : Nat) : Hp := Hp.mk (S.L ++ l) (fun a => if a ∈ l then k else S.K a) (fun i a => if a ∈ l then 0 else S.FI i a) (fun i a => if a ∈ l then 0 else S.FJ i a) (fun i a => if a ∈ l then none else S.FR i a) (fun a => if a ∈ l then n else S.N a) (fun a => if a ∈ l then (fun _ => 0) else S.AI a) (fun a => if a ∈ l then (fun _ => 0) else S.AJ a) (fun a => if a ∈ l then (fun _ => 0) else S.AD a) (fun a => if a ∈ l then (fun _ => none) else S.AR a) S.T
def rowsL (r : Nat → Nat) (n : Nat) : List Nat := (List.range n).map r
def rowsR (r : Nat → Nat) (n : Nat) : Nat → Option Nat := fun i => if i < n then some (r i) else none
def Hp.putARs (S : Hp) (q2 : Nat → Nat) (g : Nat → Nat → Option Nat) : Nat → Hp
  | 0 => S
  | i + 1 => (S.putARs q2 g i).putAR (q2 i) (g i)
def fr2 (S : Hp) (q : Nat) (r : Nat → Nat) (n : Nat) : Prop := q ∉ S.L ∧ (∀ i, i < n → r i ∉ S.L ∧ r i ≠ q) ∧ (∀ i j, i < n → j < n → r i = r j → i = j)
def mk2 (S : Hp) (q : Nat) (r : Nat → Nat) (ko ke n k : Nat) : Hp := ((S.news (rowsL r n) ke k).new q ko n).putAR q (rowsR r n)
def rows2L (r : Nat → Nat → Nat) (a n : Nat) : List Nat := (List.range a).flatMap (fun i => rowsL (r i) n)
def fr3 (S : Hp) (q : Nat) (q2 : Nat → Nat) (r : Nat → Nat → Nat) (a n : Nat) : Prop := q ∉ S.L ∧ (∀ i, i < a → q2 i ∉ S.L ∧ q2 i ≠ q) ∧ (∀ i j, i < a → j < a → q2 i = q2 j → i = j) ∧ (∀ i j, i < a → j < n → r i j ∉ S.L ∧ r i j ≠ q ∧ ∀ k, k < a → r i j ≠ q2 k) ∧ (∀ i j i' j', i < a → j < n → i' < a → j' < n → r i j = r i' j' → i = i' ∧ j = j')
def mk3 (S : Hp) (q : Nat) (q2 : Nat → Nat) (r : Nat → Nat → Nat) (a n k : Nat) : Hp := (((((S.news (rows2L r a n) 23 k).news (rowsL q2 a) 28 n).putARs q2 (fun i => rowsR (r i) n) a)).new q 29 a).putAR q (rowsR q2 a)
theorem mem_rowsL {r : Nat → Nat} {n x : Nat} : x ∈ rowsL r n ↔ ∃ i, i < n ∧ r i = x := by
  unfold rowsL
  simp [List.mem_map]
theorem mem_rows2L {r : Nat → Nat → Nat} {a n x : Nat} : x ∈ rows2L r a n ↔ ∃ i j, i < a ∧ j < n ∧ r i j = x := by
  unfold rows2L
  simp only [List.mem_flatMap, List.mem_range, mem_rowsL]
  constructor
  · rintro ⟨i, hi, j, hj, e⟩; exact ⟨i, j, hi, hj, e⟩
  · rintro ⟨i, j, hi, hj, e⟩; exact ⟨i, hi, j, hj, e⟩
theorem news_ne {cy : Nat → ClassId} {S : Hp} {l : List Nat} {k n b : Nat} (h : b ∉ l) : wF cy (S.news l k n) b = wF cy S b :=
  wF_ne (if_neg h) (fun i => if_neg h) (fun i => if_neg h) (fun i => if_neg h) (if_neg h) (if_neg h) (if_neg h) (if_neg h) (if_neg h)
theorem new_ne {cy : Nat → ClassId} {S : Hp} {q k n b : Nat} (h : b ≠ q) : wF cy (S.new q k n) b = wF cy S b :=
  wF_ne (va_up_ne _ _ h) (fun i => if_neg h) (fun i => if_neg h) (fun i => if_neg h) (va_up_ne _ _ h) (va_up_ne _ _ h) (va_up_ne _ _ h) (va_up_ne _ _ h) (va_up_ne _ _ h)
theorem putAR_ne {cy : Nat → ClassId} {S : Hp} {q b : Nat} {f : Nat → Option Nat} (h : b ≠ q) : wF cy (S.putAR q f) b = wF cy S b :=
  wF_ne rfl (fun i => rfl) (fun i => rfl) (fun i => rfl) rfl rfl rfl rfl (va_up_ne _ _ h)
theorem putARs_ne {cy : Nat → ClassId} {S : Hp} {q2 : Nat → Nat} {g : Nat → Nat → Option Nat} {b : Nat} : ∀ n, (∀ i, i < n → b ≠ q2 i) → wF cy (S.putARs q2 g n) b = wF cy S b
  | 0, _ => rfl
  | n + 1, h => (putAR_ne (h n (Nat.lt_succ_self n))).trans (putARs_ne n (fun i hi => h i (Nat.lt_succ_of_lt hi)))
theorem putARs_L {S : Hp} {q2 : Nat → Nat} {g : Nat → Nat → Option Nat} : ∀ n, (S.putARs q2 g n).L = S.L
  | 0 => rfl
  | n + 1 => putARs_L (S := S) (q2 := q2) (g := g) n
theorem putARs_K {S : Hp} {q2 : Nat → Nat} {g : Nat → Nat → Option Nat} : ∀ n, (S.putARs q2 g n).K = S.K
  | 0 => rfl
  | n + 1 => putARs_K (S := S) (q2 := q2) (g := g) n
theorem putARs_N {S : Hp} {q2 : Nat → Nat} {g : Nat → Nat → Option Nat} : ∀ n, (S.putARs q2 g n).N = S.N
  | 0 => rfl
  | n + 1 => putARs_N (S := S) (q2 := q2) (g := g) n
theorem putARs_T {S : Hp} {q2 : Nat → Nat} {g : Nat → Nat → Option Nat} : ∀ n, (S.putARs q2 g n).T = S.T
  | 0 => rfl
  | n + 1 => putARs_T (S := S) (q2 := q2) (g := g) n
theorem putARs_AI {S : Hp} {q2 : Nat → Nat} {g : Nat → Nat → Option Nat} : ∀ n, (S.putARs q2 g n).AI = S.AI
  | 0 => rfl
  | n + 1 => putARs_AI (S := S) (q2 := q2) (g := g) n
theorem putARs_at {S : Hp} {q2 : Nat → Nat} {g : Nat → Nat → Option Nat} : ∀ n, (∀ i j, i < n → j < n → q2 i = q2 j → i = j) → ∀ i, i < n → (S.putARs q2 g n).AR (q2 i) = g i
  | 0, _, _, h => absurd h (Nat.not_lt_zero _)
  | n + 1, hinj, i, hi => by
    show va_up (S.putARs q2 g n).AR (q2 n) (g n) (q2 i) = g i
    by_cases e : i = n
    · subst e
      exact va_up_self _ _ _
    · rw [va_up_ne _ _ (fun h9 => e (hinj i n hi (Nat.lt_succ_self n) h9))]
      exact putARs_at n (fun i j hi hj => hinj i j (Nat.lt_succ_of_lt hi) (Nat.lt_succ_of_lt hj)) i (by omega)
theorem wF_zero {cy : Nat → ClassId} {S : Hp} {b k n : Nat} (hK : S.K b = k) (hk : k = 20 ∨ k = 21 ∨ k = 23) (hN : S.N b = n) (hA : S.AI b = fun _ => 0) : wF cy S b = .inl (cy k, (n, .inl (fun _ => 0))) := by
  rw [wF_arr hK (by omega), hN]
  unfold aval
  rcases hk with rfl | rfl | rfl
  · rw [if_pos (by decide), hA]
  · rw [if_pos (by decide), hA]
  · rw [if_neg (by decide), if_neg (by decide), if_pos rfl, hA]
theorem wF_refs {cy : Nat → ClassId} {S : Hp} {b k n : Nat} {f : Nat → Option Nat} (hK : S.K b = k) (hk : 24 < k) (hN : S.N b = n) (hA : S.AR b = f) : wF cy S b = .inl (cy k, (n, .inr (.inr (.inr (.inr f))))) := by
  rw [wF_arr hK (by omega), hN]
  unfold aval
  rw [if_neg (by omega), if_neg (by omega), if_neg (by omega), if_neg (by omega), hA]
theorem mk2_isA {S : Hp} {q : Nat} {r : Nat → Nat} {ko ke n k : Nat} : isA (mk2 S q r ko ke n k) q ko := ⟨List.mem_append_right _ List.mem_cons_self, va_up_self _ _ _⟩
theorem mk3_isA {S : Hp} {q : Nat} {q2 : Nat → Nat} {r : Nat → Nat → Nat} {a n k : Nat} : isA (mk3 S q q2 r a n k) q 29 := ⟨List.mem_append_right _ List.mem_cons_self, va_up_self _ _ _⟩
theorem mk2_old {S : Hp} {q : Nat} {r : Nat → Nat} {ko ke n k b k2 : Nat} (hf : fr2 S q r n) (h : isA S b k2) : isA (mk2 S q r ko ke n k) b k2 := by
  have hq : b ≠ q := fun e => hf.1 (e ▸ h.1)
  have hr : b ∉ rowsL r n := fun e => by
    obtain ⟨i, hi, e⟩ := mem_rowsL.mp e
    exact (hf.2.1 i hi).1 (e ▸ h.1)
  exact ⟨List.mem_append_left _ (List.mem_append_left _ h.1), (va_up_ne _ _ hq).trans ((if_neg hr).trans h.2)⟩
theorem mk3_old {S : Hp} {q : Nat} {q2 : Nat → Nat} {r : Nat → Nat → Nat} {a n k b k2 : Nat} (hf : fr3 S q q2 r a n) (h : isA S b k2) : isA (mk3 S q q2 r a n k) b k2 := by
  have hq : b ≠ q := fun e => hf.1 (e ▸ h.1)
  have h1 : b ∉ rowsL q2 a := fun e => by
    obtain ⟨i, hi, e⟩ := mem_rowsL.mp e
    exact (hf.2.1 i hi).1 (e ▸ h.1)
  have h2 : b ∉ rows2L r a n := fun e => by
    obtain ⟨i, j, hi, hj, e⟩ := mem_rows2L.mp e
    exact (hf.2.2.2.1 i j hi hj).1 (e ▸ h.1)
  refine ⟨List.mem_append_left _ ?_, (va_up_ne _ _ hq).trans ?_⟩
  · rw [putARs_L]
    exact List.mem_append_left _ (List.mem_append_left _ h.1)
  · rw [putARs_K]
    exact (if_neg h1).trans ((if_neg h2).trans h.2)
theorem nodup_rowsL {r : Nat → Nat} {n : Nat} (h : ∀ i j, i < n → j < n → r i = r j → i = j) : (rowsL r n).Nodup := by
  unfold rowsL
  refine List.pairwise_iff_getElem.mpr (fun i j hi hj hij heq => ?_)
  simp only [List.length_map, List.length_range] at hi hj
  simp only [List.getElem_map, List.getElem_range] at heq
  have := h i j hi hj heq
  omega
theorem nodup_rows2L {r : Nat → Nat → Nat} {n : Nat} : ∀ {a : Nat}, (∀ i j i' j', i < a → j < n → i' < a → j' < n → r i j = r i' j' → i = i' ∧ j = j') → (rows2L r a n).Nodup
  | 0, _ => List.nodup_nil
  | a + 1, h => by
    unfold rows2L
    rw [List.range_succ, List.flatMap_append, List.nodup_append]
    refine ⟨nodup_rows2L (fun i j i' j' hi hj hi' hj' => h i j i' j' (Nat.lt_succ_of_lt hi) hj (Nat.lt_succ_of_lt hi') hj'), ?_, ?_⟩
    · rw [List.flatMap_cons, List.flatMap_nil, List.append_nil]
      exact nodup_rowsL (fun i j hi hj e => (h a i a j (Nat.lt_succ_self a) hi (Nat.lt_succ_self a) hj e).2)
    · intro x hx y hy e
      rw [List.flatMap_cons, List.flatMap_nil, List.append_nil] at hy
      obtain ⟨i, j, hi, hj, e1⟩ := mem_rows2L.mp hx
      obtain ⟨j2, hj2, e2⟩ := mem_rowsL.mp hy
      have := (h i j a j2 (Nat.lt_succ_of_lt hi) hj (Nat.lt_succ_self a) hj2 (e1.trans (e.trans e2.symm))).1
      omega
section PGD
variable {p : Program} {l : Launch} {e : Env} {R : Room} {s : State} {m : MethodId} {args : Array Value} {below : List Frame} {meth : Method} {c : Code} {H : Heap} {locs : List Loc} {cells slots : Nat} {Q : State → Prop}
variable {cc : ByteArray} {pc : Nat} {ls : Array Slot} {rest : List Value} {G : Gw} {S : Hp} {nL : Nat} {own : String}
theorem n_mna2 {ko ke to te n k index : Nat} {ty : FieldType} {nm : String} (C0 : Mx p s m c cc nL args own G) (hO : Ok G S H) (hS : va_S (Ab G.b) s.heap H locs) (hto : (vTy G.cy)[to]? = some (G.cy ko, .array ty)) (hte : (vTy G.cy)[te]? = some (G.cy ke, ty)) (hno : ∀ C, ty ≠ .object C) (hko : 24 < ko) (hke : ke = 20 ∨ ke = 21 ∨ ke = 23) (hg : ty ∈ gridTys) (hnm : nm = "[" ++ (FieldType.array ty).toString) (hts : (FieldType.array ty).toString = "[" ++ ty.toString)
    (hdf : defaultValue ty = .int 0) (hfi : fits ty (.int 0) = true) (hcb : componentBytes ty ≤ 8) (t1 : Cond.classLink own index nm ∈ lw_good) (hn6 : n ≤ 64) (hk6 : k ≤ 64) (hcells : cells + (1 + n) ≤ R.cells) (hslots : slots + (n + n * k) ≤ R.slots) (hdg : decode cc pc = .ok (.multianewarray index 2, 4))
    (kk : ∀ (q : Nat) (r : Nat → Nat) (H1 : Heap), fr2 S q r n → Ok G (mk2 S q r ko ke n k) H1 → va_S (Ab G.b) s.heap H1 locs → W p l e R s m args below meth c H1 locs (cells + (1 + n)) (slots + (n + n * k)) Q (F0 m (pc + 4) ls (.ref q :: rest))) : W p l e R s m args below meth c H locs cells slots Q (F0 m pc ls (.int (nI k) :: .int (nI n) :: rest)) := by
  obtain ⟨hx, hb, hml, hown, hts9, hK, hE, hbl⟩ := id C0
  intro T hT X
  obtain ⟨comp, cA, kA, hcomp, hkA, hkindA, hnameA⟩ := hE.2.2.2.2.2.2.2.2.2.2.2 ty hg
  have h26 : s.vm.findClass ("[" ++ (FieldType.array ty).toString) = some (G.cy ko) := (hK.2 to _ hto).2
  cases Option.some.inj (hnameA.symm.trans h26)
  have h21 : s.vm.findClass ("[" ++ ty.toString) = some (G.cy ke) := by
    have h1 := (hK.2 te _ hte).2
    cases ty with
    | object C => exact absurd rfl (hno C)
    | _ => exact h1
  rw [hts] at hcomp
  cases Option.some.inj (hcomp.symm.trans h21)
  obtain ⟨-, kC, hkC, cc3, hkindC⟩ := (hK.2 te _ hte).1 0 (fun _ => .null)
  have e9 : (nI n).toNatClampNeg = n := nI_clamp (by omega)
  have e8 : (nI k).toNatClampNeg = k := nI_clamp (by omega)
  obtain ⟨vm₁, hwarm, XF, step⟩ := gr_stand2 X hx hown (hts9 _ t1) (hnm ▸ hnameA) hkA hkindA rfl hkC hkindC (by show (4 : Nat) ≤ 8; decide) hcb (g := F0 m pc ls (.int (nI k) :: .int (nI n) :: rest)) rfl (by rw [hb]; exact hdg) rfl (nI_pos (by omega)) (nI_pos (by omega)) (by rw [e9]; exact hn6) (by rw [e8]; exact hk6) (by rw [hdf]; exact hfi) (by rw [hdf]; rfl) (by rw [e9]; exact hcells) (by rw [e9, e8]; exact hslots)
  rw [e9, e8] at XF step
  obtain ⟨f1, f2, -, -⟩ := Jvm.Free.Multi.fill_facts (T.setVm vm₁) (G.cy ko) (G.cy ke) n k (defaultValue ty) n
  have fin := Jvm.Free.Multi.fill_inner (T.setVm vm₁) (G.cy ko) (G.cy ke) n k (defaultValue ty) n
  have fold : ∀ x : Nat, x < H.size → (Jvm.Free.Multi.fill (T.setVm vm₁) (G.cy ko) (G.cy ke) n k (defaultValue ty) n).heap[x]? = H[x]? := fun x hx9 => by
    have := Jvm.Free.Multi.fill_old (T.setVm vm₁) (G.cy ko) (G.cy ke) n k (defaultValue ty) (a := x) (by show x < T.heap.size; rw [hT]; exact hx9) n
    rw [this]
    show T.heap[x]? = _
    rw [hT]
  have hsz : (T.setVm vm₁).heap.size = H.size := by show T.heap.size = _; rw [hT]
  rw [hsz] at f1 f2 fin
  generalize hF : Jvm.Free.Multi.fill (T.setVm vm₁) (G.cy ko) (G.cy ke) n k (defaultValue ty) n = F at XF step f1 f2 fin fold
  have hge : G.b ≤ H.size := Nat.le_trans hbl hS.1
  have hlt : ∀ a ∈ S.L, a < H.size := fun a ha => by
    obtain ⟨k9, hk9⟩ := ok_get (G := G) ha
    exact (hO.1 k9 _ hk9).lt
  have hfr : fr2 S H.size (fun i => H.size + 1 + i) n := ⟨fun h9 => absurd (hlt _ h9) (Nat.lt_irrefl _), fun i _ => ⟨fun h9 => by have h8 : H.size + 1 + i < H.size := hlt _ h9; omega, by show H.size + 1 + i ≠ H.size; omega⟩, fun i j _ _ h9 => by have h8 : H.size + 1 + i = H.size + 1 + j := h9; omega⟩
  have hOk : Ok G (mk2 S H.size (fun i => H.size + 1 + i) ko ke n k) F.heap := by
    refine ok_grow (N := rowsL (fun i => H.size + 1 + i) n ++ [H.size]) hO hge fold (List.append_assoc _ _ _) rfl (fun a ha => ?_) ?_ (fun a ha => ?_) (fun a ha => ?_)
    · have h1 : a ≠ H.size := Nat.ne_of_lt (hlt a ha)
      have h2 : a ∉ rowsL (fun i => H.size + 1 + i) n := fun h9 => by
        obtain ⟨i, hi, h9⟩ := mem_rowsL.mp h9
        have := hlt a ha
        omega
      exact (putAR_ne h1).trans ((new_ne h1).trans (news_ne h2))
    · refine List.nodup_append.mpr ⟨nodup_rowsL (fun i j _ _ h9 => by omega), List.nodup_cons.mpr ⟨List.not_mem_nil, List.nodup_nil⟩, fun a ha b hb9 h9 => ?_⟩
      obtain ⟨i, hi, h8⟩ := mem_rowsL.mp ha
      rw [List.mem_singleton] at hb9
      omega
    · rcases List.mem_append.mp ha with h9 | h9
      · obtain ⟨i, hi, h8⟩ := mem_rowsL.mp h9
        omega
      · rw [List.mem_singleton] at h9
        omega
    · rcases List.mem_append.mp ha with h9 | h9
      · obtain ⟨i, hi, rfl⟩ := mem_rowsL.mp h9
        have h1 : H.size + 1 + i ≠ H.size := by omega
        have hw : wF G.cy (mk2 S H.size (fun i => H.size + 1 + i) ko ke n k) (H.size + 1 + i) = .inl (G.cy ke, (k, .inl (fun _ => 0))) := by
          refine (putAR_ne h1).trans ((new_ne h1).trans (wF_zero (if_pos h9) hke (if_pos h9) (if_pos h9)))
        rw [hw]
        show F.heap[H.size + 1 + i]? = some (vp_cell (G.cy ke) (k, .inl (fun _ => 0)))
        rw [fin i hi, hdf]
        exact congrArg some (arrV_new _ _ _)
      · rw [List.mem_singleton] at h9
        subst h9
        have hw : wF G.cy (mk2 S H.size (fun i => H.size + 1 + i) ko ke n k) H.size = .inl (G.cy ko, (n, .inr (.inr (.inr (.inr (rowsR (fun i => H.size + 1 + i) n)))))) :=
          wF_refs (va_up_self _ _ _) hko (va_up_self _ _ _) (va_up_self _ _ _)
        rw [hw]
        show F.heap[H.size]? = some (vp_cell (G.cy ko) (n, .inr (.inr (.inr (.inr (rowsR (fun i => H.size + 1 + i) n))))))
        rw [f2, vr_outer, vp_cell_q]
        rfl
  have hS1 : va_S (Ab G.b) s.heap F.heap locs := ⟨by rw [f1]; exact Nat.le_trans hS.1 (by omega), fun q hq hA => by rw [fold q (Nat.lt_of_lt_of_le hq hS.1)]; exact hS.2.1 q hq hA, hS.2.2⟩
  have XF' : Stand p l e R s m args below meth c F locs (cells + (1 + n)) (slots + (n + n * k)) := by
    rw [← Nat.add_assoc, ← Nat.add_assoc]
    exact XF
  obtain ⟨t, a1, b1⟩ := kk H.size (fun i => H.size + 1 + i) F.heap hfr hOk hS1 F rfl XF'
  refine ⟨t, step _ ?_, b1⟩
  rw [hT]
  exact a1
theorem n_mna3 {n k j index : Nat} (C0 : Mx p s m c cc nL args own G) (hO : Ok G S H) (hS : va_S (Ab G.b) s.heap H locs) (t1 : Cond.classLink own index "[[[Z" ∈ lw_good) (hn6 : n ≤ 64) (hk6 : k ≤ 64) (hj6 : j ≤ 64) (hcells : cells + (1 + n + n * k) ≤ R.cells) (hslots : slots + (n + n * k + n * k * j) ≤ R.slots) (hdg : decode cc pc = .ok (.multianewarray index 3, 4))
    (kk : ∀ (q : Nat) (q2 : Nat → Nat) (r : Nat → Nat → Nat) (H1 : Heap), fr3 S q q2 r n k → Ok G (mk3 S q q2 r n k j) H1 → va_S (Ab G.b) s.heap H1 locs → W p l e R s m args below meth c H1 locs (cells + (1 + n + n * k)) (slots + (n + n * k + n * k * j)) Q (F0 m (pc + 4) ls (.ref q :: rest))) : W p l e R s m args below meth c H locs cells slots Q (F0 m pc ls (.int (nI j) :: .int (nI k) :: .int (nI n) :: rest)) := by
  obtain ⟨hx, hb, hml, hown, hts9, hK, hE, hbl⟩ := id C0
  intro T hT X
  obtain ⟨comp, cA, kA, hcomp, hkA, hkindA, hnameA⟩ := hE.2.2.2.2.2.2.2.2.2.2.2 (.array .boolean) (by decide)
  obtain ⟨comp2, cB, kB, hcomp2, hkB, hkindB, hnameB⟩ := hE.2.2.2.2.2.2.2.2.2.2.2 .boolean (by decide)
  have h29 : s.vm.findClass "[[[Z" = some (G.cy 29) := (hK.2 9 (G.cy 29, .array (.array .boolean)) rfl).2
  have h28 : s.vm.findClass "[[Z" = some (G.cy 28) := (hK.2 8 (G.cy 28, .array .boolean) rfl).2
  have h23 : s.vm.findClass "[Z" = some (G.cy 23) := (hK.2 3 (G.cy 23, .boolean) rfl).2
  have g1 : s.vm.findClass "[[[Z" = some cA := hnameA
  have g2 : s.vm.findClass "[[Z" = some comp := hcomp
  have g3 : s.vm.findClass "[[Z" = some cB := hnameB
  have g4 : s.vm.findClass "[Z" = some comp2 := hcomp2
  cases Option.some.inj (g1.symm.trans h29)
  cases Option.some.inj (g2.symm.trans h28)
  cases Option.some.inj (g3.symm.trans h28)
  cases Option.some.inj (g4.symm.trans h23)
  obtain ⟨-, kC, hkC, cc3, hkindC⟩ := (hK.2 3 (G.cy 23, .boolean) rfl).1 0 (fun _ => .null)
  have e9 : (nI n).toNatClampNeg = n := nI_clamp (by omega)
  have e8 : (nI k).toNatClampNeg = k := nI_clamp (by omega)
  have e7 : (nI j).toNatClampNeg = j := nI_clamp (by omega)
  have ec : 1 + n * (1 + k) = 1 + n + n * k := by rw [Nat.mul_add, Nat.mul_one]; omega
  have es : n + n * (k + k * j) = n + n * k + n * k * j := by rw [Nat.mul_add, Nat.mul_assoc]; omega
  obtain ⟨vm₁, hwarm, XF, step⟩ := gr_stand3 X hx hown (hts9 _ t1) hnameA hkA hkindA rfl hkB hkindB rfl hkC hkindC (by show (4 : Nat) ≤ 8; decide) (by show (4 : Nat) ≤ 8; decide) (show componentBytes FieldType.boolean ≤ 8 by decide) (g := F0 m pc ls (.int (nI j) :: .int (nI k) :: .int (nI n) :: rest)) rfl (by rw [hb]; exact hdg) rfl (nI_pos (by omega)) (nI_pos (by omega)) (nI_pos (by omega)) (by rw [e9]; exact hn6) (by rw [e8]; exact hk6) (by rw [e7]; exact hj6) rfl rfl (by rw [e9, e8, ec]; exact hcells) (by rw [e9, e8, e7, es]; exact hslots)
  rw [e9, e8, e7] at XF step
  obtain ⟨f1, f2, -, -⟩ := gr_facts (T.setVm vm₁) (G.cy 29) (G.cy 28) (G.cy 23) n k j (defaultValue .boolean) n
  have fmid := gr_mid (T.setVm vm₁) (G.cy 29) (G.cy 28) (G.cy 23) n k j (defaultValue .boolean) n
  have fin := gr_in (T.setVm vm₁) (G.cy 29) (G.cy 28) (G.cy 23) n k j (defaultValue .boolean) n
  have fold : ∀ x : Nat, x < H.size → (gr_fill (T.setVm vm₁) (G.cy 29) (G.cy 28) (G.cy 23) n k j (defaultValue .boolean) n).heap[x]? = H[x]? := fun x hx9 => by
    have := gr_old (T.setVm vm₁) (G.cy 29) (G.cy 28) (G.cy 23) n k j (defaultValue .boolean) (a := x) (by show x < T.heap.size; rw [hT]; exact hx9) n
    rw [this]
    show T.heap[x]? = _
    rw [hT]
  have hsz : (T.setVm vm₁).heap.size = H.size := by show T.heap.size = _; rw [hT]
  rw [hsz] at f1 f2 fin fmid
  generalize hF : gr_fill (T.setVm vm₁) (G.cy 29) (G.cy 28) (G.cy 23) n k j (defaultValue .boolean) n = F at XF step f1 f2 fin fmid fold
  have hge : G.b ≤ H.size := Nat.le_trans hbl hS.1
  have hlt : ∀ a ∈ S.L, a < H.size := fun a ha => by
    obtain ⟨k9, hk9⟩ := ok_get (G := G) ha
    exact (hO.1 k9 _ hk9).lt
  obtain ⟨q2, hq2⟩ : ∃ q2 : Nat → Nat, q2 = fun i => H.size + 1 + i * (1 + k) := ⟨_, rfl⟩
  obtain ⟨r, hr⟩ : ∃ r : Nat → Nat → Nat, r = fun i z => H.size + 1 + i * (1 + k) + 1 + z := ⟨_, rfl⟩
  have q2e : ∀ i, q2 i = H.size + 1 + i * (1 + k) := fun i => by rw [hq2]
  have re : ∀ i z, r i z = q2 i + 1 + z := fun i z => by rw [hr, hq2]
  have hap : ∀ i i', i < i' → q2 i + (1 + k) ≤ q2 i' := fun i i' h9 => by
    have := gr_lt (N := k) h9
    rw [q2e, q2e]
    omega
  have hq2g : ∀ i, H.size < q2 i := fun i => by rw [q2e]; omega
  have hinj2 : ∀ i j, q2 i = q2 j → i = j := fun i j h9 => by
    rcases Nat.lt_trichotomy i j with h | h | h
    · have := hap i j h; omega
    · exact h
    · have := hap j i h; omega
  have hrq : ∀ i z i', z < k → r i z ≠ q2 i' := fun i z i' hz h9 => by
    rw [re] at h9
    rcases Nat.lt_trichotomy i i' with h | h | h
    · have := hap i i' h; omega
    · subst h; omega
    · have := hap i' i h; omega
  have hrr : ∀ i z i' z', z < k → z' < k → r i z = r i' z' → i = i' ∧ z = z' := fun i z i' z' hz hz' h9 => by
    rw [re, re] at h9
    rcases Nat.lt_trichotomy i i' with h | h | h
    · have := hap i i' h; omega
    · subst h; omega
    · have := hap i' i h; omega
  have hfr : fr3 S H.size q2 r n k := ⟨fun h9 => absurd (hlt _ h9) (Nat.lt_irrefl _), fun i _ => ⟨fun h9 => by have := hlt _ h9; have := hq2g i; omega, by have := hq2g i; omega⟩, fun i j _ _ h9 => hinj2 i j h9,
    fun i z _ hz => ⟨fun h9 => by have := hlt _ h9; rw [re] at this; have := hq2g i; omega, by rw [re]; have := hq2g i; omega, fun i' _ => hrq i z i' hz⟩, fun i z i' z' _ hz _ hz' h9 => hrr i z i' z' hz hz' h9⟩
  have hOk : Ok G (mk3 S H.size q2 r n k j) F.heap := by
    refine ok_grow (N := rows2L r n k ++ (rowsL q2 n ++ [H.size])) hO hge fold ?_ ?_ (fun a ha => ?_) ?_ (fun a ha => ?_) (fun a ha => ?_)
    · show (((S.news (rows2L r n k) 23 j).news (rowsL q2 n) 28 k).putARs q2 (fun i => rowsR (r i) k) n).L ++ [H.size] = _
      rw [putARs_L]
      show ((S.L ++ rows2L r n k) ++ rowsL q2 n) ++ [H.size] = _
      simp only [List.append_assoc]
    · show (((S.news (rows2L r n k) 23 j).news (rowsL q2 n) 28 k).putARs q2 (fun i => rowsR (r i) k) n).T = _
      rw [putARs_T]
      rfl
    · have h9 := hlt a ha
      have h1 : a ≠ H.size := Nat.ne_of_lt h9
      have h2 : a ∉ rowsL q2 n := fun h8 => by
        obtain ⟨i, hi, h8⟩ := mem_rowsL.mp h8
        have := hq2g i
        omega
      have h3 : a ∉ rows2L r n k := fun h8 => by
        obtain ⟨i, z, hi, hz, h8⟩ := mem_rows2L.mp h8
        rw [re] at h8
        have := hq2g i
        omega
      exact (putAR_ne h1).trans ((new_ne h1).trans ((putARs_ne n (fun i hi h8 => h2 (mem_rowsL.mpr ⟨i, hi, h8.symm⟩))).trans ((news_ne h2).trans (news_ne h3))))
    · refine List.nodup_append.mpr ⟨nodup_rows2L (fun i z i' z' _ hz _ hz' h9 => hrr i z i' z' hz hz' h9), List.nodup_append.mpr ⟨nodup_rowsL (fun i j _ _ h9 => hinj2 i j h9), List.nodup_cons.mpr ⟨List.not_mem_nil, List.nodup_nil⟩, fun a ha b hb9 h9 => ?_⟩, fun a ha b hb9 h9 => ?_⟩
      · obtain ⟨i, hi, h8⟩ := mem_rowsL.mp ha
        rw [List.mem_singleton] at hb9
        have := hq2g i
        omega
      · obtain ⟨i, z, hi, hz, h8⟩ := mem_rows2L.mp ha
        rcases List.mem_append.mp hb9 with h7 | h7
        · obtain ⟨i2, hi2, h7⟩ := mem_rowsL.mp h7
          exact hrq i z i2 hz (h8.trans (h9.trans h7.symm))
        · rw [List.mem_singleton] at h7
          rw [re] at h8
          have := hq2g i
          omega
    · rcases List.mem_append.mp ha with h9 | h9
      · obtain ⟨i, z, hi, hz, h8⟩ := mem_rows2L.mp h9
        rw [re] at h8
        have := hq2g i
        omega
      · rcases List.mem_append.mp h9 with h9 | h9
        · obtain ⟨i, hi, h8⟩ := mem_rowsL.mp h9
          have := hq2g i
          omega
        · rw [List.mem_singleton] at h9
          omega
    · rcases List.mem_append.mp ha with h9 | h9
      · obtain ⟨i, z, hi, hz, h8⟩ := mem_rows2L.mp h9
        have h1 : a ≠ H.size := by rw [re] at h8; have := hq2g i; omega
        have h2 : ∀ i', i' < n → a ≠ q2 i' := fun i' _ h7 => hrq i z i' hz (h8.trans h7)
        have h3 : a ∉ rowsL q2 n := fun h7 => by
          obtain ⟨i', hi', h7⟩ := mem_rowsL.mp h7
          exact h2 i' hi' h7.symm
        have hw : wF G.cy (mk3 S H.size q2 r n k j) a = .inl (G.cy 23, (j, .inl (fun _ => 0))) :=
          (putAR_ne h1).trans ((new_ne h1).trans ((putARs_ne n h2).trans ((news_ne h3).trans (wF_zero (if_pos h9) (Or.inr (Or.inr rfl)) (if_pos h9) (if_pos h9)))))
        rw [hw]
        show F.heap[a]? = some (vp_cell (G.cy 23) (j, .inl (fun _ => 0)))
        rw [← h8, hr]
        show F.heap[H.size + 1 + i * (1 + k) + 1 + z]? = _
        rw [fin i z hi hz]
        exact congrArg some (arrV_new _ _ _)
      · rcases List.mem_append.mp h9 with h9 | h9
        · obtain ⟨i, hi, h8⟩ := mem_rowsL.mp h9
          have h1 : a ≠ H.size := by have := hq2g i; omega
          have hw : wF G.cy (mk3 S H.size q2 r n k j) a = .inl (G.cy 28, (k, .inr (.inr (.inr (.inr (rowsR (r i) k)))))) := by
            refine (putAR_ne h1).trans ((new_ne h1).trans (wF_refs ?_ (by decide) ?_ ?_))
            · rw [putARs_K]
              exact if_pos h9
            · rw [putARs_N]
              exact if_pos h9
            · rw [← h8]
              exact putARs_at n (fun i j _ _ h9 => hinj2 i j h9) i hi
          rw [hw]
          show F.heap[a]? = some (vp_cell (G.cy 28) (k, .inr (.inr (.inr (.inr (rowsR (r i) k))))))
          rw [← h8, q2e, fmid i hi, vr_outer, vp_cell_q, hr]
          rfl
        · rw [List.mem_singleton] at h9
          subst h9
          have hw : wF G.cy (mk3 S H.size q2 r n k j) H.size = .inl (G.cy 29, (n, .inr (.inr (.inr (.inr (rowsR q2 n)))))) :=
            wF_refs (va_up_self _ _ _) (by decide) (va_up_self _ _ _) (va_up_self _ _ _)
          rw [hw]
          show F.heap[H.size]? = some (vp_cell (G.cy 29) (n, .inr (.inr (.inr (.inr (rowsR q2 n))))))
          rw [f2, gr_slot, vp_cell_q, hq2]
          rfl
  have hS1 : va_S (Ab G.b) s.heap F.heap locs := ⟨by rw [f1]; exact Nat.le_trans hS.1 (by omega), fun q hq hA => by rw [fold q (Nat.lt_of_lt_of_le hq hS.1)]; exact hS.2.1 q hq hA, hS.2.2⟩
  have XF' : Stand p l e R s m args below meth c F locs (cells + (1 + n + n * k)) (slots + (n + n * k + n * k * j)) := by
    rw [← ec, ← es, ← Nat.add_assoc, ← Nat.add_assoc]
    exact XF
  obtain ⟨t, a1, b1⟩ := kk H.size q2 r F.heap hfr hOk hS1 F rfl XF'
  refine ⟨t, step _ ?_, b1⟩
  rw [hT]
  exact a1
theorem n_mna2_int {n k index : Nat} (C0 : Mx p s m c cc nL args own G) (hO : Ok G S H) (hS : va_S (Ab G.b) s.heap H locs) (t1 : Cond.classLink own index "[[I" ∈ lw_good) (hn6 : n ≤ 64) (hk6 : k ≤ 64) (hcells : cells + (1 + n) ≤ R.cells) (hslots : slots + (n + n * k) ≤ R.slots) (hdg : decode cc pc = .ok (.multianewarray index 2, 4))
    (kk : ∀ (q : Nat) (r : Nat → Nat) (H1 : Heap), fr2 S q r n → Ok G (mk2 S q r 26 21 n k) H1 → va_S (Ab G.b) s.heap H1 locs → W p l e R s m args below meth c H1 locs (cells + (1 + n)) (slots + (n + n * k)) Q (F0 m (pc + 4) ls (.ref q :: rest))) : W p l e R s m args below meth c H locs cells slots Q (F0 m pc ls (.int (nI k) :: .int (nI n) :: rest)) :=
  n_mna2 (ko := 26) (ke := 21) (to := 6) (te := 1) (ty := .int) C0 hO hS rfl rfl (fun C h => by cases h) (by decide) (Or.inr (Or.inl rfl)) (by decide) rfl rfl rfl rfl (by decide) t1 hn6 hk6 hcells hslots hdg kk
theorem n_mna2_char {n k index : Nat} (C0 : Mx p s m c cc nL args own G) (hO : Ok G S H) (hS : va_S (Ab G.b) s.heap H locs) (t1 : Cond.classLink own index "[[C" ∈ lw_good) (hn6 : n ≤ 64) (hk6 : k ≤ 64) (hcells : cells + (1 + n) ≤ R.cells) (hslots : slots + (n + n * k) ≤ R.slots) (hdg : decode cc pc = .ok (.multianewarray index 2, 4))
    (kk : ∀ (q : Nat) (r : Nat → Nat) (H1 : Heap), fr2 S q r n → Ok G (mk2 S q r 27 20 n k) H1 → va_S (Ab G.b) s.heap H1 locs → W p l e R s m args below meth c H1 locs (cells + (1 + n)) (slots + (n + n * k)) Q (F0 m (pc + 4) ls (.ref q :: rest))) : W p l e R s m args below meth c H locs cells slots Q (F0 m pc ls (.int (nI k) :: .int (nI n) :: rest)) :=
  n_mna2 (ko := 27) (ke := 20) (to := 7) (te := 0) (ty := .char) C0 hO hS rfl rfl (fun C h => by cases h) (by decide) (Or.inl rfl) (by decide) rfl rfl rfl rfl (by decide) t1 hn6 hk6 hcells hslots hdg kk
end PGD
