/-! THE POOL: a heap by its kinds, fields and arrays, as functions of addresses -/
def Hp : Type := List Nat × (Nat → Nat) × (Nat → Nat → Int32) × (Nat → Nat → Int64) × (Nat → Nat → Option Nat) × (Nat → Nat) × (Nat → Nat → Int32) × (Nat → Nat → Int64) × (Nat → Nat → UInt64) × (Nat → Nat → Option Nat) × (Nat → Nat)
def Hp.mk (L : List Nat) (K : Nat → Nat) (FI : Nat → Nat → Int32) (FJ : Nat → Nat → Int64) (FR : Nat → Nat → Option Nat) (N : Nat → Nat) (AI : Nat → Nat → Int32) (AJ : Nat → Nat → Int64) (AD : Nat → Nat → UInt64) (AR : Nat → Nat → Option Nat) (T : Nat → Nat) : Hp := (L, K, FI, FJ, FR, N, AI, AJ, AD, AR, T)
def Hp.L (S : Hp) : List Nat := S.1
def Hp.K (S : Hp) : Nat → Nat := S.2.1
def Hp.FI (S : Hp) : Nat → Nat → Int32 := S.2.2.1
def Hp.FJ (S : Hp) : Nat → Nat → Int64 := S.2.2.2.1
def Hp.FR (S : Hp) : Nat → Nat → Option Nat := S.2.2.2.2.1
def Hp.N (S : Hp) : Nat → Nat := S.2.2.2.2.2.1
def Hp.AI (S : Hp) : Nat → Nat → Int32 := S.2.2.2.2.2.2.1
def Hp.AJ (S : Hp) : Nat → Nat → Int64 := S.2.2.2.2.2.2.2.1
def Hp.AD (S : Hp) : Nat → Nat → UInt64 := S.2.2.2.2.2.2.2.2.1
def Hp.AR (S : Hp) : Nat → Nat → Option Nat := S.2.2.2.2.2.2.2.2.2.1
/-- what lies outside the pool, and never changes: T 0 ArrayList's empty array, T 1 the Class object of Object[] -/
def Hp.T (S : Hp) : Nat → Nat := S.2.2.2.2.2.2.2.2.2.2
/-- a change at two places -/
def up2 {α : Type} (f : Nat → Nat → α) (i a : Nat) (v : α) : Nat → Nat → α := fun j b => if j = i ∧ b = a then v else f j b
def Hp.setFI (S : Hp) (i a : Nat) (v : Int32) : Hp := Hp.mk S.L S.K (up2 S.FI i a v) S.FJ S.FR S.N S.AI S.AJ S.AD S.AR S.T
def Hp.setFJ (S : Hp) (i a : Nat) (v : Int64) : Hp := Hp.mk S.L S.K S.FI (up2 S.FJ i a v) S.FR S.N S.AI S.AJ S.AD S.AR S.T
def Hp.setFR (S : Hp) (i a : Nat) (v : Option Nat) : Hp := Hp.mk S.L S.K S.FI S.FJ (up2 S.FR i a v) S.N S.AI S.AJ S.AD S.AR S.T
def Hp.setAI (S : Hp) (a i : Nat) (v : Int32) : Hp := Hp.mk S.L S.K S.FI S.FJ S.FR S.N (up2 S.AI a i v) S.AJ S.AD S.AR S.T
def Hp.setAJ (S : Hp) (a i : Nat) (v : Int64) : Hp := Hp.mk S.L S.K S.FI S.FJ S.FR S.N S.AI (up2 S.AJ a i v) S.AD S.AR S.T
def Hp.setAD (S : Hp) (a i : Nat) (v : UInt64) : Hp := Hp.mk S.L S.K S.FI S.FJ S.FR S.N S.AI S.AJ (up2 S.AD a i v) S.AR S.T
def Hp.setAR (S : Hp) (a i : Nat) (v : Option Nat) : Hp := Hp.mk S.L S.K S.FI S.FJ S.FR S.N S.AI S.AJ S.AD (up2 S.AR a i v) S.T
/-- a whole array of longs -/
def Hp.putAJ (S : Hp) (a : Nat) (f : Nat → Int64) : Hp := Hp.mk S.L S.K S.FI S.FJ S.FR S.N S.AI (va_up S.AJ a f) S.AD S.AR S.T
def Hp.putAR (S : Hp) (a : Nat) (f : Nat → Option Nat) : Hp := Hp.mk S.L S.K S.FI S.FJ S.FR S.N S.AI S.AJ S.AD (va_up S.AR a f) S.T
/-- a new thing of kind k at q, of n places, all of it nought -/
def Hp.new (S : Hp) (q k n : Nat) : Hp := Hp.mk (S.L ++ [q]) (va_up S.K q k) (fun i a => if a = q then 0 else S.FI i a) (fun i a => if a = q then 0 else S.FJ i a) (fun i a => if a = q then none else S.FR i a) (va_up S.N q n) (va_up S.AI q (fun _ => 0)) (va_up S.AJ q (fun _ => 0)) (va_up S.AD q (fun _ => 0)) (va_up S.AR q (fun _ => none)) S.T
def isA (S : Hp) (a k : Nat) : Prop := a ∈ S.L ∧ S.K a = k
def nb (x : Int32) : Prop := narrow .boolean (.int x) = .int x ∧ fits .boolean (.int x) = true
def nc (x : Int32) : Prop := narrow .char (.int x) = .int x ∧ fits .char (.int x) = true
/-- fields: 0 an int, 1 a long, 2 a reference; the field i of kind k bears the number 64 k + i -/
def shp : Nat → List Nat
  | 3 => [1, 1]
  | 4 => [2, 2]
  | 5 => [0, 0, 0, 0, 0, 0, 0, 0, 0, 0, 0]
  | 6 => [2, 2, 2, 2, 2]
  | 7 => [2, 2, 2, 2, 2, 2, 2, 2, 2, 2, 2, 2, 2, 0, 0, 0]
  | 9 => [0, 2, 0]
  | _ => []
def cix (k : Nat) : Nat := if k = 9 then 2 else k + 2
def fval (S : Hp) (k a i ty : Nat) : Value := if ty = 0 then .int (S.FI (64 * k + i) a) else if ty = 1 then .long (S.FJ (64 * k + i) a) else va_rf (S.FR (64 * k + i) a)
def fvals (S : Hp) (k a : Nat) : List Value := (shp k).mapIdx (fun i ty => fval S k a i ty)
def aval (S : Hp) (j a : Nat) : (Nat → Int32) ⊕ (Nat → Int64) ⊕ (Nat → UInt32) ⊕ (Nat → UInt64) ⊕ (Nat → Option Nat) :=
  if j < 22 then .inl (S.AI a) else if j = 22 then .inr (.inl (S.AJ a)) else if j = 23 then .inl (S.AI a) else if j = 24 then .inr (.inr (.inr (.inl (S.AD a)))) else .inr (.inr (.inr (.inr (S.AR a))))
def wF (cy : Nat → ClassId) (S : Hp) (a : Nat) : va_E := if S.K a < 20 then .inr (cix (S.K a), fvals S (S.K a) a) else .inl (cy (S.K a), (S.N a, aval S (S.K a) a))
abbrev Gw : Type := va_G × (Nat → ClassId) × Nat × Nat × Nat × Nat × Nat × (Nat → Int32)
abbrev Gw.D (G : Gw) : va_G := G.1
abbrev Gw.cy (G : Gw) : Nat → ClassId := G.2.1
/-- the first address of the pool, ArrayList's empty array, the Class object of Object[] -/
abbrev Gw.b (G : Gw) : Nat := G.2.2.1
abbrev Gw.t0 (G : Gw) : Nat := G.2.2.2.1
abbrev Gw.mi (G : Gw) : Nat := G.2.2.2.2.1
/-- the script: its cell, its length, its ints -/
abbrev Gw.xb (G : Gw) : Nat := G.2.2.2.2.2.1
abbrev Gw.xl (G : Gw) : Nat := G.2.2.2.2.2.2.1
abbrev Gw.xs (G : Gw) : Nat → Int32 := G.2.2.2.2.2.2.2
def vTy (cy : Nat → ClassId) : List (ClassId × FieldType) := [(cy 20, .char), (cy 21, .int), (cy 22, .long), (cy 23, .boolean), (cy 21, .int), (cy 25, .object "java/lang/Object")]
def Ab (b : Nat) : Nat → Prop := fun q => b ≤ q
def plW (G : Gw) (S : Hp) : va_W := [] ++ va_pl S.L (wF G.cy S)
def Ok (G : Gw) (S : Hp) (H : Heap) : Prop := va_P G.D vwCl (plW G S) H ∧ va_D (Ab G.b) (plW G S) ∧ S.T 0 = G.t0 ∧ S.T 1 = G.mi
theorem ok_get {G : Gw} {S : Hp} {a : Nat} (ha : a ∈ S.L) : ∃ k : Nat, (plW G S)[k]? = some (a, wF G.cy S a) := va_pl_get ha
theorem wF_obj {cy : Nat → ClassId} {S : Hp} {a k : Nat} (h : S.K a = k) (hk : k < 20) : wF cy S a = .inr (cix k, fvals S k a) := by
  unfold wF
  rw [h, if_pos hk]
theorem wF_arr {cy : Nat → ClassId} {S : Hp} {a k : Nat} (h : S.K a = k) (hk : ¬ k < 20) : wF cy S a = .inl (cy k, (S.N a, aval S k a)) := by
  unfold wF
  rw [h, if_neg hk]
theorem fvals_get {S : Hp} {k a i ty : Nat} (h : (shp k)[i]? = some ty) : (fvals S k a)[i]? = some (fval S k a i ty) := by
  unfold fvals
  rw [List.getElem?_mapIdx, h]
  rfl
theorem fvals_len {S : Hp} {k a : Nat} : (fvals S k a).length = (shp k).length := by
  unfold fvals
  rw [List.length_mapIdx]
theorem up2_s {α : Type} {f : Nat → Nat → α} {i a : Nat} {v : α} : up2 f i a v i a = v := if_pos ⟨rfl, rfl⟩
theorem up2_n {α : Type} {f : Nat → Nat → α} {i a j b : Nat} {v : α} (h : ¬ (j = i ∧ b = a)) : up2 f i a v j b = f j b := if_neg h
theorem fvals_set {S S' : Hp} {k a i ty : Nat} {v : Value} (h : (shp k)[i]? = some ty) (hv : fval S' k a i ty = v) (ho : ∀ j ty, j ≠ i → fval S' k a j ty = fval S k a j ty) : (fvals S k a).set i v = fvals S' k a := by
  apply List.ext_getElem?
  intro j
  have hi : i < (fvals S k a).length := by
    rw [fvals_len]
    exact (List.getElem?_eq_some_iff.mp h).1
  by_cases e : j = i
  · subst e
    rw [List.getElem?_set_self hi, fvals_get h, hv]
  · rw [List.getElem?_set_ne (fun q => e q.symm)]
    unfold fvals
    rw [List.getElem?_mapIdx, List.getElem?_mapIdx]
    cases hs : (shp k)[j]? with
    | none => rfl
    | some t => exact congrArg some (ho j t e).symm
theorem wF_put {cy : Nat → ClassId} {S S' : Hp} {k a i ty : Nat} {v : Value} (hk : S.K a = k) (hlt : k < 20) (h : (shp k)[i]? = some ty) (hK : S'.K = S.K) (hv : fval S' k a i ty = v) (ho : ∀ j ty, j ≠ i → fval S' k a j ty = fval S k a j ty) (hb : ∀ b, b ≠ a → wF cy S' b = wF cy S b) : ∀ b, va_up (wF cy S) a (.inr (cix k, (fvals S k a).set i v)) b = wF cy S' b := by
  intro b
  by_cases e : b = a
  · subst e
    unfold va_up
    rw [if_pos rfl, wF_obj (by rw [hK]; exact hk) hlt, fvals_set h hv ho]
  · unfold va_up
    rw [if_neg e, hb b e]
theorem fval_ne {S S' : Hp} {k b : Nat} (h1 : ∀ i, S'.FI i b = S.FI i b) (h2 : ∀ i, S'.FJ i b = S.FJ i b) (h3 : ∀ i, S'.FR i b = S.FR i b) : fvals S' k b = fvals S k b := by
  unfold fvals
  congr 1
  funext i ty
  unfold fval
  rw [h1, h2, h3]
theorem wF_ne {cy : Nat → ClassId} {S S' : Hp} {b : Nat} (hK : S'.K b = S.K b) (h1 : ∀ i, S'.FI i b = S.FI i b) (h2 : ∀ i, S'.FJ i b = S.FJ i b) (h3 : ∀ i, S'.FR i b = S.FR i b) (hN : S'.N b = S.N b) (h4 : S'.AI b = S.AI b) (h5 : S'.AJ b = S.AJ b) (h6 : S'.AD b = S.AD b) (h7 : S'.AR b = S.AR b) : wF cy S' b = wF cy S b := by
  unfold wF
  rw [hK, fval_ne h1 h2 h3, hN]
  unfold aval
  rw [h4, h5, h6, h7]
theorem wF_setFI {cy : Nat → ClassId} {S : Hp} {k a i : Nat} {v : Int32} (hk : S.K a = k) (hlt : k < 20) (h : (shp k)[i]? = some 0) : ∀ b, va_up (wF cy S) a (.inr (cix k, (fvals S k a).set i (.int v))) b = wF cy (S.setFI (64 * k + i) a v) b := by
  refine wF_put hk hlt h rfl ?_ ?_ ?_
  · show Value.int (up2 S.FI (64 * k + i) a v (64 * k + i) a) = _
    rw [up2_s]
  · intro j ty hj
    unfold fval
    show (if ty = 0 then Value.int (up2 S.FI (64 * k + i) a v (64 * k + j) a) else _) = _
    rw [up2_n (fun q => hj (by omega))]
    rfl
  · intro b hb
    refine wF_ne rfl (fun i9 => ?_) (fun _ => rfl) (fun _ => rfl) rfl rfl rfl rfl rfl
    exact up2_n (fun q => hb q.2)
theorem wF_setFJ {cy : Nat → ClassId} {S : Hp} {k a i : Nat} {v : Int64} (hk : S.K a = k) (hlt : k < 20) (h : (shp k)[i]? = some 1) : ∀ b, va_up (wF cy S) a (.inr (cix k, (fvals S k a).set i (.long v))) b = wF cy (S.setFJ (64 * k + i) a v) b := by
  refine wF_put hk hlt h rfl ?_ ?_ ?_
  · show Value.long (up2 S.FJ (64 * k + i) a v (64 * k + i) a) = _
    rw [up2_s]
  · intro j ty hj
    unfold fval
    show (if ty = 0 then _ else if ty = 1 then Value.long (up2 S.FJ (64 * k + i) a v (64 * k + j) a) else _) = _
    rw [up2_n (fun q => hj (by omega))]
    rfl
  · intro b hb
    refine wF_ne rfl (fun _ => rfl) (fun i9 => ?_) (fun _ => rfl) rfl rfl rfl rfl rfl
    exact up2_n (fun q => hb q.2)
theorem wF_setFR {cy : Nat → ClassId} {S : Hp} {k a i : Nat} {v : Option Nat} (hk : S.K a = k) (hlt : k < 20) (h : (shp k)[i]? = some 2) : ∀ b, va_up (wF cy S) a (.inr (cix k, (fvals S k a).set i (va_rf v))) b = wF cy (S.setFR (64 * k + i) a v) b := by
  refine wF_put hk hlt h rfl ?_ ?_ ?_
  · show va_rf (up2 S.FR (64 * k + i) a v (64 * k + i) a) = _
    rw [up2_s]
  · intro j ty hj
    unfold fval
    show (if ty = 0 then _ else if ty = 1 then _ else va_rf (up2 S.FR (64 * k + i) a v (64 * k + j) a)) = _
    rw [up2_n (fun q => hj (by omega))]
    rfl
  · intro b hb
    refine wF_ne rfl (fun _ => rfl) (fun _ => rfl) (fun i9 => ?_) rfl rfl rfl rfl rfl
    exact up2_n (fun q => hb q.2)
/-- an array's cell changes -/
theorem wF_arrPut {cy : Nat → ClassId} {S S' : Hp} {k a : Nat} {z : (Nat → Int32) ⊕ (Nat → Int64) ⊕ (Nat → UInt32) ⊕ (Nat → UInt64) ⊕ (Nat → Option Nat)} (hk : S.K a = k) (hlt : ¬ k < 20) (hK : S'.K = S.K) (hN : S'.N = S.N) (hz : aval S' k a = z) (hb : ∀ b, b ≠ a → wF cy S' b = wF cy S b) : ∀ b, va_up (wF cy S) a (.inl (cy k, (S.N a, z))) b = wF cy S' b := by
  intro b
  by_cases e : b = a
  · subst e
    unfold va_up
    rw [if_pos rfl, wF_arr (by rw [hK]; exact hk) hlt, hz, hN]
  · unfold va_up
    rw [if_neg e, hb b e]
theorem up2_upd {f : Nat → Nat → Int32} {a i : Nat} {v : Int32} : up2 f a i v a = upd (f a) i v := by
  funext j
  unfold up2 upd
  by_cases e : j = i <;> simp [e]
theorem up2_updL {f : Nat → Nat → Int64} {a i : Nat} {v : Int64} : up2 f a i v a = vp_updL (f a) i v := by
  funext j
  unfold up2 vp_updL
  by_cases e : j = i <;> simp [e]
theorem up2_up {α : Type} {f : Nat → Nat → α} {a i : Nat} {v : α} : up2 f a i v a = va_up (f a) i v := by
  funext j
  unfold up2 va_up
  by_cases e : j = i <;> simp [e]
theorem up2_vf {α : Type} {f : Nat → Nat → α} {a i : Nat} {v : α} : up2 f a i v a = vf_upd (f a) i v := by
  funext j
  unfold up2 vf_upd
  by_cases e : j = i <;> simp [e]
theorem up2_row {α : Type} {f : Nat → Nat → α} {a b i : Nat} {v : α} (h : b ≠ a) : up2 f a i v b = f b := by
  funext j
  unfold up2
  exact if_neg (fun q => h q.1)
theorem ok_set {G : Gw} {S S' : Hp} {H : Heap} {a k : Nat} {e : va_E} (hT : S'.T 0 = G.t0 ∧ S'.T 1 = G.mi) (hL : S'.L = S.L) (hO : va_P G.D vwCl ((plW G S).set k (a, e)) H ∧ va_D (Ab G.b) ((plW G S).set k (a, e))) (hD : va_D (Ab G.b) (plW G S)) (ha : a ∈ S.L) (hk : (plW G S)[k]? = some (a, wF G.cy S a)) (hf : ∀ b, va_up (wF G.cy S) a e b = wF G.cy S' b) : Ok G S' H := by
  have h1 : (plW G S).set k (a, e) = plW G S' := by
    unfold plW at hk hD ⊢
    rw [va_pl_set hD ha hk, hL, va_pl_congr hf]
  unfold Ok
  rw [← h1]
  exact ⟨hO.1, hO.2, hT⟩
theorem ok_push {G : Gw} {S : Hp} {H : Heap} {q k n : Nat} {e : va_E} (hT : S.T 0 = G.t0 ∧ S.T 1 = G.mi) (hO : va_P G.D vwCl (plW G S ++ [(q, e)]) H ∧ va_D (Ab G.b) (plW G S ++ [(q, e)])) (he : wF G.cy (S.new q k n) q = e) : q ∉ S.L ∧ Ok G (S.new q k n) H := by
  have hq : q ∉ S.L := by
    have h := hO.2
    unfold plW at h
    exact va_pl_fresh2 h
  refine ⟨hq, ?_⟩
  have h1 : plW G S ++ [(q, e)] = plW G (S.new q k n) := by
    unfold plW
    rw [List.append_assoc, va_pl_push hq]
    show [] ++ va_pl (S.L ++ [q]) _ = [] ++ va_pl (S.L ++ [q]) _
    refine congrArg (fun l => ([] : va_W) ++ l) (va_pl_congr fun b => ?_)
    by_cases hb : b = q
    · subst hb
      rw [va_up_self, he]
    · rw [va_up_ne _ _ hb]
      refine (wF_ne ?_ (fun i => ?_) (fun i => ?_) (fun i => ?_) ?_ ?_ ?_ ?_ ?_).symm
      · exact va_up_ne _ _ hb
      · exact if_neg hb
      · exact if_neg hb
      · exact if_neg hb
      · exact va_up_ne _ _ hb
      · exact va_up_ne _ _ hb
      · exact va_up_ne _ _ hb
      · exact va_up_ne _ _ hb
      · exact va_up_ne _ _ hb
  unfold Ok
  rw [← h1]
  exact ⟨hO.1, hO.2, hT⟩
def it1 {A : Type} (F9 : (A → Prop) → A → Prop) : Nat → A → Prop
  | 0 => fun _ => False
  | n + 1 => F9 (it1 F9 n)
def it2 {A B : Type} (F9 : (A → B → Prop) → A → B → Prop) : Nat → A → B → Prop
  | 0 => fun _ _ => False
  | n + 1 => F9 (it2 F9 n)
def it3 {A B C : Type} (F9 : (A → B → C → Prop) → A → B → C → Prop) : Nat → A → B → C → Prop
  | 0 => fun _ _ _ => False
  | n + 1 => F9 (it3 F9 n)
def it4 {A B C D : Type} (F9 : (A → B → C → D → Prop) → A → B → C → D → Prop) : Nat → A → B → C → D → Prop
  | 0 => fun _ _ _ _ => False
  | n + 1 => F9 (it4 F9 n)
def it5 {A B C D E : Type} (F9 : (A → B → C → D → E → Prop) → A → B → C → D → E → Prop) : Nat → A → B → C → D → E → Prop
  | 0 => fun _ _ _ _ _ => False
  | n + 1 => F9 (it5 F9 n)
def it6 {A B C D E F : Type} (F9 : (A → B → C → D → E → F → Prop) → A → B → C → D → E → F → Prop) : Nat → A → B → C → D → E → F → Prop
  | 0 => fun _ _ _ _ _ _ => False
  | n + 1 => F9 (it6 F9 n)
def it7 {A B C D E F G : Type} (F9 : (A → B → C → D → E → F → G → Prop) → A → B → C → D → E → F → G → Prop) : Nat → A → B → C → D → E → F → G → Prop
  | 0 => fun _ _ _ _ _ _ _ => False
  | n + 1 => F9 (it7 F9 n)
def it8 {A B C D E F G H : Type} (F9 : (A → B → C → D → E → F → G → H → Prop) → A → B → C → D → E → F → G → H → Prop) : Nat → A → B → C → D → E → F → G → H → Prop
  | 0 => fun _ _ _ _ _ _ _ _ => False
  | n + 1 => F9 (it8 F9 n)
def it9 {A B C D E F G H I : Type} (F9 : (A → B → C → D → E → F → G → H → I → Prop) → A → B → C → D → E → F → G → H → I → Prop) : Nat → A → B → C → D → E → F → G → H → I → Prop
  | 0 => fun _ _ _ _ _ _ _ _ _ => False
  | n + 1 => F9 (it9 F9 n)
def it10 {A B C D E F G H I J : Type} (F9 : (A → B → C → D → E → F → G → H → I → J → Prop) → A → B → C → D → E → F → G → H → I → J → Prop) : Nat → A → B → C → D → E → F → G → H → I → J → Prop
  | 0 => fun _ _ _ _ _ _ _ _ _ _ => False
  | n + 1 => F9 (it10 F9 n)
def it11 {A B C D E F G H I J K : Type} (F9 : (A → B → C → D → E → F → G → H → I → J → K → Prop) → A → B → C → D → E → F → G → H → I → J → K → Prop) : Nat → A → B → C → D → E → F → G → H → I → J → K → Prop
  | 0 => fun _ _ _ _ _ _ _ _ _ _ _ => False
  | n + 1 => F9 (it11 F9 n)
def it12 {A B C D E F G H I J K L : Type} (F9 : (A → B → C → D → E → F → G → H → I → J → K → L → Prop) → A → B → C → D → E → F → G → H → I → J → K → L → Prop) : Nat → A → B → C → D → E → F → G → H → I → J → K → L → Prop
  | 0 => fun _ _ _ _ _ _ _ _ _ _ _ _ => False
  | n + 1 => F9 (it12 F9 n)
def it13 {A B C D E F G H I J K L M : Type} (F9 : (A → B → C → D → E → F → G → H → I → J → K → L → M → Prop) → A → B → C → D → E → F → G → H → I → J → K → L → M → Prop) : Nat → A → B → C → D → E → F → G → H → I → J → K → L → M → Prop
  | 0 => fun _ _ _ _ _ _ _ _ _ _ _ _ _ => False
  | n + 1 => F9 (it13 F9 n)
def it14 {A B C D E F G H I J K L M N : Type} (F9 : (A → B → C → D → E → F → G → H → I → J → K → L → M → N → Prop) → A → B → C → D → E → F → G → H → I → J → K → L → M → N → Prop) : Nat → A → B → C → D → E → F → G → H → I → J → K → L → M → N → Prop
  | 0 => fun _ _ _ _ _ _ _ _ _ _ _ _ _ _ => False
  | n + 1 => F9 (it14 F9 n)
def it15 {T0 T1 T2 T3 T4 T5 T6 T7 T8 T9 T10 T11 T12 T13 T14 : Type} (F9 : (T0 → T1 → T2 → T3 → T4 → T5 → T6 → T7 → T8 → T9 → T10 → T11 → T12 → T13 → T14 → Prop) → T0 → T1 → T2 → T3 → T4 → T5 → T6 → T7 → T8 → T9 → T10 → T11 → T12 → T13 → T14 → Prop) : Nat → T0 → T1 → T2 → T3 → T4 → T5 → T6 → T7 → T8 → T9 → T10 → T11 → T12 → T13 → T14 → Prop
  | 0 => fun _ _ _ _ _ _ _ _ _ _ _ _ _ _ _ => False
  | n + 1 => F9 (it15 F9 n)
def it16 {T0 T1 T2 T3 T4 T5 T6 T7 T8 T9 T10 T11 T12 T13 T14 T15 : Type} (F9 : (T0 → T1 → T2 → T3 → T4 → T5 → T6 → T7 → T8 → T9 → T10 → T11 → T12 → T13 → T14 → T15 → Prop) → T0 → T1 → T2 → T3 → T4 → T5 → T6 → T7 → T8 → T9 → T10 → T11 → T12 → T13 → T14 → T15 → Prop) : Nat → T0 → T1 → T2 → T3 → T4 → T5 → T6 → T7 → T8 → T9 → T10 → T11 → T12 → T13 → T14 → T15 → Prop
  | 0 => fun _ _ _ _ _ _ _ _ _ _ _ _ _ _ _ _ => False
  | n + 1 => F9 (it16 F9 n)
def it17 {T0 T1 T2 T3 T4 T5 T6 T7 T8 T9 T10 T11 T12 T13 T14 T15 T16 : Type} (F9 : (T0 → T1 → T2 → T3 → T4 → T5 → T6 → T7 → T8 → T9 → T10 → T11 → T12 → T13 → T14 → T15 → T16 → Prop) → T0 → T1 → T2 → T3 → T4 → T5 → T6 → T7 → T8 → T9 → T10 → T11 → T12 → T13 → T14 → T15 → T16 → Prop) : Nat → T0 → T1 → T2 → T3 → T4 → T5 → T6 → T7 → T8 → T9 → T10 → T11 → T12 → T13 → T14 → T15 → T16 → Prop
  | 0 => fun _ _ _ _ _ _ _ _ _ _ _ _ _ _ _ _ _ => False
  | n + 1 => F9 (it17 F9 n)
def it18 {T0 T1 T2 T3 T4 T5 T6 T7 T8 T9 T10 T11 T12 T13 T14 T15 T16 T17 : Type} (F9 : (T0 → T1 → T2 → T3 → T4 → T5 → T6 → T7 → T8 → T9 → T10 → T11 → T12 → T13 → T14 → T15 → T16 → T17 → Prop) → T0 → T1 → T2 → T3 → T4 → T5 → T6 → T7 → T8 → T9 → T10 → T11 → T12 → T13 → T14 → T15 → T16 → T17 → Prop) : Nat → T0 → T1 → T2 → T3 → T4 → T5 → T6 → T7 → T8 → T9 → T10 → T11 → T12 → T13 → T14 → T15 → T16 → T17 → Prop
  | 0 => fun _ _ _ _ _ _ _ _ _ _ _ _ _ _ _ _ _ _ => False
  | n + 1 => F9 (it18 F9 n)
def it19 {T0 T1 T2 T3 T4 T5 T6 T7 T8 T9 T10 T11 T12 T13 T14 T15 T16 T17 T18 : Type} (F9 : (T0 → T1 → T2 → T3 → T4 → T5 → T6 → T7 → T8 → T9 → T10 → T11 → T12 → T13 → T14 → T15 → T16 → T17 → T18 → Prop) → T0 → T1 → T2 → T3 → T4 → T5 → T6 → T7 → T8 → T9 → T10 → T11 → T12 → T13 → T14 → T15 → T16 → T17 → T18 → Prop) : Nat → T0 → T1 → T2 → T3 → T4 → T5 → T6 → T7 → T8 → T9 → T10 → T11 → T12 → T13 → T14 → T15 → T16 → T17 → T18 → Prop
  | 0 => fun _ _ _ _ _ _ _ _ _ _ _ _ _ _ _ _ _ _ _ => False
  | n + 1 => F9 (it19 F9 n)
def it20 {T0 T1 T2 T3 T4 T5 T6 T7 T8 T9 T10 T11 T12 T13 T14 T15 T16 T17 T18 T19 : Type} (F9 : (T0 → T1 → T2 → T3 → T4 → T5 → T6 → T7 → T8 → T9 → T10 → T11 → T12 → T13 → T14 → T15 → T16 → T17 → T18 → T19 → Prop) → T0 → T1 → T2 → T3 → T4 → T5 → T6 → T7 → T8 → T9 → T10 → T11 → T12 → T13 → T14 → T15 → T16 → T17 → T18 → T19 → Prop) : Nat → T0 → T1 → T2 → T3 → T4 → T5 → T6 → T7 → T8 → T9 → T10 → T11 → T12 → T13 → T14 → T15 → T16 → T17 → T18 → T19 → Prop
  | 0 => fun _ _ _ _ _ _ _ _ _ _ _ _ _ _ _ _ _ _ _ _ => False
  | n + 1 => F9 (it20 F9 n)
def it21 {T0 T1 T2 T3 T4 T5 T6 T7 T8 T9 T10 T11 T12 T13 T14 T15 T16 T17 T18 T19 T20 : Type} (F9 : (T0 → T1 → T2 → T3 → T4 → T5 → T6 → T7 → T8 → T9 → T10 → T11 → T12 → T13 → T14 → T15 → T16 → T17 → T18 → T19 → T20 → Prop) → T0 → T1 → T2 → T3 → T4 → T5 → T6 → T7 → T8 → T9 → T10 → T11 → T12 → T13 → T14 → T15 → T16 → T17 → T18 → T19 → T20 → Prop) : Nat → T0 → T1 → T2 → T3 → T4 → T5 → T6 → T7 → T8 → T9 → T10 → T11 → T12 → T13 → T14 → T15 → T16 → T17 → T18 → T19 → T20 → Prop
  | 0 => fun _ _ _ _ _ _ _ _ _ _ _ _ _ _ _ _ _ _ _ _ _ => False
  | n + 1 => F9 (it21 F9 n)
def it22 {T0 T1 T2 T3 T4 T5 T6 T7 T8 T9 T10 T11 T12 T13 T14 T15 T16 T17 T18 T19 T20 T21 : Type} (F9 : (T0 → T1 → T2 → T3 → T4 → T5 → T6 → T7 → T8 → T9 → T10 → T11 → T12 → T13 → T14 → T15 → T16 → T17 → T18 → T19 → T20 → T21 → Prop) → T0 → T1 → T2 → T3 → T4 → T5 → T6 → T7 → T8 → T9 → T10 → T11 → T12 → T13 → T14 → T15 → T16 → T17 → T18 → T19 → T20 → T21 → Prop) : Nat → T0 → T1 → T2 → T3 → T4 → T5 → T6 → T7 → T8 → T9 → T10 → T11 → T12 → T13 → T14 → T15 → T16 → T17 → T18 → T19 → T20 → T21 → Prop
  | 0 => fun _ _ _ _ _ _ _ _ _ _ _ _ _ _ _ _ _ _ _ _ _ _ => False
  | n + 1 => F9 (it22 F9 n)
def it23 {T0 T1 T2 T3 T4 T5 T6 T7 T8 T9 T10 T11 T12 T13 T14 T15 T16 T17 T18 T19 T20 T21 T22 : Type} (F9 : (T0 → T1 → T2 → T3 → T4 → T5 → T6 → T7 → T8 → T9 → T10 → T11 → T12 → T13 → T14 → T15 → T16 → T17 → T18 → T19 → T20 → T21 → T22 → Prop) → T0 → T1 → T2 → T3 → T4 → T5 → T6 → T7 → T8 → T9 → T10 → T11 → T12 → T13 → T14 → T15 → T16 → T17 → T18 → T19 → T20 → T21 → T22 → Prop) : Nat → T0 → T1 → T2 → T3 → T4 → T5 → T6 → T7 → T8 → T9 → T10 → T11 → T12 → T13 → T14 → T15 → T16 → T17 → T18 → T19 → T20 → T21 → T22 → Prop
  | 0 => fun _ _ _ _ _ _ _ _ _ _ _ _ _ _ _ _ _ _ _ _ _ _ _ => False
  | n + 1 => F9 (it23 F9 n)
theorem ok_pushW {G : Gw} {S S' : Hp} {H : Heap} {q : Nat} {e : va_E} (hT : S.T 0 = G.t0 ∧ S.T 1 = G.mi) (hO : va_P G.D vwCl (plW G S ++ [(q, e)]) H ∧ va_D (Ab G.b) (plW G S ++ [(q, e)])) (he : wF G.cy S' q = e) (hL : S'.L = S.L ++ [q]) (hT' : S'.T = S.T) (hf : ∀ b, b ≠ q → wF G.cy S' b = wF G.cy S b) : q ∉ S.L ∧ Ok G S' H := by
  have hq : q ∉ S.L := by
    have h := hO.2
    unfold plW at h
    exact va_pl_fresh2 h
  refine ⟨hq, ?_⟩
  have h1 : plW G S ++ [(q, e)] = plW G S' := by
    unfold plW
    rw [List.append_assoc, va_pl_push hq, hL]
    refine congrArg (fun l => ([] : va_W) ++ l) (va_pl_congr fun b => ?_)
    by_cases hb : b = q
    · subst hb
      rw [va_up_self, he]
    · rw [va_up_ne _ _ hb, hf b hb]
  unfold Ok
  rw [← h1, hT']
  exact ⟨hO.1, hO.2, hT⟩
