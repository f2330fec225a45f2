/-! CALLS THAT CHANGE SOMETHING, side by side: a new link -/
theorem ctr_gx {G : Nat → Nat → Nat} {nl k : Nat} {g : Nat → Nat} {tn P : Nat → Rat} {m : Int} (h : k < nl) : ctr (gx G nl g) k tn P m = ctr G k tn P m := by
  unfold ctr
  rw [gx_n h]
theorem mkn_gx {G : Nat → Nat → Nat} {nl k : Nat} {g : Nat → Nat} {q : Rat} {m : Int} (h : k < nl) : mkn (gx G nl g) k q m = mkn G k q m := by
  unfold mkn
  rw [gx_n h]
section LX9
variable {i : Nat} {A E : Nat → Nat} {ls : Nat → List Nat} {ns nl nc nd n : Nat} {G : Nat → Nat → Nat} {P W : Nat → Rat} {mk : Nat → Int} {eng brk aact : Nat → Bool} {life sl : Nat → Nat} {pn : Nat → Nat → Nat → Bool} {ds : Nat → Nat} {V : Nat → Nat → Int32} {ol : List Nat} {S S' : Hp} {D D' : Dt} {N : Hp → Prop}

theorem last_ext {g : Nat → Nat} (hG : GrOK ns nl G) (hG' : GrOK ns (nl + 1) (gx G nl g)) (hd : drv G nl (g 3) = none) (ha : aact nl = false) (h : Last G ns nl P aact D) : Last (gx G nl g) ns (nl + 1) P aact D := by
  rcases h with h | ⟨inp, y, Ps, tns, mks, h1, h2, h3, h4, ⟨h5, h6⟩, h7, h8, h9⟩
  · exact Or.inl h
  · have hne : ∀ k, k < nl + 1 → aact k = true → k < nl := fun k hk q => by
      by_cases c : k = nl
      · rw [c, ha] at q
        exact absurd q (by decide)
      · omega
    have e : ∀ j k, k < nl → (fun k => if k = nl then (D.AJ 61 nl).toInt else mks j k) k = mks j k := fun j k hk => if_neg (by omega)
    refine Or.inr ⟨inp, y, Ps, tns, fun j k => if k = nl then (D.AJ 61 nl).toInt else mks j k, h1, h2, h3, h4, ⟨fun j hj => ?_, fun j hj => ?_⟩, h7, fun k hk => ?_, h9⟩
    · obtain ⟨⟨b1, b2, b3, b4⟩, b5⟩ := h5 j hj
      refine ⟨⟨b1, fun s hs hk => b2 s hs (fun k hk2 q => by have := hk k (by omega) q; rw [gx_n hk2] at this; exact this), fun k hk q => ?_, fun k hk => ?_⟩, b5⟩
      · have hk2 := hne k hk q
        obtain ⟨c1, c2, c3⟩ := b3 k hk2 q
        dsimp only
        rw [if_neg (by omega), if_neg (by omega), ctr_gx hk2, mkn_gx hk2, gx_n hk2]
        exact ⟨c1, c2, c3⟩
      · dsimp only
        by_cases c : k = nl
        · rw [if_pos c, if_pos c]
        · rw [if_neg c, if_neg c]
          exact b4 k (fun q => hk ⟨by omega, q.2⟩)
    · obtain ⟨c1, ⟨m, c2, c3⟩, c4⟩ := h6 j hj
      refine ⟨fun k hk q hr => ?_, ⟨m, c2, bdP_ext hG hG' hd c3⟩, fun k hk q => ?_⟩
      · have hk2 := hne k hk q
        dsimp only
        rw [gx_n hk2] at hr ⊢
        rw [if_neg (by omega)]
        exact c1 k hk2 q hr
      · have hk2 := hne k hk q
        dsimp only
        rw [if_neg (by omega)]
        exact c4 k hk2 q
    · dsimp only
      by_cases c : k = nl
      · rw [if_pos c, c, i6_to]
      · rw [if_neg c]
        exact h8 k (by omega)
end LX9
