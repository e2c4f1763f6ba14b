/-! contracts with one end, weaker locals, small ints -/
def am_Ret (r0 : Option Value) (S : am_S) (n : Nat) (d : am_D) : Option Value → am_S → Nat → am_D → Prop := fun r S' n' d' => r = r0 ∧ S' = S ∧ n' = n ∧ d' = d
def am_sub : List (Option Value) → List (Option Value) → Prop
  | [], _ => True
  | none :: l, m => am_sub l m.tail
  | some v :: l, m => m.head? = some (some v) ∧ am_sub l m.tail
theorem am_sub_at : ∀ (l m : List (Option Value)), am_sub l m → ∀ (i : Nat) (v : Value), l[i]? = some (some v) → m[i]? = some (some v)
  | [], _, _, i, v, h => by simp at h
  | none :: l, m, hs, i, v, h => by
    cases i with
    | zero => simp at h
    | succ i =>
      have := am_sub_at l m.tail hs i v (by simpa using h)
      cases m with
      | nil => simp at this
      | cons a m => simpa using this
  | some w :: l, m, hs, i, v, h => by
    cases i with
    | zero =>
      simp at h; subst h
      have := hs.1
      cases m with
      | nil => simp at this
      | cons a m => simpa using this
    | succ i =>
      have := am_sub_at l m.tail hs.2 i v (by simpa using h)
      cases m with
      | nil => simp at this
      | cons a m => simpa using this
theorem am_weak {l : Launch} {C : am_Cfg} {x : am_X} {dep bc bs pc : Nat} {mi : am_M} {L L' : List (Option Value)} {st : List Value} {S : am_S} {nn : Nat} {d : am_D} {Q : Option Value → am_S → Nat → am_D → Prop} (h : am_sub L' L) (kk : am_W l C x dep bc bs mi pc L' st S nn d Q) : am_W l C x dep bc bs mi pc L st S nn d Q := by
  intro p e s m args below meth c H locs cells slots mc ms ls hC
  exact kk p e s m args below meth c H locs cells slots mc ms ls (hC.to ⟨hC.at.1, hC.at.2.1, fun i v hi => hC.at.2.2 i v (am_sub_at L' L h i v hi)⟩)
/-- a contract's end may say less -/
theorem am_Met.mono {l : Launch} {C : am_Cfg} {x : am_X} {dep mc ms : Nat} {mi : am_M} {as : List Value} {S : am_S} {n : Nat} {d : am_D} {Q Q' : Option Value → am_S → Nat → am_D → Prop} (h : am_Met l C x dep mc ms mi as S n d Q) (hq : ∀ r S n d, Q r S n d → Q' r S n d) : am_Met l C x dep mc ms mi as S n d Q' := by
  intro p e ha hc hk s m args below hf hp hP hK
  obtain ⟨k, o, h1, h2, h3, h4, h5⟩ := h p e ha hc hk s m args below hf hp hP hK
  obtain ⟨r, S1, n1, d1, g1, g2, g3⟩ := h4
  exact ⟨k, o, h1, h2, h3, ⟨r, S1, n1, d1, g1, hq _ _ _ _ g2, g3⟩, h5⟩
theorem nI_and (a b : Nat) : nI a &&& nI b = nI (a &&& b) := by
  apply Int32.toBitVec_inj.mp
  show BitVec.ofNat 32 a &&& BitVec.ofNat 32 b = BitVec.ofNat 32 (a &&& b)
  exact BitVec.ofNat_and.symm
theorem nI_or (a b : Nat) : nI a ||| nI b = nI (a ||| b) := by
  apply Int32.toBitVec_inj.mp
  show BitVec.ofNat 32 a ||| BitVec.ofNat 32 b = BitVec.ofNat 32 (a ||| b)
  exact BitVec.ofNat_or.symm
theorem i_dec (u : Int32) : u + (-1) = u - 1 := (Int32.sub_eq_add_neg u 1).symm
theorem zI_max {a b : Int} (h1 : -2147483648 ≤ a) (h2 : a < 2147483648) (h3 : -2147483648 ≤ b) (h4 : b < 2147483648) : (if zI a < zI b then zI b else zI a) = zI (max a b) := by
  by_cases h : a < b
  · rw [if_pos ((zI_lt h1 h2 h3 h4).mpr h), Int.max_eq_right (by omega)]
  · rw [if_neg (fun z => h ((zI_lt h1 h2 h3 h4).mp z)), Int.max_eq_left (by omega)]
theorem zI_min {a b : Int} (h1 : -2147483648 ≤ a) (h2 : a < 2147483648) (h3 : -2147483648 ≤ b) (h4 : b < 2147483648) : (if zI b < zI a then zI b else zI a) = zI (min a b) := by
  by_cases h : b < a
  · rw [if_pos ((zI_lt h3 h4 h1 h2).mpr h), Int.min_eq_right (by omega)]
  · rw [if_neg (fun z => h ((zI_lt h3 h4 h1 h2).mp z)), Int.min_eq_left (by omega)]
/-- bit i of a set -/
theorem nI_bit : ∀ i, i < 6 → ∀ s, s < 64 → (nI s &&& ((1 : Int32) <<< (nI i &&& 31)) = 0 ↔ s.testBit i = false) := by decide +kernel
