/-! the sets within a set, as the loop part = (part - 1) & set goes through them; the greatest sum over them -/
def sb_ch (s : Nat) : Nat → Nat → List Nat
  | 0, _ => []
  | k + 1, p => if p = 0 then [] else p :: sb_ch s k ((p - 1) &&& s)
def jn_in (f g : Nat → Int) (s : Nat) : Nat → Nat → Int → Int
  | 0, _, m => m
  | k + 1, p, m => if p = 0 then m else jn_in f g s k ((p - 1) &&& s) (max m (f p + g (s - p)))
def jn (f g : Nat → Int) (s : Nat) : Int := jn_in f g s 64 s (f 0 + g s)
theorem sb_all : (List.range 64).all (fun s => (List.range 64).all (fun p => decide (p &&& s = p) == (decide (p = 0) || (sb_ch s 64 s).contains p))) = true := by decide +kernel
theorem sb_mem {s p : Nat} (hs : s < 64) (hp : p < 64) : p &&& s = p ↔ (p = 0 ∨ p ∈ sb_ch s 64 s) := by
  have h := List.all_eq_true.mp (List.all_eq_true.mp sb_all s (List.mem_range.mpr hs)) p (List.mem_range.mpr hp)
  simp only [beq_iff_eq] at h
  by_cases h1 : p &&& s = p
  · rw [decide_eq_true h1] at h
    have h2 := h.symm
    simp only [Bool.or_eq_true, decide_eq_true_eq, List.contains_iff_mem] at h2
    exact ⟨fun _ => h2, fun _ => h1⟩
  · rw [decide_eq_false h1] at h
    have h2 := h.symm
    simp only [Bool.or_eq_false_iff, decide_eq_false_iff_not] at h2
    refine ⟨fun z => absurd z h1, fun z => ?_⟩
    rcases z with z | z
    · exact absurd z h2.1
    · have := List.contains_iff_mem.mpr z
      rw [h2.2] at this; cases this
theorem jn_in_ge (f g : Nat → Int) (s : Nat) : ∀ (k p : Nat) (m : Int), m ≤ jn_in f g s k p m ∧ ∀ q ∈ sb_ch s k p, f q + g (s - q) ≤ jn_in f g s k p m
  | 0, p, m => ⟨Int.le_refl _, fun q hq => by unfold sb_ch at hq; cases hq⟩
  | k + 1, p, m => by
    unfold jn_in sb_ch
    by_cases h : p = 0
    · rw [if_pos h, if_pos h]; exact ⟨Int.le_refl _, fun q hq => by cases hq⟩
    · rw [if_neg h, if_neg h]
      obtain ⟨h1, h2⟩ := jn_in_ge f g s k ((p - 1) &&& s) (max m (f p + g (s - p)))
      refine ⟨by omega, fun q hq => ?_⟩
      rcases List.mem_cons.mp hq with rfl | hq
      · omega
      · exact h2 q hq
theorem jn_in_is (f g : Nat → Int) (s : Nat) : ∀ (k p : Nat) (m : Int), jn_in f g s k p m = m ∨ ∃ q ∈ sb_ch s k p, jn_in f g s k p m = f q + g (s - q)
  | 0, p, m => Or.inl rfl
  | k + 1, p, m => by
    unfold jn_in sb_ch
    by_cases h : p = 0
    · rw [if_pos h]; exact Or.inl rfl
    · rw [if_neg h, if_neg h]
      rcases jn_in_is f g s k ((p - 1) &&& s) (max m (f p + g (s - p))) with e | ⟨q, hq, e⟩
      · rw [e]
        by_cases h3 : m ≤ f p + g (s - p)
        · exact Or.inr ⟨p, List.mem_cons_self, by omega⟩
        · exact Or.inl (by omega)
      · exact Or.inr ⟨q, List.mem_cons_of_mem _ hq, e⟩
theorem jn_ge (f g : Nat → Int) {s p : Nat} (hs : s < 64) (hp : p &&& s = p) : f p + g (s - p) ≤ jn f g s := by
  have hp64 : p < 64 := by rw [← hp]; exact Nat.lt_of_le_of_lt Nat.and_le_right hs
  unfold jn
  obtain ⟨h1, h2⟩ := jn_in_ge f g s 64 s (f 0 + g s)
  rcases (sb_mem hs hp64).mp hp with h | h
  · subst h; simpa using h1
  · exact h2 p h
theorem sb_lt {s : Nat} (hs : s < 64) : ∀ (k p q : Nat), p < 64 → q ∈ sb_ch s k p → q < 64
  | 0, p, q, _, h => by unfold sb_ch at h; cases h
  | k + 1, p, q, hp, h => by
    unfold sb_ch at h
    split at h
    · cases h
    · rcases List.mem_cons.mp h with rfl | h
      · exact hp
      · exact sb_lt hs k _ q (Nat.lt_of_le_of_lt Nat.and_le_right hs) h
theorem jn_is (f g : Nat → Int) {s : Nat} (hs : s < 64) : ∃ p, p &&& s = p ∧ jn f g s = f p + g (s - p) := by
  unfold jn
  rcases jn_in_is f g s 64 s (f 0 + g s) with e | ⟨q, hq, e⟩
  · exact ⟨0, by simp, by rw [e]; simp⟩
  · exact ⟨q, (sb_mem hs (sb_lt hs 64 s q hs hq)).mpr (Or.inr hq), e⟩
