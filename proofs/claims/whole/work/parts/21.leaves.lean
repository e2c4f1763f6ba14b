def am_fi (d : am_D) (a k : Nat) (v : Int32) : am_D := fun b j => if b = a ∧ j < k then v else d b j
theorem am_fi_0 (d : am_D) (a : Nat) (v : Int32) : am_fi d a 0 v = d := by funext b j; unfold am_fi; rw [if_neg (by omega)]
theorem am_fi_s (d : am_D) (a k : Nat) (v : Int32) : am_u (am_fi d a k v) a k v = am_fi d a (k + 1) v := by
  funext b j; unfold am_u am_fi
  by_cases h1 : b = a
  · by_cases h2 : j = k
    · simp [h1, h2]
    · by_cases h3 : j < k
      · simp [h1, h2, h3, show j < k + 1 by omega]
      · simp [h1, h2, h3, show ¬ j < k + 1 by omega]
  · simp [h1]
/-- Arrays.fill -/
theorem c_J_fill {l : Launch} {x : am_X} {dep : Nat} {S : am_S} {nn : Nat} {d : am_D} (a : Nat) (v : Int32) (hk : (S a).1 = 0) (ha : a < nn) (hm : (S a).2.1 < 2147483648) : am_Met l K0 x dep 0 0 m_J_fill [.ref a, .int v] S nn d (am_Ret none S nn (am_fi d a (S a).2.1 v)) := by
  refine am_enter (by decide) (by simp [Value.category]) (Nat.le_of_ble_eq_true rfl) ?_
  refine am_go cd_J_fill hc_J_fill 0 3 (pc' := 3) (L' := [some (.ref a), some (.int v), some (.int 0), none]) (st' := [.ref a]) rfl ?_
  refine am_alen (am_at hc_J_fill 3 rfl) hk (Or.inl ha) rfl ?_
  refine am_go cd_J_fill hc_J_fill 4 1 (pc' := 5) (L' := [some (.ref a), some (.int v), some (.int 0), some (.int (nI (S a).2.1))]) (st' := []) rfl ?_
  have loop : ∀ k j, j + k = (S a).2.1 → am_W l K0 x dep 0 0 m_J_fill 5 [some (.ref a), some (.int v), some (.int (nI j)), some (.int (nI (S a).2.1))] [] S nn (am_fi d a j v) (am_Ret none S nn (am_fi d a (S a).2.1 v)) := by
    intro k
    induction k with
    | zero =>
      intro j hj
      refine am_go cd_J_fill hc_J_fill 5 2 (pc' := 7) (L' := [some (.ref a), some (.int v), some (.int (nI j)), some (.int (nI (S a).2.1))]) (st' := [.int (nI (S a).2.1), .int (nI j)]) rfl ?_
      refine am_icmp_ge 20 (am_at hc_J_fill 7 rfl) (by decide) (fun h => ?_) (fun h => absurd (nI_le (by omega) (by omega)) h)
      refine am_vret (am_at hc_J_fill 14 rfl) rfl ⟨rfl, rfl, rfl, ?_⟩
      rw [show j = (S a).2.1 by omega]
    | succ k ih =>
      intro j hj
      refine am_go cd_J_fill hc_J_fill 5 2 (pc' := 7) (L' := [some (.ref a), some (.int v), some (.int (nI j)), some (.int (nI (S a).2.1))]) (st' := [.int (nI (S a).2.1), .int (nI j)]) rfl ?_
      refine am_icmp_ge 20 (am_at hc_J_fill 7 rfl) (by decide) (fun h => absurd h (nI_ge (by omega) (by omega))) (fun h => ?_)
      refine am_go cd_J_fill hc_J_fill 8 3 (pc' := 13) (L' := [some (.ref a), some (.int v), some (.int (nI j)), some (.int (nI (S a).2.1))]) (st' := [.int v, .int (nI j), .ref a]) rfl ?_
      refine am_iastore (j) (am_at hc_J_fill 11 rfl) hk ha rfl (by omega) hm ?_
      refine am_go cd_J_fill hc_J_fill 12 2 (pc' := 5) (L' := [some (.ref a), some (.int v), some (.int ((nI j) + 1)), some (.int (nI (S a).2.1))]) (st' := []) rfl ?_
      rw [nI_1, am_fi_s]
      exact ih (j + 1) (by omega)
  have h0 := loop (S a).2.1 0 (by omega)
  rw [am_fi_0] at h0
  exact h0
theorem c_A_isBidder {l : Launch} {x : am_X} {dep : Nat} {S : am_S} {nn : Nat} {d : am_D} (v : Int32) : am_Met l K0 x dep 0 0 m_A_isBidder [.int v] S nn d (am_Ret (some (.int (if 0 ≤ v ∧ v < 5 then 1 else 0))) S nn d) := by
  refine am_enter (by decide) (by simp [Value.category]) (Nat.le_of_ble_eq_true rfl) ?_
  refine am_go cd_A_isBidder hc_A_isBidder 0 1 (pc' := 1) (L' := [some (.int v)]) (st' := [.int v]) rfl ?_
  refine am_if_lt 13 (am_at hc_A_isBidder 1 rfl) (by decide) (fun h1 => ?_) (fun h1 => ?_)
  · rw [if_neg (fun z => Int32.not_lt.mpr z.1 h1)]
    refine am_go cd_A_isBidder hc_A_isBidder 7 1 (pc' := 14) (L' := [some (.int v)]) (st' := [.int 0]) rfl ?_
    exact am_iret (am_at hc_A_isBidder 8 rfl) rfl rfl ⟨rfl, rfl, rfl, rfl⟩
  · skip
    refine am_go cd_A_isBidder hc_A_isBidder 2 2 (pc' := 6) (L' := [some (.int v)]) (st' := [.int 5, .int v]) rfl ?_
    refine am_icmp_ge 13 (am_at hc_A_isBidder 4 rfl) (by decide) (fun h2 => ?_) (fun h2 => ?_)
    · rw [if_neg (fun z => Int32.not_le.mpr z.2 h2)]
      refine am_go cd_A_isBidder hc_A_isBidder 7 1 (pc' := 14) (L' := [some (.int v)]) (st' := [.int 0]) rfl ?_
      exact am_iret (am_at hc_A_isBidder 8 rfl) rfl rfl ⟨rfl, rfl, rfl, rfl⟩
    · rw [if_pos ⟨Int32.not_lt.mp h1, Int32.not_le.mp h2⟩]
      refine am_go cd_A_isBidder hc_A_isBidder 5 2 (pc' := 14) (L' := [some (.int v)]) (st' := [.int 1]) rfl ?_
      exact am_iret (am_at hc_A_isBidder 8 rfl) rfl rfl ⟨rfl, rfl, rfl, rfl⟩
theorem c_A_isItem {l : Launch} {x : am_X} {dep : Nat} {S : am_S} {nn : Nat} {d : am_D} (v : Int32) : am_Met l K0 x dep 0 0 m_A_isItem [.int v] S nn d (am_Ret (some (.int (if 0 ≤ v ∧ v < 6 then 1 else 0))) S nn d) := by
  refine am_enter (by decide) (by simp [Value.category]) (Nat.le_of_ble_eq_true rfl) ?_
  refine am_go cd_A_isItem hc_A_isItem 0 1 (pc' := 1) (L' := [some (.int v)]) (st' := [.int v]) rfl ?_
  refine am_if_lt 14 (am_at hc_A_isItem 1 rfl) (by decide) (fun h1 => ?_) (fun h1 => ?_)
  · rw [if_neg (fun z => Int32.not_lt.mpr z.1 h1)]
    refine am_go cd_A_isItem hc_A_isItem 7 1 (pc' := 15) (L' := [some (.int v)]) (st' := [.int 0]) rfl ?_
    exact am_iret (am_at hc_A_isItem 8 rfl) rfl rfl ⟨rfl, rfl, rfl, rfl⟩
  · skip
    refine am_go cd_A_isItem hc_A_isItem 2 2 (pc' := 7) (L' := [some (.int v)]) (st' := [.int 6, .int v]) rfl ?_
    refine am_icmp_ge 14 (am_at hc_A_isItem 4 rfl) (by decide) (fun h2 => ?_) (fun h2 => ?_)
    · rw [if_neg (fun z => Int32.not_le.mpr z.2 h2)]
      refine am_go cd_A_isItem hc_A_isItem 7 1 (pc' := 15) (L' := [some (.int v)]) (st' := [.int 0]) rfl ?_
      exact am_iret (am_at hc_A_isItem 8 rfl) rfl rfl ⟨rfl, rfl, rfl, rfl⟩
    · rw [if_pos ⟨Int32.not_lt.mp h1, Int32.not_le.mp h2⟩]
      refine am_go cd_A_isItem hc_A_isItem 5 2 (pc' := 15) (L' := [some (.int v)]) (st' := [.int 1]) rfl ?_
      exact am_iret (am_at hc_A_isItem 8 rfl) rfl rfl ⟨rfl, rfl, rfl, rfl⟩
def so (f : Nat → Int) (s : Nat) : Nat → Int
  | 0 => 0
  | k + 1 => so f s k + if s.testBit k then f k else 0
theorem c_S_sumOver {l : Launch} {x : am_X} {dep : Nat} {S : am_S} {nn : Nat} {d : am_D} (a s : Nat) (f : Nat → Int) (hs : s < 64) (hk : (S a).1 = 0) (ha : a < nn ∨ (1000 ≤ a ∧ a < 1002)) (hl : (S a).2.1 = 6) (hf : ∀ j, j < 6 → d a j = zI (f j)) : am_Met l K0 x dep 0 0 m_S_sumOver [.ref a, .int (nI s)] S nn d (am_Ret (some (.int (zI (so f s 6)))) S nn d) := by
  refine am_enter (by decide) (by simp [Value.category]) (Nat.le_of_ble_eq_true rfl) ?_
  refine am_go cd_S_sumOver hc_S_sumOver 0 4 (pc' := 4) (L' := [some (.ref a), some (.int (nI s)), some (.int 0), some (.int 0)]) (st' := []) rfl ?_
  have loop : ∀ k j, j + k = 6 → am_W l K0 x dep 0 0 m_S_sumOver 4 [some (.ref a), some (.int (nI s)), some (.int (zI (so f s j))), some (.int (nI j))] [] S nn d (am_Ret (some (.int (zI (so f s 6)))) S nn d) := by
    intro k
    induction k with
    | zero =>
      intro j hj
      refine am_go cd_S_sumOver hc_S_sumOver 4 2 (pc' := 7) (L' := [some (.ref a), some (.int (nI s)), some (.int (zI (so f s j))), some (.int (nI j))]) (st' := [.int 6, .int (nI j)]) rfl ?_
      refine am_icmp_ge 30 (am_at hc_S_sumOver 6 rfl) (by decide) (fun h => ?_) (fun h => absurd (nI_le (a := 6) (b := j) (by omega) (by omega)) h)
      refine am_go cd_S_sumOver hc_S_sumOver 21 1 (pc' := 31) (L' := [some (.ref a), some (.int (nI s)), some (.int (zI (so f s j))), some (.int (nI j))]) (st' := [.int (zI (so f s j))]) rfl ?_
      exact am_iret (am_at hc_S_sumOver 22 rfl) rfl rfl ⟨by rw [show j = 6 by omega], rfl, rfl, rfl⟩
    | succ k ih =>
      intro j hj
      refine am_go cd_S_sumOver hc_S_sumOver 4 2 (pc' := 7) (L' := [some (.ref a), some (.int (nI s)), some (.int (zI (so f s j))), some (.int (nI j))]) (st' := [.int 6, .int (nI j)]) rfl ?_
      refine am_icmp_ge 30 (am_at hc_S_sumOver 6 rfl) (by decide) (fun h => absurd h (nI_ge (a := j) (b := 6) (by omega) (by omega))) (fun h => ?_)
      refine am_go cd_S_sumOver hc_S_sumOver 7 5 (pc' := 15) (L' := [some (.ref a), some (.int (nI s)), some (.int (zI (so f s j))), some (.int (nI j))]) (st' := [.int ((nI s) &&& (1 <<< ((nI j) &&& 31)))]) rfl ?_
      have hbit := nI_bit j (by omega) s hs
      have hnext : zI (so f s (j + 1)) = zI (so f s (j + 1)) := rfl
      refine am_if_eq 24 (am_at hc_S_sumOver 12 rfl) (by decide) (fun hb => ?_) (fun hb => ?_)
      · have e : so f s (j + 1) = so f s j := by show so f s j + _ = _; rw [hbit.mp hb]; simp
        refine am_go cd_S_sumOver hc_S_sumOver 19 2 (pc' := 4) (L' := [some (.ref a), some (.int (nI s)), some (.int (zI (so f s j))), some (.int ((nI j) + 1))]) (st' := []) rfl ?_
        rw [nI_1, ← e]
        exact ih (j + 1) (by omega)
      · have hb2 : s.testBit j = true := by cases hh : s.testBit j with | true => rfl | false => exact absurd (hbit.mpr hh) hb
        have e : so f s (j + 1) = so f s j + f j := by show so f s j + _ = _; rw [hb2]; simp
        refine am_go cd_S_sumOver hc_S_sumOver 13 3 (pc' := 21) (L' := [some (.ref a), some (.int (nI s)), some (.int (zI (so f s j))), some (.int (nI j))]) (st' := [.int (nI j), .ref a, .int (zI (so f s j))]) rfl ?_
        refine am_iaload (j) (am_at hc_S_sumOver 16 rfl) hk ha rfl (by omega) (by omega) ?_
        refine am_go cd_S_sumOver hc_S_sumOver 17 3 (pc' := 27) (L' := [some (.ref a), some (.int (nI s)), some (.int ((zI (so f s j)) + (d a j))), some (.int ((nI j) + 1))]) (st' := []) rfl ?_
        rw [hf j (by omega), zI_add, ← e]
        refine am_go cd_S_sumOver hc_S_sumOver 20 1 (pc' := 4) (L' := [some (.ref a), some (.int (nI s)), some (.int (zI (so f s (j + 1)))), some (.int ((nI j) + 1))]) (st' := []) rfl ?_
        rw [nI_1]
        exact ih (j + 1) (by omega)
  exact loop 6 0 rfl
