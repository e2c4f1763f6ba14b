theorem am_u_o {d : am_D} {a j b k : Nat} {v : Int32} (h : ¬ (b = a ∧ k = j)) : am_u d a j v b k = d b k := by unfold am_u; rw [if_neg h]
theorem am_u_i {d : am_D} {a j : Nat} {v : Int32} : am_u d a j v a j = v := by unfold am_u; rw [if_pos ⟨rfl, rfl⟩]
theorem bI_t : bI true = 1 := rfl
theorem bI_f : bI false = 0 := rfl
/-- number and place set -/
def rnD (d : am_D) (p : Nat) (v : Int32) : am_D := am_u (am_u d 13 3 v) 13 2 (nI p)
theorem rnD_s (d : am_D) (p q : Nat) (v w : Int32) : am_u (am_u (rnD d p v) 13 3 w) 13 2 (nI q) = rnD d q w := by
  funext b k; unfold rnD am_u
  by_cases h1 : b = 13 ∧ k = 2
  · simp [h1]
  · by_cases h2 : b = 13 ∧ k = 3
    · simp [h2]
    · simp [h1, h2]
theorem rnD_2 (d : am_D) (p : Nat) (v : Int32) : rnD d p v 13 2 = nI p := am_u_i
theorem rnD_3 (d : am_D) (p : Nat) (v : Int32) : rnD d p v 13 3 = v := by unfold rnD; rw [am_u_o (by decide), am_u_i]
theorem rnD_ok {d : am_D} {T : Nat → Nat} {n : Nat} (h : rd_ok d T n) (p : Nat) (v : Int32) : rd_ok (rnD d p v) T n := h.to (by unfold rnD; rw [am_u_o (by decide), am_u_o (by decide)]) (by unfold rnD; rw [am_u_ne 14 (by decide), am_u_ne 14 (by decide)])
theorem pr_dg_lt {T : Nat → Nat} {n p : Nat} (h : pr_dg T n p = true) : p < n ∧ 48 ≤ T p ∧ T p ≤ 57 := of_decide_eq_true h
theorem pr_lt_lt {T : Nat → Nat} {n p : Nat} (h : pr_lt T n p = true) : p < n ∧ 97 ≤ T p ∧ T p ≤ 102 := of_decide_eq_true h
theorem pr_se_lt {T : Nat → Nat} {n p c : Nat} (h : pr_se T n p c = true) : p < n ∧ T p = c := of_decide_eq_true h
theorem c_B_readNumber {l : Launch} {x : am_X} {e L : Nat} {d : am_D} {T : Nat → Nat} {n : Nat} (hr : rd_ok d T n) {p : Nat} (hp : d 13 2 = nI p) (hp2 : p ≤ 900) : cM l x (e + 1) L m_B_readNumber [.ref 13] d (cR (some (.int (bI (pr_dg T n p)))) (if pr_dg T n p = true then rnD d (pr_num T n 3 p 0).1 (nI (pr_num T n 3 p 0).2) else d)) := by
  refine cM.go (by decide) (by simp [Value.category]) (Nat.le_of_ble_eq_true rfl) ?_
  have hn := hr.2.1
  refine am_go cd_B_readNumber hc_B_readNumber 0 1 (pc' := 1) (L' := [some (.ref 13), none]) (st' := [.ref 13]) rfl ?_
  refine cW.callV1 4 [.int (bI (pr_dg T n p))] (st := []) [] (am_at hc_B_readNumber 1 rfl) g_B_seesDigit (Or.inl (tw 189 rfl rfl)) (tw 191 rfl rfl) (tp 9 rfl rfl) 1 k_r1 rfl (by decide) rfl rfl rfl rfl (Nat.le_of_ble_eq_true rfl) (c_B_seesDigit hr hp (Nat.le_trans hp2 (by decide))) rfl rfl ?_
  cases hg : pr_dg T n p with
  | false =>
    simp only [bI_f]
    refine am_if_ne 9 (am_at hc_B_readNumber 2 rfl) (by decide) (fun h1 => absurd rfl h1) (fun h1 => ?_)
    refine am_go cd_B_readNumber hc_B_readNumber 3 1 (pc' := 8) (L' := [some (.ref 13), none]) (st' := [.int 0]) rfl ?_
    exact am_iret (am_at hc_B_readNumber 4 rfl) rfl rfl (cR_in rfl rfl)
  | true =>
    simp only [bI_t]
    refine am_if_ne 9 (am_at hc_B_readNumber 2 rfl) (by decide) (fun h1 => ?_) (fun h1 => absurd h1 (by decide))
    refine am_go cd_B_readNumber hc_B_readNumber 5 2 (pc' := 11) (L' := [some (.ref 13), none]) (st' := [.int 0, .ref 13]) rfl ?_
    refine am_putI 1 3 k_r1 (am_at hc_B_readNumber 7 rfl) rfl (by decide) rfl (by decide) k_ok1 (tw 28 rfl rfl) rfl rfl rfl rfl ?_
    refine am_go cd_B_readNumber hc_B_readNumber 8 2 (pc' := 16) (L' := [some (.ref 13), some (.int 0)]) (st' := []) rfl ?_
    generalize hN : pr_num T n 3 p 0 = Nn
    have loop : ∀ k j q v, j + k = 3 → q ≤ p + j → pr_num T n k q v = Nn → cW l x (e + 1) L m_B_readNumber 16 [some (.ref 13), some (.int (nI j))] [] (rnD d q (nI v)) (cR (some (.int 1)) (rnD d Nn.1 (nI Nn.2))) := by
      intro k
      induction k with
      | zero =>
        intro j q v hj hq he
        refine am_go cd_B_readNumber hc_B_readNumber 10 2 (pc' := 18) (L' := [some (.ref 13), some (.int (nI j))]) (st' := [.int 3, .int (nI j)]) rfl ?_
        refine am_icmp_ge 68 (am_at hc_B_readNumber 12 rfl) (by decide) (fun h => ?_) (fun h => absurd (nI_le (a := 3) (b := j) (by omega) (by omega)) h)
        refine am_go cd_B_readNumber hc_B_readNumber 38 1 (pc' := 69) (L' := [some (.ref 13), some (.int (nI j))]) (st' := [.int 1]) rfl ?_
        exact am_iret (am_at hc_B_readNumber 39 rfl) rfl rfl (cR_in rfl (by rw [← he]; rfl))
      | succ k ih =>
        intro j q v hj hq he
        unfold pr_num at he
        refine am_go cd_B_readNumber hc_B_readNumber 10 2 (pc' := 18) (L' := [some (.ref 13), some (.int (nI j))]) (st' := [.int 3, .int (nI j)]) rfl ?_
        refine am_icmp_ge 68 (am_at hc_B_readNumber 12 rfl) (by decide) (fun h => absurd h (nI_ge (a := j) (b := 3) (by omega) (by omega))) (fun h => ?_)
        refine am_go cd_B_readNumber hc_B_readNumber 13 1 (pc' := 22) (L' := [some (.ref 13), some (.int (nI j))]) (st' := [.ref 13]) rfl ?_
        refine cW.callV1 25 [.int (bI (pr_dg T n q))] (st := []) [] (am_at hc_B_readNumber 14 rfl) g_B_seesDigit (Or.inl (tw 189 rfl rfl)) (tw 191 rfl rfl) (tp 9 rfl rfl) 1 k_r1 rfl (by decide) rfl rfl rfl rfl (Nat.le_of_ble_eq_true rfl) (c_B_seesDigit (rnD_ok hr q (nI v)) (rnD_2 d q (nI v)) (by omega)) rfl rfl ?_
        cases hg2 : pr_dg T n q with
        | false =>
          rw [hg2, if_neg (by decide)] at he
          simp only [bI_f]
          refine am_if_eq 68 (am_at hc_B_readNumber 15 rfl) (by decide) (fun h3 => ?_) (fun h3 => absurd rfl h3)
          refine am_go cd_B_readNumber hc_B_readNumber 38 1 (pc' := 69) (L' := [some (.ref 13), some (.int (nI j))]) (st' := [.int 1]) rfl ?_
          exact am_iret (am_at hc_B_readNumber 39 rfl) rfl rfl (cR_in rfl (by rw [← he]))
        | true =>
          rw [hg2, if_pos rfl] at he
          simp only [bI_t]
          refine am_if_eq 68 (am_at hc_B_readNumber 15 rfl) (by decide) (fun h3 => absurd h3 (by decide)) (fun h3 => ?_)
          obtain ⟨z1, z2, z3⟩ := pr_dg_lt hg2
          refine am_go cd_B_readNumber hc_B_readNumber 16 2 (pc' := 30) (L' := [some (.ref 13), some (.int (nI j))]) (st' := [.ref 13, .ref 13]) rfl ?_
          refine am_getf 1 3 k_r1 (am_at hc_B_readNumber 18 rfl) rfl (by decide) rfl (by decide) k_ok1 (Or.inl (tw 28 rfl rfl)) (congrArg Value.int (rnD_3 d q (nI v))) ?_
          refine am_go cd_B_readNumber hc_B_readNumber 19 3 (pc' := 37) (L' := [some (.ref 13), some (.int (nI j))]) (st' := [.ref 13, .int (nI v * 10), .ref 13]) rfl ?_
          refine am_getf 1 0 k_r1 (am_at hc_B_readNumber 22 rfl) rfl (by decide) rfl (by decide) k_ok1 (Or.inl (tw 25 rfl rfl)) rfl ?_
          refine am_go cd_B_readNumber hc_B_readNumber 23 1 (pc' := 41) (L' := [some (.ref 13), some (.int (nI j))]) (st' := [.ref 13, .ref 14, .int (nI v * 10), .ref 13]) rfl ?_
          refine am_getf 1 2 k_r1 (am_at hc_B_readNumber 24 rfl) rfl (by decide) rfl (by decide) k_ok1 (Or.inl (tw 27 rfl rfl)) (congrArg Value.int (rnD_2 d q (nI v))) ?_
          refine am_caload (q) (am_at hc_B_readNumber 25 rfl) rfl (by decide) rfl (by show q < 40; omega) (Nat.le_of_ble_eq_true rfl) ?_
          rw [show rnD d q (nI v) 14 q = nI (T q) from ((rnD_ok hr q (nI v)).2.2 q z1).1]
          refine am_go cd_B_readNumber hc_B_readNumber 26 2 (pc' := 48) (L' := [some (.ref 13), some (.int (nI j))]) (st' := [.int (nI (T q) - 48), .int (nI v * 10), .ref 13]) rfl ?_
          rw [show nI (T q) - 48 = nI (T q - 48) from pk_sub z2]
          rw [show nI v * 10 = nI (v * 10) from pk_mul v 10]
          refine am_go cd_B_readNumber hc_B_readNumber 28 1 (pc' := 49) (L' := [some (.ref 13), some (.int (nI j))]) (st' := [.int (nI (v * 10) + nI (T q - 48)), .ref 13]) rfl ?_
          rw [show nI (v * 10) + nI (T q - 48) = nI (v * 10 + (T q - 48)) from nI_add _ _]
          refine am_putI 1 3 k_r1 (am_at hc_B_readNumber 29 rfl) rfl (by decide) rfl (by decide) k_ok1 (tw 28 rfl rfl) rfl rfl rfl rfl ?_
          refine am_go cd_B_readNumber hc_B_readNumber 30 2 (pc' := 54) (L' := [some (.ref 13), some (.int (nI j))]) (st' := [.ref 13, .ref 13]) rfl ?_
          refine am_getf 1 2 k_r1 (am_at hc_B_readNumber 32 rfl) rfl (by decide) rfl (by decide) k_ok1 (Or.inl (tw 27 rfl rfl)) (congrArg Value.int ((am_u_o (by decide)).trans (rnD_2 d q (nI v)))) ?_
          refine am_go cd_B_readNumber hc_B_readNumber 33 2 (pc' := 59) (L' := [some (.ref 13), some (.int (nI j))]) (st' := [.int (nI q + 1), .ref 13]) rfl ?_
          rw [show nI q + 1 = nI (q + 1) from nI_1 _]
          refine am_putI 1 2 k_r1 (am_at hc_B_readNumber 35 rfl) rfl (by decide) rfl (by decide) k_ok1 (tw 27 rfl rfl) rfl rfl rfl rfl ?_
          refine am_go cd_B_readNumber hc_B_readNumber 36 2 (pc' := 16) (L' := [some (.ref 13), some (.int (nI j + 1))]) (st' := []) rfl ?_
          rw [nI_1, rnD_s]
          exact ih (j + 1) (q + 1) _ (by omega) (by omega) he
    have h0 := loop 3 0 p 0 rfl (by omega) hN
    have e0 : rnD d p (nI 0) = am_u d 13 3 0 := by
      unfold rnD; funext b k; unfold am_u; by_cases z : b = 13 ∧ k = 2
      · obtain ⟨rfl, rfl⟩ := z; simp [hp]
      · simp [z]; rfl
    rw [e0] at h0
    exact h0
theorem nI_sh : ∀ t, 97 ≤ t → t ≤ 102 → (1 : Int32) <<< ((nI t - 97) &&& 31) = nI (2 ^ (t - 97)) := by
  intro t h1 h2
  have h : t = 97 ∨ t = 98 ∨ t = 99 ∨ t = 100 ∨ t = 101 ∨ t = 102 := by omega
  rcases h with rfl | rfl | rfl | rfl | rfl | rfl <;> decide +kernel
theorem let_bit : ∀ m, m < 64 → ∀ i, i < 6 → ((m &&& 2 ^ i = 0 ↔ m.testBit i = false) ∧ m ||| 2 ^ i < 64) := by decide +kernel
/-- the place set -/
theorem am_u_u (d : am_D) (a j : Nat) (v w : Int32) : am_u (am_u d a j v) a j w = am_u d a j w := by
  funext b k; unfold am_u
  by_cases h1 : b = a ∧ k = j
  · simp [h1]
  · simp [h1]
theorem am_u_id {d : am_D} {a j : Nat} {v : Int32} (h : d a j = v) : am_u d a j v = d := by
  funext b k; unfold am_u
  by_cases h1 : b = a ∧ k = j
  · obtain ⟨rfl, rfl⟩ := h1; simp [h]
  · simp [h1]
theorem rd_ok_u {d : am_D} {T : Nat → Nat} {n : Nat} (h : rd_ok d T n) {j : Nat} {v : Int32} (hj : j ≠ 1) : rd_ok (am_u d 13 j v) T n := h.to (am_u_o (fun z => hj z.2.symm)) (am_u_ne 14 (by decide))
theorem pr_let_lt (T : Nat → Nat) (n : Nat) : ∀ k p m, m < 64 → (pr_let T n k p m).2 < 64
  | 0, p, m, h => h
  | k + 1, p, m, h => by
    unfold pr_let
    split
    · rename_i z
      obtain ⟨z1, z2, z3⟩ := pr_lt_lt z.1
      exact pr_let_lt T n k (p + 1) _ (let_bit m h _ (by omega)).2
    · exact h
theorem pr_let_ge (T : Nat → Nat) (n : Nat) : ∀ k p m, p ≤ (pr_let T n k p m).1 ∧ (pr_let T n k p m).1 ≤ p + k
  | 0, p, m => ⟨Nat.le_refl _, Nat.le_refl _⟩
  | k + 1, p, m => by
    unfold pr_let
    split
    · have := pr_let_ge T n k (p + 1) (m ||| 2 ^ (T p - 97)); omega
    · exact ⟨Nat.le_refl _, by omega⟩
theorem pr_num_ge (T : Nat → Nat) (n : Nat) : ∀ k p v, p ≤ (pr_num T n k p v).1 ∧ (pr_num T n k p v).1 ≤ p + k
  | 0, p, m => ⟨Nat.le_refl _, Nat.le_refl _⟩
  | k + 1, p, m => by
    unfold pr_num
    split
    · have := pr_num_ge T n k (p + 1) (m * 10 + (T p - 48)); omega
    · exact ⟨Nat.le_refl _, by omega⟩
theorem c_B_readLetters {l : Launch} {x : am_X} {e L : Nat} {d : am_D} {T : Nat → Nat} {n : Nat} (hr : rd_ok d T n) {p v : Nat} (hp : d 13 2 = nI p) (hp2 : p ≤ 900) (hv : d 13 3 = zI v) : cM l x (e + 1) L m_B_readLetters [.ref 13] d (cR (some (.int (if (pr_let T n 6 p 0).2 = 0 then 0 else 1))) (am_tb (am_u d 13 2 (nI (pr_let T n 6 p 0).1)) 15 64 (fun s => zI (pr_bun v (pr_let T n 6 p 0).2 s)))) := by
  refine cM.go (by decide) (by simp [Value.category]) (Nat.le_of_ble_eq_true rfl) ?_
  have hn := hr.2.1
  generalize hR : pr_let T n 6 p 0 = Rr
  have hR64 : Rr.2 < 64 := by rw [← hR]; exact pr_let_lt T n 6 p 0 (by decide)
  refine am_go cd_B_readLetters hc_B_readLetters 0 4 (pc' := 4) (L' := [some (.ref 13), some (.int 0), some (.int 0), none]) (st' := []) rfl ?_
  have loop2 : ∀ k j, j + k = 64 → cW l x (e + 1) L m_B_readLetters 63 [some (.ref 13), some (.int (nI Rr.2)), some (.int (nI j)), none] [] (am_tb (am_u d 13 2 (nI Rr.1)) 15 j (fun s => zI (pr_bun v Rr.2 s))) (cR (some (.int (if Rr.2 = 0 then 0 else 1))) (am_tb (am_u d 13 2 (nI Rr.1)) 15 64 (fun s => zI (pr_bun v Rr.2 s)))) := by
    intro k
    induction k with
    | zero =>
      intro j hj
      refine am_go cd_B_readLetters hc_B_readLetters 39 2 (pc' := 66) (L' := [some (.ref 13), some (.int (nI Rr.2)), some (.int (nI j)), none]) (st' := [.int 64, .int (nI j)]) rfl ?_
      refine am_icmp_ge 96 (am_at hc_B_readLetters 41 rfl) (by decide) (fun h => ?_) (fun h => absurd (nI_le (a := 64) (b := j) (by omega) (by omega)) h)
      refine am_go cd_B_readLetters hc_B_readLetters 57 1 (pc' := 97) (L' := [some (.ref 13), some (.int (nI Rr.2)), some (.int (nI j)), none]) (st' := [.int (nI Rr.2)]) rfl ?_
      refine am_if_eq 104 (am_at hc_B_readLetters 58 rfl) (by decide) (fun h3 => ?_) (fun h3 => ?_)
      · have z : Rr.2 = 0 := (nI_eq (b := 0) (by omega) (by omega)).mp h3
        refine am_go cd_B_readLetters hc_B_readLetters 61 1 (pc' := 105) (L' := [some (.ref 13), some (.int (nI Rr.2)), some (.int (nI j)), none]) (st' := [.int 0]) rfl ?_
        exact am_iret (am_at hc_B_readLetters 62 rfl) rfl rfl (cR_in (by rw [if_pos z]) (by rw [show j = 64 by omega]))
      · have z : ¬ Rr.2 = 0 := fun z => h3 (by rw [z]; rfl)
        refine am_go cd_B_readLetters hc_B_readLetters 59 2 (pc' := 105) (L' := [some (.ref 13), some (.int (nI Rr.2)), some (.int (nI j)), none]) (st' := [.int 1]) rfl ?_
        exact am_iret (am_at hc_B_readLetters 62 rfl) rfl rfl (cR_in (by rw [if_neg z]) (by rw [show j = 64 by omega]))
    | succ k ih =>
      intro j hj
      refine am_go cd_B_readLetters hc_B_readLetters 39 2 (pc' := 66) (L' := [some (.ref 13), some (.int (nI Rr.2)), some (.int (nI j)), none]) (st' := [.int 64, .int (nI j)]) rfl ?_
      refine am_icmp_ge 96 (am_at hc_B_readLetters 41 rfl) (by decide) (fun h => absurd h (nI_ge (a := j) (b := 64) (by omega) (by omega))) (fun h => ?_)
      refine am_go cd_B_readLetters hc_B_readLetters 42 1 (pc' := 70) (L' := [some (.ref 13), some (.int (nI Rr.2)), some (.int (nI j)), none]) (st' := [.ref 13]) rfl ?_
      refine am_getf 1 5 k_r1 (am_at hc_B_readLetters 43 rfl) rfl (by decide) rfl (by decide) k_ok1 (Or.inl (tw 31 rfl rfl)) rfl ?_
      refine am_go cd_B_readLetters hc_B_readLetters 44 4 (pc' := 77) (L' := [some (.ref 13), some (.int (nI Rr.2)), some (.int (nI j)), none]) (st' := [.int (nI j &&& nI Rr.2), .int (nI j), .ref 15]) rfl ?_
      rw [show nI j &&& nI Rr.2 = nI (j &&& Rr.2) from nI_and _ _]
      refine am_go cd_B_readLetters hc_B_readLetters 48 1 (pc' := 78) (L' := [some (.ref 13), some (.int (nI Rr.2)), some (.int (nI j)), none]) (st' := [.int (nI Rr.2), .int (nI (j &&& Rr.2)), .int (nI j), .ref 15]) rfl ?_
      have hle : j &&& Rr.2 ≤ Rr.2 := Nat.and_le_right
      refine am_icmp_ne 88 (am_at hc_B_readLetters 49 rfl) (by decide) (fun h3 => ?_) (fun h3 => ?_)
      · have z : ¬ (j &&& Rr.2 = Rr.2) := fun z => h3 (by rw [z])
        refine am_go cd_B_readLetters hc_B_readLetters 53 1 (pc' := 89) (L' := [some (.ref 13), some (.int (nI Rr.2)), some (.int (nI j)), none]) (st' := [.int 0, .int (nI j), .ref 15]) rfl ?_
        refine am_iastore (j) (am_at hc_B_readLetters 54 rfl) rfl (by decide) rfl (by show j < 64; omega) (Nat.le_of_ble_eq_true rfl) ?_
        refine am_go cd_B_readLetters hc_B_readLetters 55 2 (pc' := 63) (L' := [some (.ref 13), some (.int (nI Rr.2)), some (.int (nI j + 1)), none]) (st' := []) rfl ?_
        have e1 := am_tb_s (am_u d 13 2 (nI Rr.1)) 15 j (fun s => zI (pr_bun v Rr.2 s))
        rw [show zI (pr_bun v Rr.2 j) = 0 from by unfold pr_bun; rw [if_neg z]; rfl] at e1
        rw [nI_1, e1]
        exact ih (j + 1) (by omega)
      · have z : j &&& Rr.2 = Rr.2 := (nI_eq (by omega) (by omega)).mp h3
        refine am_go cd_B_readLetters hc_B_readLetters 50 1 (pc' := 82) (L' := [some (.ref 13), some (.int (nI Rr.2)), some (.int (nI j)), none]) (st' := [.ref 13, .int (nI j), .ref 15]) rfl ?_
        refine am_getf 1 3 k_r1 (am_at hc_B_readLetters 51 rfl) rfl (by decide) rfl (by decide) k_ok1 (Or.inl (tw 28 rfl rfl)) (congrArg Value.int ((congrFun (am_tb_ne (by decide)) 3).trans ((am_u_o (by decide)).trans hv))) ?_
        refine am_go cd_B_readLetters hc_B_readLetters 52 1 (pc' := 89) (L' := [some (.ref 13), some (.int (nI Rr.2)), some (.int (nI j)), none]) (st' := [.int (zI v), .int (nI j), .ref 15]) rfl ?_
        refine am_iastore (j) (am_at hc_B_readLetters 54 rfl) rfl (by decide) rfl (by show j < 64; omega) (Nat.le_of_ble_eq_true rfl) ?_
        refine am_go cd_B_readLetters hc_B_readLetters 55 2 (pc' := 63) (L' := [some (.ref 13), some (.int (nI Rr.2)), some (.int (nI j + 1)), none]) (st' := []) rfl ?_
        have e1 := am_tb_s (am_u d 13 2 (nI Rr.1)) 15 j (fun s => zI (pr_bun v Rr.2 s))
        rw [show zI (pr_bun v Rr.2 j) = zI v from by unfold pr_bun; rw [if_pos z]] at e1
        rw [nI_1, e1]
        exact ih (j + 1) (by omega)
  have mid : cW l x (e + 1) L m_B_readLetters 61 [some (.ref 13), some (.int (nI Rr.2)), none, none] [] (am_u d 13 2 (nI Rr.1)) (cR (some (.int (if Rr.2 = 0 then 0 else 1))) (am_tb (am_u d 13 2 (nI Rr.1)) 15 64 (fun s => zI (pr_bun v Rr.2 s)))) := by
    refine am_go cd_B_readLetters hc_B_readLetters 37 2 (pc' := 63) (L' := [some (.ref 13), some (.int (nI Rr.2)), some (.int 0), none]) (st' := []) rfl ?_
    have h0 := loop2 64 0 rfl
    rw [am_tb_0] at h0
    exact h0
  have loop : ∀ k j q m, j + k = 6 → q ≤ p + j → m < 64 → pr_let T n k q m = Rr → cW l x (e + 1) L m_B_readLetters 4 [some (.ref 13), some (.int (nI m)), some (.int (nI j)), none] [] (am_u d 13 2 (nI q)) (cR (some (.int (if Rr.2 = 0 then 0 else 1))) (am_tb (am_u d 13 2 (nI Rr.1)) 15 64 (fun s => zI (pr_bun v Rr.2 s)))) := by
    intro k
    induction k with
    | zero =>
      intro j q m hj hq hm he
      refine am_go cd_B_readLetters hc_B_readLetters 4 2 (pc' := 7) (L' := [some (.ref 13), some (.int (nI m)), some (.int (nI j)), none]) (st' := [.int 6, .int (nI j)]) rfl ?_
      refine am_icmp_ge 61 (am_at hc_B_readLetters 6 rfl) (by decide) (fun h => ?_) (fun h => absurd (nI_le (a := 6) (b := j) (by omega) (by omega)) h)
      unfold pr_let at he
      have hq1 : q = Rr.1 := congrArg Prod.fst he
      have hm1 : m = Rr.2 := congrArg Prod.snd he
      refine am_weak (L' := [some (.ref 13), some (.int (nI m)), none, none]) ⟨rfl, rfl, trivial⟩ ?_
      rw [hq1, hm1]
      exact mid
    | succ k ih =>
      intro j q m hj hq hm he
      unfold pr_let at he
      refine am_go cd_B_readLetters hc_B_readLetters 4 2 (pc' := 7) (L' := [some (.ref 13), some (.int (nI m)), some (.int (nI j)), none]) (st' := [.int 6, .int (nI j)]) rfl ?_
      refine am_icmp_ge 61 (am_at hc_B_readLetters 6 rfl) (by decide) (fun h => absurd h (nI_ge (a := j) (b := 6) (by omega) (by omega))) (fun h => ?_)
      refine am_go cd_B_readLetters hc_B_readLetters 7 1 (pc' := 11) (L' := [some (.ref 13), some (.int (nI m)), some (.int (nI j)), none]) (st' := [.ref 13]) rfl ?_
      refine cW.callV1 14 [.int (bI (pr_lt T n q))] (st := []) [] (am_at hc_B_readLetters 8 rfl) g_B_seesLetter (Or.inl (tw 197 rfl rfl)) (tw 199 rfl rfl) (tp 11 rfl rfl) 1 k_r1 rfl (by decide) rfl rfl rfl rfl (Nat.le_of_ble_eq_true rfl) (c_B_seesLetter (rd_ok_u hr (by decide)) am_u_i (by omega)) rfl rfl ?_
      cases hg2 : pr_lt T n q with
      | false =>
        rw [hg2, if_neg (fun z => by cases z.1)] at he
        simp only [bI_f]
        refine am_if_eq 61 (am_at hc_B_readLetters 9 rfl) (by decide) (fun h3 => ?_) (fun h3 => absurd rfl h3)
        have hq1 : q = Rr.1 := congrArg Prod.fst he
        have hm1 : m = Rr.2 := congrArg Prod.snd he
        refine am_weak (L' := [some (.ref 13), some (.int (nI m)), none, none]) ⟨rfl, rfl, trivial⟩ ?_
        rw [hq1, hm1]
        exact mid
      | true =>
        simp only [bI_t]
        refine am_if_eq 61 (am_at hc_B_readLetters 9 rfl) (by decide) (fun h3 => absurd h3 (by decide)) (fun h3 => ?_)
        obtain ⟨z1, z2, z3⟩ := pr_lt_lt hg2
        have hbit := let_bit m hm (T q - 97) (by omega)
        refine am_go cd_B_readLetters hc_B_readLetters 10 2 (pc' := 19) (L' := [some (.ref 13), some (.int (nI m)), some (.int (nI j)), none]) (st' := [.ref 13, .int 1]) rfl ?_
        refine am_getf 1 0 k_r1 (am_at hc_B_readLetters 12 rfl) rfl (by decide) rfl (by decide) k_ok1 (Or.inl (tw 25 rfl rfl)) rfl ?_
        refine am_go cd_B_readLetters hc_B_readLetters 13 1 (pc' := 23) (L' := [some (.ref 13), some (.int (nI m)), some (.int (nI j)), none]) (st' := [.ref 13, .ref 14, .int 1]) rfl ?_
        refine am_getf 1 2 k_r1 (am_at hc_B_readLetters 14 rfl) rfl (by decide) rfl (by decide) k_ok1 (Or.inl (tw 27 rfl rfl)) (congrArg Value.int am_u_i) ?_
        refine am_caload (q) (am_at hc_B_readLetters 15 rfl) rfl (by decide) rfl (by show q < 40; omega) (Nat.le_of_ble_eq_true rfl) ?_
        rw [show am_u d 13 2 (nI q) 14 q = nI (T q) from (congrFun (am_u_ne 14 (by decide)) q).trans (hr.2.2 q z1).1]
        refine am_go cd_B_readLetters hc_B_readLetters 16 3 (pc' := 31) (L' := [some (.ref 13), some (.int (nI m)), some (.int (nI j)), none]) (st' := [.int (1 <<< ((nI (T q) - 97) &&& 31))]) rfl ?_
        rw [nI_sh (T q) z2 z3]
        refine am_go cd_B_readLetters hc_B_readLetters 19 4 (pc' := 35) (L' := [some (.ref 13), some (.int (nI m)), some (.int (nI j)), some (.int (nI (2 ^ (T q - 97))))]) (st' := [.int (nI m &&& nI (2 ^ (T q - 97)))]) rfl ?_
        rw [show nI m &&& nI (2 ^ (T q - 97)) = nI (m &&& 2 ^ (T q - 97)) from nI_and _ _]
        have hle : m &&& 2 ^ (T q - 97) ≤ m := Nat.and_le_left
        refine am_if_eq 41 (am_at hc_B_readLetters 23 rfl) (by decide) (fun h4 => ?_) (fun h4 => ?_)
        · have z4 : m &&& 2 ^ (T q - 97) = 0 := (nI_eq (b := 0) (by omega) (by omega)).mp h4
          rw [if_pos ⟨hg2, hbit.1.mp z4⟩] at he
          refine am_go cd_B_readLetters hc_B_readLetters 25 3 (pc' := 44) (L' := [some (.ref 13), some (.int (nI m)), some (.int (nI j)), some (.int (nI (2 ^ (T q - 97))))]) (st' := [.int (nI m ||| nI (2 ^ (T q - 97)))]) rfl ?_
          rw [show nI m ||| nI (2 ^ (T q - 97)) = nI (m ||| 2 ^ (T q - 97)) from nI_or _ _]
          refine am_go cd_B_readLetters hc_B_readLetters 28 3 (pc' := 47) (L' := [some (.ref 13), some (.int (nI (m ||| 2 ^ (T q - 97)))), some (.int (nI j)), some (.int (nI (2 ^ (T q - 97))))]) (st' := [.ref 13, .ref 13]) rfl ?_
          refine am_getf 1 2 k_r1 (am_at hc_B_readLetters 31 rfl) rfl (by decide) rfl (by decide) k_ok1 (Or.inl (tw 27 rfl rfl)) (congrArg Value.int am_u_i) ?_
          refine am_go cd_B_readLetters hc_B_readLetters 32 2 (pc' := 52) (L' := [some (.ref 13), some (.int (nI (m ||| 2 ^ (T q - 97)))), some (.int (nI j)), some (.int (nI (2 ^ (T q - 97))))]) (st' := [.int (nI q + 1), .ref 13]) rfl ?_
          rw [show nI q + 1 = nI (q + 1) from nI_1 _]
          refine am_putI 1 2 k_r1 (am_at hc_B_readLetters 34 rfl) rfl (by decide) rfl (by decide) k_ok1 (tw 27 rfl rfl) rfl rfl rfl rfl ?_
          refine am_go cd_B_readLetters hc_B_readLetters 35 2 (pc' := 4) (L' := [some (.ref 13), some (.int (nI (m ||| 2 ^ (T q - 97)))), some (.int (nI j + 1)), some (.int (nI (2 ^ (T q - 97))))]) (st' := []) rfl ?_
          refine am_weak (L' := [some (.ref 13), some (.int (nI (m ||| 2 ^ (T q - 97)))), some (.int (nI j + 1)), none]) ⟨rfl, rfl, rfl, trivial⟩ ?_
          rw [nI_1, am_u_u]
          exact ih (j + 1) (q + 1) _ (by omega) (by omega) hbit.2 he
        · have z4 : ¬ (m.testBit (T q - 97) = false) := fun z => h4 (by rw [hbit.1.mpr z]; rfl)
          rw [if_neg (fun z => z4 z.2)] at he
          have hq1 : q = Rr.1 := congrArg Prod.fst he
          have hm1 : m = Rr.2 := congrArg Prod.snd he
          refine am_go cd_B_readLetters hc_B_readLetters 24 1 (pc' := 61) (L' := [some (.ref 13), some (.int (nI m)), some (.int (nI j)), some (.int (nI (2 ^ (T q - 97))))]) (st' := []) rfl ?_
          refine am_weak (L' := [some (.ref 13), some (.int (nI m)), none, none]) ⟨rfl, rfl, trivial⟩ ?_
          rw [hq1, hm1]
          exact mid
  have h0 := loop 6 0 p 0 rfl (by omega) (by decide) hR
  rw [am_u_id hp] at h0
  exact h0
theorem c_B_add {l : Launch} {x : am_X} {e L : Nat} {d : am_D} {n : Nat} (v : Int32) (hl : d 13 1 = nI n) (hn : n ≤ 40) : cM l x e L m_B_add [.ref 13, .int v] d (cR (some (.int (if v < 32 ∨ 126 < v ∨ 40 ≤ n then 0 else 1))) (if v < 32 ∨ 126 < v ∨ 40 ≤ n then d else am_u (am_u d 14 n (vp_nar .char v)) 13 1 (nI (n + 1)))) := by
  refine cM.go (by decide) (by simp [Value.category]) (Nat.le_of_ble_eq_true rfl) ?_
  refine am_go cd_B_add hc_B_add 0 2 (pc' := 3) (L' := [some (.ref 13), some (.int v)]) (st' := [.int 32, .int v]) rfl ?_
  refine am_icmp_lt 21 (am_at hc_B_add 2 rfl) (by decide) (fun h1 => ?_) (fun h1 => ?_)
  · simp only [if_pos (Or.inl h1 : v < 32 ∨ 126 < v ∨ 40 ≤ n)]
    refine am_go cd_B_add hc_B_add 10 1 (pc' := 22) (L' := [some (.ref 13), some (.int v)]) (st' := [.int 0]) rfl ?_
    exact am_iret (am_at hc_B_add 11 rfl) rfl rfl (cR_in rfl rfl)
  · skip
    refine am_go cd_B_add hc_B_add 3 2 (pc' := 9) (L' := [some (.ref 13), some (.int v)]) (st' := [.int 126, .int v]) rfl ?_
    refine am_icmp_gt 21 (am_at hc_B_add 5 rfl) (by decide) (fun h2 => ?_) (fun h2 => ?_)
    · simp only [if_pos (Or.inr (Or.inl h2) : v < 32 ∨ 126 < v ∨ 40 ≤ n)]
      refine am_go cd_B_add hc_B_add 10 1 (pc' := 22) (L' := [some (.ref 13), some (.int v)]) (st' := [.int 0]) rfl ?_
      exact am_iret (am_at hc_B_add 11 rfl) rfl rfl (cR_in rfl rfl)
    · skip
      refine am_go cd_B_add hc_B_add 6 1 (pc' := 13) (L' := [some (.ref 13), some (.int v)]) (st' := [.ref 13]) rfl ?_
      refine am_getf 1 1 k_r1 (am_at hc_B_add 7 rfl) rfl (by decide) rfl (by decide) k_ok1 (Or.inl (tw 26 rfl rfl)) (congrArg Value.int hl) ?_
      refine am_go cd_B_add hc_B_add 8 1 (pc' := 18) (L' := [some (.ref 13), some (.int v)]) (st' := [.int 40, .int (nI n)]) rfl ?_
      refine am_icmp_lt 23 (am_at hc_B_add 9 rfl) (by decide) (fun h3 => ?_) (fun h3 => ?_)
      · have z : n < 40 := (nI_ltI (b := 40) (by omega) (by omega)).mp h3
        have hno : ¬ (v < 32 ∨ 126 < v ∨ 40 ≤ n) := fun q => by rcases q with q | q | q; exact h1 q; exact h2 q; omega
        simp only [if_neg hno]
        refine am_go cd_B_add hc_B_add 12 1 (pc' := 24) (L' := [some (.ref 13), some (.int v)]) (st' := [.ref 13]) rfl ?_
        refine am_getf 1 0 k_r1 (am_at hc_B_add 13 rfl) rfl (by decide) rfl (by decide) k_ok1 (Or.inl (tw 25 rfl rfl)) rfl ?_
        refine am_go cd_B_add hc_B_add 14 1 (pc' := 28) (L' := [some (.ref 13), some (.int v)]) (st' := [.ref 13, .ref 14]) rfl ?_
        refine am_getf 1 1 k_r1 (am_at hc_B_add 15 rfl) rfl (by decide) rfl (by decide) k_ok1 (Or.inl (tw 26 rfl rfl)) (congrArg Value.int hl) ?_
        refine am_go cd_B_add hc_B_add 16 1 (pc' := 32) (L' := [some (.ref 13), some (.int v)]) (st' := [.int v, .int (nI n), .ref 14]) rfl ?_
        refine am_castore (n) (am_at hc_B_add 17 rfl) rfl (by decide) rfl (by show n < 40; omega) (Nat.le_of_ble_eq_true rfl) ?_
        refine am_go cd_B_add hc_B_add 18 2 (pc' := 35) (L' := [some (.ref 13), some (.int v)]) (st' := [.ref 13, .ref 13]) rfl ?_
        refine am_getf 1 1 k_r1 (am_at hc_B_add 20 rfl) rfl (by decide) rfl (by decide) k_ok1 (Or.inl (tw 26 rfl rfl)) (congrArg Value.int ((am_u_o (by omega)).trans hl)) ?_
        refine am_go cd_B_add hc_B_add 21 2 (pc' := 40) (L' := [some (.ref 13), some (.int v)]) (st' := [.int (nI n + 1), .ref 13]) rfl ?_
        rw [show nI n + 1 = nI (n + 1) from nI_1 _]
        refine am_putI 1 1 k_r1 (am_at hc_B_add 23 rfl) rfl (by decide) rfl (by decide) k_ok1 (tw 26 rfl rfl) rfl rfl rfl rfl ?_
        refine am_go cd_B_add hc_B_add 24 1 (pc' := 44) (L' := [some (.ref 13), some (.int v)]) (st' := [.int 1]) rfl ?_
        exact am_iret (am_at hc_B_add 25 rfl) rfl rfl (cR_in rfl rfl)
      · have z : 40 ≤ n := Nat.not_lt.mp (fun q => h3 ((nI_ltI (b := 40) (by omega) (by omega)).mpr q))
        simp only [if_pos (Or.inr (Or.inr z) : v < 32 ∨ 126 < v ∨ 40 ≤ n)]
        refine am_go cd_B_add hc_B_add 10 1 (pc' := 22) (L' := [some (.ref 13), some (.int v)]) (st' := [.int 0]) rfl ?_
        exact am_iret (am_at hc_B_add 11 rfl) rfl rfl (cR_in rfl rfl)
