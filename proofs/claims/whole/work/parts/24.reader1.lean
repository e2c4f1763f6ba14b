/-- the text stands in the reader -/
def rd_ok (d : am_D) (T : Nat → Nat) (n : Nat) : Prop := d 13 1 = nI n ∧ n ≤ 40 ∧ ∀ j, j < n → d 14 j = nI (T j) ∧ T j < 128
theorem rd_ok.to {d d' : am_D} {T : Nat → Nat} {n : Nat} (h : rd_ok d T n) (h1 : d' 13 1 = d 13 1) (h2 : d' 14 = d 14) : rd_ok d' T n := ⟨h1.trans h.1, h.2.1, fun j hj => by rw [h2]; exact h.2.2 j hj⟩
theorem c_B_sees {l : Launch} {x : am_X} {e L : Nat} {d : am_D} {T : Nat → Nat} {n : Nat} (hr : rd_ok d T n) {p : Nat} (c : Nat) (hc : c < 1000) (hp : d 13 2 = nI p) (hp2 : p ≤ 1000) : cM l x e L m_B_sees [.ref 13, .int (nI c)] d (cR (some (.int (bI (pr_se T n p c)))) d) := by
  refine cM.go (by decide) (by simp [Value.category]) (Nat.le_of_ble_eq_true rfl) ?_
  have hn := hr.2.1
  refine am_go cd_B_sees hc_B_sees 0 1 (pc' := 1) (L' := [some (.ref 13), some (.int (nI c))]) (st' := [.ref 13]) rfl ?_
  refine am_getf 1 2 k_r1 (am_at hc_B_sees 1 rfl) rfl (by decide) rfl (by decide) k_ok1 (Or.inl (tw 27 rfl rfl)) (congrArg Value.int hp) ?_
  refine am_go cd_B_sees hc_B_sees 2 1 (pc' := 5) (L' := [some (.ref 13), some (.int (nI c))]) (st' := [.ref 13, .int (nI p)]) rfl ?_
  refine am_getf 1 1 k_r1 (am_at hc_B_sees 3 rfl) rfl (by decide) rfl (by decide) k_ok1 (Or.inl (tw 26 rfl rfl)) (congrArg Value.int hr.1) ?_
  refine am_icmp_ge 28 (am_at hc_B_sees 4 rfl) (by decide) (fun h1 => ?_) (fun h1 => ?_)
  · have h2 := (nI_leI (by omega) (by omega)).mp h1
    have e0 : pr_se T n p c = false := decide_eq_false (fun z => by omega)
    refine am_go cd_B_sees hc_B_sees 14 1 (pc' := 29) (L' := [some (.ref 13), some (.int (nI c))]) (st' := [.int 0]) rfl ?_
    exact am_iret (am_at hc_B_sees 15 rfl) rfl rfl (cR_in (by rw [e0]; rfl) rfl)
  · have h2 : p < n := Nat.not_le.mp (fun z => h1 ((nI_leI (by omega) (by omega)).mpr z))
    have hT := (hr.2.2 p h2).1
    have hT2 := (hr.2.2 p h2).2
    refine am_go cd_B_sees hc_B_sees 5 1 (pc' := 12) (L' := [some (.ref 13), some (.int (nI c))]) (st' := [.ref 13]) rfl ?_
    refine am_getf 1 0 k_r1 (am_at hc_B_sees 6 rfl) rfl (by decide) rfl (by decide) k_ok1 (Or.inl (tw 25 rfl rfl)) rfl ?_
    refine am_go cd_B_sees hc_B_sees 7 1 (pc' := 16) (L' := [some (.ref 13), some (.int (nI c))]) (st' := [.ref 13, .ref 14]) rfl ?_
    refine am_getf 1 2 k_r1 (am_at hc_B_sees 8 rfl) rfl (by decide) rfl (by decide) k_ok1 (Or.inl (tw 27 rfl rfl)) (congrArg Value.int hp) ?_
    refine am_caload (p) (am_at hc_B_sees 9 rfl) rfl (by decide) rfl (by show p < 40; omega) (Nat.le_of_ble_eq_true rfl) ?_
    rw [show d 14 p = nI (T p) from hT]
    refine am_go cd_B_sees hc_B_sees 10 1 (pc' := 21) (L' := [some (.ref 13), some (.int (nI c))]) (st' := [.int (nI c), .int (nI (T p))]) rfl ?_
    refine am_icmp_ne 28 (am_at hc_B_sees 11 rfl) (by decide) (fun h3 => ?_) (fun h3 => ?_)
    · have e0 : pr_se T n p c = false := decide_eq_false (fun z => h3 (by rw [z.2]))
      refine am_go cd_B_sees hc_B_sees 14 1 (pc' := 29) (L' := [some (.ref 13), some (.int (nI c))]) (st' := [.int 0]) rfl ?_
      exact am_iret (am_at hc_B_sees 15 rfl) rfl rfl (cR_in (by rw [e0]; rfl) rfl)
    · have e0 : pr_se T n p c = true := decide_eq_true ⟨h2, (nI_eq (by omega) (by omega)).mp h3⟩
      refine am_go cd_B_sees hc_B_sees 12 2 (pc' := 29) (L' := [some (.ref 13), some (.int (nI c))]) (st' := [.int 1]) rfl ?_
      exact am_iret (am_at hc_B_sees 15 rfl) rfl rfl (cR_in (by rw [e0]; rfl) rfl)
theorem c_B_seesDigit {l : Launch} {x : am_X} {e L : Nat} {d : am_D} {T : Nat → Nat} {n : Nat} (hr : rd_ok d T n) {p : Nat} (hp : d 13 2 = nI p) (hp2 : p ≤ 1000) : cM l x e L m_B_seesDigit [.ref 13] d (cR (some (.int (bI (pr_dg T n p)))) d) := by
  refine cM.go (by decide) (by simp [Value.category]) (Nat.le_of_ble_eq_true rfl) ?_
  have hn := hr.2.1
  refine am_go cd_B_seesDigit hc_B_seesDigit 0 1 (pc' := 1) (L' := [some (.ref 13)]) (st' := [.ref 13]) rfl ?_
  refine am_getf 1 2 k_r1 (am_at hc_B_seesDigit 1 rfl) rfl (by decide) rfl (by decide) k_ok1 (Or.inl (tw 27 rfl rfl)) (congrArg Value.int hp) ?_
  refine am_go cd_B_seesDigit hc_B_seesDigit 2 1 (pc' := 5) (L' := [some (.ref 13)]) (st' := [.ref 13, .int (nI p)]) rfl ?_
  refine am_getf 1 1 k_r1 (am_at hc_B_seesDigit 3 rfl) rfl (by decide) rfl (by decide) k_ok1 (Or.inl (tw 26 rfl rfl)) (congrArg Value.int hr.1) ?_
  refine am_icmp_ge 43 (am_at hc_B_seesDigit 4 rfl) (by decide) (fun h1 => ?_) (fun h1 => ?_)
  · have h2 := (nI_leI (by omega) (by omega)).mp h1
    have e0 : pr_dg T n p = false := decide_eq_false (fun z => by omega)
    refine am_go cd_B_seesDigit hc_B_seesDigit 21 1 (pc' := 44) (L' := [some (.ref 13)]) (st' := [.int 0]) rfl ?_
    exact am_iret (am_at hc_B_seesDigit 22 rfl) rfl rfl (cR_in (by rw [e0]; rfl) rfl)
  · have h2 : p < n := Nat.not_le.mp (fun z => h1 ((nI_leI (by omega) (by omega)).mpr z))
    have hT := (hr.2.2 p h2).1
    have hT2 := (hr.2.2 p h2).2
    refine am_go cd_B_seesDigit hc_B_seesDigit 5 1 (pc' := 12) (L' := [some (.ref 13)]) (st' := [.ref 13]) rfl ?_
    refine am_getf 1 0 k_r1 (am_at hc_B_seesDigit 6 rfl) rfl (by decide) rfl (by decide) k_ok1 (Or.inl (tw 25 rfl rfl)) rfl ?_
    refine am_go cd_B_seesDigit hc_B_seesDigit 7 1 (pc' := 16) (L' := [some (.ref 13)]) (st' := [.ref 13, .ref 14]) rfl ?_
    refine am_getf 1 2 k_r1 (am_at hc_B_seesDigit 8 rfl) rfl (by decide) rfl (by decide) k_ok1 (Or.inl (tw 27 rfl rfl)) (congrArg Value.int hp) ?_
    refine am_caload (p) (am_at hc_B_seesDigit 9 rfl) rfl (by decide) rfl (by show p < 40; omega) (Nat.le_of_ble_eq_true rfl) ?_
    rw [show d 14 p = nI (T p) from hT]
    refine am_go cd_B_seesDigit hc_B_seesDigit 10 1 (pc' := 22) (L' := [some (.ref 13)]) (st' := [.int 48, .int (nI (T p))]) rfl ?_
    refine am_icmp_lt 43 (am_at hc_B_seesDigit 11 rfl) (by decide) (fun h3 => ?_) (fun h3 => ?_)
    · have h4 : T p < 48 := (nI_ltI (b := 48) (by omega) (by omega)).mp h3
      have e0 : pr_dg T n p = false := decide_eq_false (fun z => by omega)
      refine am_go cd_B_seesDigit hc_B_seesDigit 21 1 (pc' := 44) (L' := [some (.ref 13)]) (st' := [.int 0]) rfl ?_
      exact am_iret (am_at hc_B_seesDigit 22 rfl) rfl rfl (cR_in (by rw [e0]; rfl) rfl)
    · have h4 : 48 ≤ T p := Nat.not_lt.mp (fun z => h3 ((nI_ltI (b := 48) (by omega) (by omega)).mpr z))
      refine am_go cd_B_seesDigit hc_B_seesDigit 12 1 (pc' := 26) (L' := [some (.ref 13)]) (st' := [.ref 13]) rfl ?_
      refine am_getf 1 0 k_r1 (am_at hc_B_seesDigit 13 rfl) rfl (by decide) rfl (by decide) k_ok1 (Or.inl (tw 25 rfl rfl)) rfl ?_
      refine am_go cd_B_seesDigit hc_B_seesDigit 14 1 (pc' := 30) (L' := [some (.ref 13)]) (st' := [.ref 13, .ref 14]) rfl ?_
      refine am_getf 1 2 k_r1 (am_at hc_B_seesDigit 15 rfl) rfl (by decide) rfl (by decide) k_ok1 (Or.inl (tw 27 rfl rfl)) (congrArg Value.int hp) ?_
      refine am_caload (p) (am_at hc_B_seesDigit 16 rfl) rfl (by decide) rfl (by show p < 40; omega) (Nat.le_of_ble_eq_true rfl) ?_
      rw [show d 14 p = nI (T p) from hT]
      refine am_go cd_B_seesDigit hc_B_seesDigit 17 1 (pc' := 36) (L' := [some (.ref 13)]) (st' := [.int 57, .int (nI (T p))]) rfl ?_
      refine am_icmp_gt 43 (am_at hc_B_seesDigit 18 rfl) (by decide) (fun h5 => ?_) (fun h5 => ?_)
      · have h6 : 57 < T p := (nI_ltI (a := 57) (by omega) (by omega)).mp h5
        have e0 : pr_dg T n p = false := decide_eq_false (fun z => by omega)
        refine am_go cd_B_seesDigit hc_B_seesDigit 21 1 (pc' := 44) (L' := [some (.ref 13)]) (st' := [.int 0]) rfl ?_
        exact am_iret (am_at hc_B_seesDigit 22 rfl) rfl rfl (cR_in (by rw [e0]; rfl) rfl)
      · have h6 : T p ≤ 57 := Nat.not_lt.mp (fun z => h5 ((nI_ltI (a := 57) (by omega) (by omega)).mpr z))
        have e0 : pr_dg T n p = true := decide_eq_true ⟨h2, h4, h6⟩
        refine am_go cd_B_seesDigit hc_B_seesDigit 19 2 (pc' := 44) (L' := [some (.ref 13)]) (st' := [.int 1]) rfl ?_
        exact am_iret (am_at hc_B_seesDigit 22 rfl) rfl rfl (cR_in (by rw [e0]; rfl) rfl)
theorem c_B_seesLetter {l : Launch} {x : am_X} {e L : Nat} {d : am_D} {T : Nat → Nat} {n : Nat} (hr : rd_ok d T n) {p : Nat} (hp : d 13 2 = nI p) (hp2 : p ≤ 1000) : cM l x e L m_B_seesLetter [.ref 13] d (cR (some (.int (bI (pr_lt T n p)))) d) := by
  refine cM.go (by decide) (by simp [Value.category]) (Nat.le_of_ble_eq_true rfl) ?_
  have hn := hr.2.1
  refine am_go cd_B_seesLetter hc_B_seesLetter 0 1 (pc' := 1) (L' := [some (.ref 13)]) (st' := [.ref 13]) rfl ?_
  refine am_getf 1 2 k_r1 (am_at hc_B_seesLetter 1 rfl) rfl (by decide) rfl (by decide) k_ok1 (Or.inl (tw 27 rfl rfl)) (congrArg Value.int hp) ?_
  refine am_go cd_B_seesLetter hc_B_seesLetter 2 1 (pc' := 5) (L' := [some (.ref 13)]) (st' := [.ref 13, .int (nI p)]) rfl ?_
  refine am_getf 1 1 k_r1 (am_at hc_B_seesLetter 3 rfl) rfl (by decide) rfl (by decide) k_ok1 (Or.inl (tw 26 rfl rfl)) (congrArg Value.int hr.1) ?_
  refine am_icmp_ge 43 (am_at hc_B_seesLetter 4 rfl) (by decide) (fun h1 => ?_) (fun h1 => ?_)
  · have h2 := (nI_leI (by omega) (by omega)).mp h1
    have e0 : pr_lt T n p = false := decide_eq_false (fun z => by omega)
    refine am_go cd_B_seesLetter hc_B_seesLetter 21 1 (pc' := 44) (L' := [some (.ref 13)]) (st' := [.int 0]) rfl ?_
    exact am_iret (am_at hc_B_seesLetter 22 rfl) rfl rfl (cR_in (by rw [e0]; rfl) rfl)
  · have h2 : p < n := Nat.not_le.mp (fun z => h1 ((nI_leI (by omega) (by omega)).mpr z))
    have hT := (hr.2.2 p h2).1
    have hT2 := (hr.2.2 p h2).2
    refine am_go cd_B_seesLetter hc_B_seesLetter 5 1 (pc' := 12) (L' := [some (.ref 13)]) (st' := [.ref 13]) rfl ?_
    refine am_getf 1 0 k_r1 (am_at hc_B_seesLetter 6 rfl) rfl (by decide) rfl (by decide) k_ok1 (Or.inl (tw 25 rfl rfl)) rfl ?_
    refine am_go cd_B_seesLetter hc_B_seesLetter 7 1 (pc' := 16) (L' := [some (.ref 13)]) (st' := [.ref 13, .ref 14]) rfl ?_
    refine am_getf 1 2 k_r1 (am_at hc_B_seesLetter 8 rfl) rfl (by decide) rfl (by decide) k_ok1 (Or.inl (tw 27 rfl rfl)) (congrArg Value.int hp) ?_
    refine am_caload (p) (am_at hc_B_seesLetter 9 rfl) rfl (by decide) rfl (by show p < 40; omega) (Nat.le_of_ble_eq_true rfl) ?_
    rw [show d 14 p = nI (T p) from hT]
    refine am_go cd_B_seesLetter hc_B_seesLetter 10 1 (pc' := 22) (L' := [some (.ref 13)]) (st' := [.int 97, .int (nI (T p))]) rfl ?_
    refine am_icmp_lt 43 (am_at hc_B_seesLetter 11 rfl) (by decide) (fun h3 => ?_) (fun h3 => ?_)
    · have h4 : T p < 97 := (nI_ltI (b := 97) (by omega) (by omega)).mp h3
      have e0 : pr_lt T n p = false := decide_eq_false (fun z => by omega)
      refine am_go cd_B_seesLetter hc_B_seesLetter 21 1 (pc' := 44) (L' := [some (.ref 13)]) (st' := [.int 0]) rfl ?_
      exact am_iret (am_at hc_B_seesLetter 22 rfl) rfl rfl (cR_in (by rw [e0]; rfl) rfl)
    · have h4 : 97 ≤ T p := Nat.not_lt.mp (fun z => h3 ((nI_ltI (b := 97) (by omega) (by omega)).mpr z))
      refine am_go cd_B_seesLetter hc_B_seesLetter 12 1 (pc' := 26) (L' := [some (.ref 13)]) (st' := [.ref 13]) rfl ?_
      refine am_getf 1 0 k_r1 (am_at hc_B_seesLetter 13 rfl) rfl (by decide) rfl (by decide) k_ok1 (Or.inl (tw 25 rfl rfl)) rfl ?_
      refine am_go cd_B_seesLetter hc_B_seesLetter 14 1 (pc' := 30) (L' := [some (.ref 13)]) (st' := [.ref 13, .ref 14]) rfl ?_
      refine am_getf 1 2 k_r1 (am_at hc_B_seesLetter 15 rfl) rfl (by decide) rfl (by decide) k_ok1 (Or.inl (tw 27 rfl rfl)) (congrArg Value.int hp) ?_
      refine am_caload (p) (am_at hc_B_seesLetter 16 rfl) rfl (by decide) rfl (by show p < 40; omega) (Nat.le_of_ble_eq_true rfl) ?_
      rw [show d 14 p = nI (T p) from hT]
      refine am_go cd_B_seesLetter hc_B_seesLetter 17 1 (pc' := 36) (L' := [some (.ref 13)]) (st' := [.int 102, .int (nI (T p))]) rfl ?_
      refine am_icmp_gt 43 (am_at hc_B_seesLetter 18 rfl) (by decide) (fun h5 => ?_) (fun h5 => ?_)
      · have h6 : 102 < T p := (nI_ltI (a := 102) (by omega) (by omega)).mp h5
        have e0 : pr_lt T n p = false := decide_eq_false (fun z => by omega)
        refine am_go cd_B_seesLetter hc_B_seesLetter 21 1 (pc' := 44) (L' := [some (.ref 13)]) (st' := [.int 0]) rfl ?_
        exact am_iret (am_at hc_B_seesLetter 22 rfl) rfl rfl (cR_in (by rw [e0]; rfl) rfl)
      · have h6 : T p ≤ 102 := Nat.not_lt.mp (fun z => h5 ((nI_ltI (a := 102) (by omega) (by omega)).mpr z))
        have e0 : pr_lt T n p = true := decide_eq_true ⟨h2, h4, h6⟩
        refine am_go cd_B_seesLetter hc_B_seesLetter 19 2 (pc' := 44) (L' := [some (.ref 13)]) (st' := [.int 1]) rfl ?_
        exact am_iret (am_at hc_B_seesLetter 22 rfl) rfl rfl (cR_in (by rw [e0]; rfl) rfl)
theorem c_B_beginPart {l : Launch} {x : am_X} {e L : Nat} {d : am_D} {c : Nat} (hc : d 13 4 = nI c) (hc2 : c ≤ 1000) : cM l x e L m_B_beginPart [.ref 13] d (cR (some (.int (if 12 ≤ c then 0 else 1))) (if 12 ≤ c then d else am_u d 13 4 (nI (c + 1)))) := by
  refine cM.go (by decide) (by simp [Value.category]) (Nat.le_of_ble_eq_true rfl) ?_
  refine am_go cd_B_beginPart hc_B_beginPart 0 1 (pc' := 1) (L' := [some (.ref 13)]) (st' := [.ref 13]) rfl ?_
  refine am_getf 1 4 k_r1 (am_at hc_B_beginPart 1 rfl) rfl (by decide) rfl (by decide) k_ok1 (Or.inl (tw 29 rfl rfl)) (congrArg Value.int hc) ?_
  refine am_go cd_B_beginPart hc_B_beginPart 2 1 (pc' := 6) (L' := [some (.ref 13)]) (st' := [.int 12, .int (nI c)]) rfl ?_
  refine am_icmp_lt 11 (am_at hc_B_beginPart 3 rfl) (by decide) (fun h1 => ?_) (fun h1 => ?_)
  · have h2 : c < 12 := (nI_ltI (b := 12) (by omega) (by omega)).mp h1
    refine am_go cd_B_beginPart hc_B_beginPart 6 2 (pc' := 13) (L' := [some (.ref 13)]) (st' := [.ref 13, .ref 13]) rfl ?_
    refine am_getf 1 4 k_r1 (am_at hc_B_beginPart 8 rfl) rfl (by decide) rfl (by decide) k_ok1 (Or.inl (tw 29 rfl rfl)) (congrArg Value.int hc) ?_
    refine am_go cd_B_beginPart hc_B_beginPart 9 2 (pc' := 18) (L' := [some (.ref 13)]) (st' := [.int ((nI c) + 1), .ref 13]) rfl ?_
    refine am_putI 1 4 k_r1 (am_at hc_B_beginPart 11 rfl) rfl (by decide) rfl (by decide) k_ok1 (tw 29 rfl rfl) rfl rfl rfl rfl ?_
    refine am_go cd_B_beginPart hc_B_beginPart 12 1 (pc' := 22) (L' := [some (.ref 13)]) (st' := [.int 1]) rfl ?_
    exact am_iret (am_at hc_B_beginPart 13 rfl) rfl rfl (cR_in (by rw [if_neg (by omega)]) (by rw [if_neg (by omega), nI_1]))
  · have h2 : 12 ≤ c := Nat.not_lt.mp (fun z => h1 ((nI_ltI (b := 12) (by omega) (by omega)).mpr z))
    refine am_go cd_B_beginPart hc_B_beginPart 4 1 (pc' := 10) (L' := [some (.ref 13)]) (st' := [.int 0]) rfl ?_
    exact am_iret (am_at hc_B_beginPart 5 rfl) rfl rfl (cR_in (by rw [if_pos h2]) (by rw [if_pos h2]))
theorem c_B_takeSign {l : Launch} {x : am_X} {e L : Nat} {d : am_D} {c p : Nat} (hp : d 13 2 = nI p) (hc : d 13 4 = nI c) (hc2 : c ≤ 1000) : cM l x (e + 1) L m_B_takeSign [.ref 13] d (cR (some (.int (if 12 ≤ c then 0 else 1))) (if 12 ≤ c then d else am_u (am_u d 13 4 (nI (c + 1))) 13 2 (nI (p + 1)))) := by
  refine cM.go (by decide) (by simp [Value.category]) (Nat.le_of_ble_eq_true rfl) ?_
  refine am_go cd_B_takeSign hc_B_takeSign 0 1 (pc' := 1) (L' := [some (.ref 13)]) (st' := [.ref 13]) rfl ?_
  refine cW.callV1 4 [.int (if 12 ≤ c then 0 else 1)] (st := []) [] (am_at hc_B_takeSign 1 rfl) g_B_beginPart (Or.inl (tw 181 rfl rfl)) (tw 183 rfl rfl) (tp 7 rfl rfl) 1 k_r1 rfl (by decide) rfl rfl rfl rfl (by decide) (c_B_beginPart hc hc2) rfl rfl ?_
  by_cases h2 : 12 ≤ c
  · simp only [if_pos h2]
    refine am_if_ne 9 (am_at hc_B_takeSign 2 rfl) (by decide) (fun h1 => absurd rfl h1) (fun h1 => ?_)
    refine am_go cd_B_takeSign hc_B_takeSign 3 1 (pc' := 8) (L' := [some (.ref 13)]) (st' := [.int 0]) rfl ?_
    exact am_iret (am_at hc_B_takeSign 4 rfl) rfl rfl (cR_in rfl rfl)
  · simp only [if_neg h2]
    refine am_if_ne 9 (am_at hc_B_takeSign 2 rfl) (by decide) (fun h1 => ?_) (fun h1 => absurd h1 (by decide))
    refine am_go cd_B_takeSign hc_B_takeSign 5 2 (pc' := 11) (L' := [some (.ref 13)]) (st' := [.ref 13, .ref 13]) rfl ?_
    refine am_getf 1 2 k_r1 (am_at hc_B_takeSign 7 rfl) rfl (by decide) rfl (by decide) k_ok1 (Or.inl (tw 27 rfl rfl)) (congrArg Value.int hp) ?_
    refine am_go cd_B_takeSign hc_B_takeSign 8 2 (pc' := 16) (L' := [some (.ref 13)]) (st' := [.int ((nI p) + 1), .ref 13]) rfl ?_
    refine am_putI 1 2 k_r1 (am_at hc_B_takeSign 10 rfl) rfl (by decide) rfl (by decide) k_ok1 (tw 27 rfl rfl) rfl rfl rfl rfl ?_
    refine am_go cd_B_takeSign hc_B_takeSign 11 1 (pc' := 20) (L' := [some (.ref 13)]) (st' := [.int 1]) rfl ?_
    exact am_iret (am_at hc_B_takeSign 12 rfl) rfl rfl (cR_in rfl (by rw [nI_1]))
theorem c_B_empty {l : Launch} {x : am_X} {e L : Nat} {d : am_D} : cM l x e L m_B_empty [.ref 13] d (cR none (am_u d 13 1 0)) := by
  refine cM.go (by decide) (by simp [Value.category]) (Nat.le_of_ble_eq_true rfl) ?_
  refine am_go cd_B_empty hc_B_empty 0 2 (pc' := 2) (L' := [some (.ref 13)]) (st' := [.int 0, .ref 13]) rfl ?_
  refine am_putI 1 1 k_r1 (am_at hc_B_empty 2 rfl) rfl (by decide) rfl (by decide) k_ok1 (tw 26 rfl rfl) rfl rfl rfl rfl ?_
  exact am_vret (am_at hc_B_empty 3 rfl) rfl (cR_in rfl rfl)
