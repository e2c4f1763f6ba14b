/-- the text stands in the reference -/
def tm (d : am_D) (T : Nat → Nat) (n : Nat) : Prop := d 40 5 = nI n ∧ n ≤ 40 ∧ ∀ j, j < n → d 44 j = nI (T j) ∧ T j < 128
theorem tm.to {d d' : am_D} {T : Nat → Nat} {n : Nat} (h : tm d T n) (h1 : d' 40 5 = d 40 5) (h2 : d' 44 = d 44) : tm d' T n := ⟨h1.trans h.1, h.2.1, fun j hj => by rw [h2]; exact h.2.2 j hj⟩
theorem tm.u {d : am_D} {T : Nat → Nat} {n : Nat} (h : tm d T n) {a j : Nat} {v : Int32} (ha : a ≠ 44) (hj : ¬ (40 = a ∧ 5 = j)) : tm (am_u d a j v) T n := h.to (am_u_o hj) (am_u_ne 44 (Ne.symm ha))
set_option maxRecDepth 100000 in
set_option maxHeartbeats 4000000 in
theorem c_M_digit {l : Launch} {x : am_X} {e L : Nat} {d : am_D} {T : Nat → Nat} {n : Nat} (hr : tm d T n) {i : Nat} (hi : i ≤ 1000) : cM l x e L m_M_digit [.ref 40, .int (nI i)] d (cR (some (.int (bI (pr_dg T n i)))) d) := by
  refine cM.go (by decide) (by simp [Value.category]) (Nat.le_of_ble_eq_true rfl) ?_
  have hn := hr.2.1
  refine am_go cd_M_digit hc_M_digit 0 2 (pc' := 2) (L' := [some (.ref 40), some (.int (nI i))]) (st' := [.ref 40, .int (nI i)]) rfl ?_
  refine am_getf 3 5 k_r3 (am_at hc_M_digit 2 rfl) rfl (by decide) rfl (by decide) k_ok3 (Or.inl (tw 311 rfl rfl)) (congrArg Value.int hr.1) ?_
  refine am_icmp_ge 34 (am_at hc_M_digit 3 rfl) (by decide) (fun h1 => ?_) (fun h1 => ?_)
  · have h2 := (nI_leI (by omega) (by omega)).mp h1
    have e0 : pr_dg T n i = false := decide_eq_false (fun z => by omega)
    refine am_go cd_M_digit hc_M_digit 18 1 (pc' := 35) (L' := [some (.ref 40), some (.int (nI i))]) (st' := [.int 0]) rfl ?_
    exact am_iret (am_at hc_M_digit 19 rfl) rfl rfl (cR_in (by rw [e0]; rfl) rfl)
  · have h2 : i < n := Nat.not_le.mp (fun z => h1 ((nI_leI (by omega) (by omega)).mpr z))
    have hT := (hr.2.2 i h2).1
    have hT2 := (hr.2.2 i h2).2
    refine am_go cd_M_digit hc_M_digit 4 1 (pc' := 9) (L' := [some (.ref 40), some (.int (nI i))]) (st' := [.ref 40]) rfl ?_
    refine am_getf 3 6 k_r3 (am_at hc_M_digit 5 rfl) rfl (by decide) rfl (by decide) k_ok3 (Or.inl (tw 312 rfl rfl)) rfl ?_
    refine am_go cd_M_digit hc_M_digit 6 1 (pc' := 13) (L' := [some (.ref 40), some (.int (nI i))]) (st' := [.int (nI i), .ref 44]) rfl ?_
    refine am_iaload (i) (am_at hc_M_digit 7 rfl) rfl (Or.inl (by decide)) rfl (by show i < 40; omega) (Nat.le_of_ble_eq_true rfl) ?_
    rw [show d 44 i = nI (T i) from hT]
    refine am_go cd_M_digit hc_M_digit 8 1 (pc' := 16) (L' := [some (.ref 40), some (.int (nI i))]) (st' := [.int 48, .int (nI (T i))]) rfl ?_
    refine am_icmp_lt 34 (am_at hc_M_digit 9 rfl) (by decide) (fun h3 => ?_) (fun h3 => ?_)
    · have h4 : T i < 48 := (nI_ltI (b := 48) (by omega) (by omega)).mp h3
      have e0 : pr_dg T n i = false := decide_eq_false (fun z => by omega)
      refine am_go cd_M_digit hc_M_digit 18 1 (pc' := 35) (L' := [some (.ref 40), some (.int (nI i))]) (st' := [.int 0]) rfl ?_
      exact am_iret (am_at hc_M_digit 19 rfl) rfl rfl (cR_in (by rw [e0]; rfl) rfl)
    · have h4 : 48 ≤ T i := Nat.not_lt.mp (fun z => h3 ((nI_ltI (b := 48) (by omega) (by omega)).mpr z))
      refine am_go cd_M_digit hc_M_digit 10 1 (pc' := 20) (L' := [some (.ref 40), some (.int (nI i))]) (st' := [.ref 40]) rfl ?_
      refine am_getf 3 6 k_r3 (am_at hc_M_digit 11 rfl) rfl (by decide) rfl (by decide) k_ok3 (Or.inl (tw 312 rfl rfl)) rfl ?_
      refine am_go cd_M_digit hc_M_digit 12 1 (pc' := 24) (L' := [some (.ref 40), some (.int (nI i))]) (st' := [.int (nI i), .ref 44]) rfl ?_
      refine am_iaload (i) (am_at hc_M_digit 13 rfl) rfl (Or.inl (by decide)) rfl (by show i < 40; omega) (Nat.le_of_ble_eq_true rfl) ?_
      rw [show d 44 i = nI (T i) from hT]
      refine am_go cd_M_digit hc_M_digit 14 1 (pc' := 27) (L' := [some (.ref 40), some (.int (nI i))]) (st' := [.int 57, .int (nI (T i))]) rfl ?_
      refine am_icmp_gt 34 (am_at hc_M_digit 15 rfl) (by decide) (fun h5 => ?_) (fun h5 => ?_)
      · have h6 : 57 < T i := (nI_ltI (a := 57) (by omega) (by omega)).mp h5
        have e0 : pr_dg T n i = false := decide_eq_false (fun z => by omega)
        refine am_go cd_M_digit hc_M_digit 18 1 (pc' := 35) (L' := [some (.ref 40), some (.int (nI i))]) (st' := [.int 0]) rfl ?_
        exact am_iret (am_at hc_M_digit 19 rfl) rfl rfl (cR_in (by rw [e0]; rfl) rfl)
      · have h6 : T i ≤ 57 := Nat.not_lt.mp (fun z => h5 ((nI_ltI (a := 57) (by omega) (by omega)).mpr z))
        have e0 : pr_dg T n i = true := decide_eq_true ⟨h2, h4, h6⟩
        refine am_go cd_M_digit hc_M_digit 16 2 (pc' := 35) (L' := [some (.ref 40), some (.int (nI i))]) (st' := [.int 1]) rfl ?_
        exact am_iret (am_at hc_M_digit 19 rfl) rfl rfl (cR_in (by rw [e0]; rfl) rfl)
set_option maxRecDepth 100000 in
set_option maxHeartbeats 4000000 in
theorem c_M_letter {l : Launch} {x : am_X} {e L : Nat} {d : am_D} {T : Nat → Nat} {n : Nat} (hr : tm d T n) {i : Nat} (hi : i ≤ 1000) : cM l x e L m_M_letter [.ref 40, .int (nI i)] d (cR (some (.int (bI (pr_lt T n i)))) d) := by
  refine cM.go (by decide) (by simp [Value.category]) (Nat.le_of_ble_eq_true rfl) ?_
  have hn := hr.2.1
  refine am_go cd_M_letter hc_M_letter 0 2 (pc' := 2) (L' := [some (.ref 40), some (.int (nI i))]) (st' := [.ref 40, .int (nI i)]) rfl ?_
  refine am_getf 3 5 k_r3 (am_at hc_M_letter 2 rfl) rfl (by decide) rfl (by decide) k_ok3 (Or.inl (tw 311 rfl rfl)) (congrArg Value.int hr.1) ?_
  refine am_icmp_ge 34 (am_at hc_M_letter 3 rfl) (by decide) (fun h1 => ?_) (fun h1 => ?_)
  · have h2 := (nI_leI (by omega) (by omega)).mp h1
    have e0 : pr_lt T n i = false := decide_eq_false (fun z => by omega)
    refine am_go cd_M_letter hc_M_letter 18 1 (pc' := 35) (L' := [some (.ref 40), some (.int (nI i))]) (st' := [.int 0]) rfl ?_
    exact am_iret (am_at hc_M_letter 19 rfl) rfl rfl (cR_in (by rw [e0]; rfl) rfl)
  · have h2 : i < n := Nat.not_le.mp (fun z => h1 ((nI_leI (by omega) (by omega)).mpr z))
    have hT := (hr.2.2 i h2).1
    have hT2 := (hr.2.2 i h2).2
    refine am_go cd_M_letter hc_M_letter 4 1 (pc' := 9) (L' := [some (.ref 40), some (.int (nI i))]) (st' := [.ref 40]) rfl ?_
    refine am_getf 3 6 k_r3 (am_at hc_M_letter 5 rfl) rfl (by decide) rfl (by decide) k_ok3 (Or.inl (tw 312 rfl rfl)) rfl ?_
    refine am_go cd_M_letter hc_M_letter 6 1 (pc' := 13) (L' := [some (.ref 40), some (.int (nI i))]) (st' := [.int (nI i), .ref 44]) rfl ?_
    refine am_iaload (i) (am_at hc_M_letter 7 rfl) rfl (Or.inl (by decide)) rfl (by show i < 40; omega) (Nat.le_of_ble_eq_true rfl) ?_
    rw [show d 44 i = nI (T i) from hT]
    refine am_go cd_M_letter hc_M_letter 8 1 (pc' := 16) (L' := [some (.ref 40), some (.int (nI i))]) (st' := [.int 97, .int (nI (T i))]) rfl ?_
    refine am_icmp_lt 34 (am_at hc_M_letter 9 rfl) (by decide) (fun h3 => ?_) (fun h3 => ?_)
    · have h4 : T i < 97 := (nI_ltI (b := 97) (by omega) (by omega)).mp h3
      have e0 : pr_lt T n i = false := decide_eq_false (fun z => by omega)
      refine am_go cd_M_letter hc_M_letter 18 1 (pc' := 35) (L' := [some (.ref 40), some (.int (nI i))]) (st' := [.int 0]) rfl ?_
      exact am_iret (am_at hc_M_letter 19 rfl) rfl rfl (cR_in (by rw [e0]; rfl) rfl)
    · have h4 : 97 ≤ T i := Nat.not_lt.mp (fun z => h3 ((nI_ltI (b := 97) (by omega) (by omega)).mpr z))
      refine am_go cd_M_letter hc_M_letter 10 1 (pc' := 20) (L' := [some (.ref 40), some (.int (nI i))]) (st' := [.ref 40]) rfl ?_
      refine am_getf 3 6 k_r3 (am_at hc_M_letter 11 rfl) rfl (by decide) rfl (by decide) k_ok3 (Or.inl (tw 312 rfl rfl)) rfl ?_
      refine am_go cd_M_letter hc_M_letter 12 1 (pc' := 24) (L' := [some (.ref 40), some (.int (nI i))]) (st' := [.int (nI i), .ref 44]) rfl ?_
      refine am_iaload (i) (am_at hc_M_letter 13 rfl) rfl (Or.inl (by decide)) rfl (by show i < 40; omega) (Nat.le_of_ble_eq_true rfl) ?_
      rw [show d 44 i = nI (T i) from hT]
      refine am_go cd_M_letter hc_M_letter 14 1 (pc' := 27) (L' := [some (.ref 40), some (.int (nI i))]) (st' := [.int 102, .int (nI (T i))]) rfl ?_
      refine am_icmp_gt 34 (am_at hc_M_letter 15 rfl) (by decide) (fun h5 => ?_) (fun h5 => ?_)
      · have h6 : 102 < T i := (nI_ltI (a := 102) (by omega) (by omega)).mp h5
        have e0 : pr_lt T n i = false := decide_eq_false (fun z => by omega)
        refine am_go cd_M_letter hc_M_letter 18 1 (pc' := 35) (L' := [some (.ref 40), some (.int (nI i))]) (st' := [.int 0]) rfl ?_
        exact am_iret (am_at hc_M_letter 19 rfl) rfl rfl (cR_in (by rw [e0]; rfl) rfl)
      · have h6 : T i ≤ 102 := Nat.not_lt.mp (fun z => h5 ((nI_ltI (a := 102) (by omega) (by omega)).mpr z))
        have e0 : pr_lt T n i = true := decide_eq_true ⟨h2, h4, h6⟩
        refine am_go cd_M_letter hc_M_letter 16 2 (pc' := 35) (L' := [some (.ref 40), some (.int (nI i))]) (st' := [.int 1]) rfl ?_
        exact am_iret (am_at hc_M_letter 19 rfl) rfl rfl (cR_in (by rw [e0]; rfl) rfl)
/-- one character: the next state, letters, depth, parts; none: a fault -/
def au_nx (T : Nat → Nat) (n i st ms dp fd : Nat) : Option (Nat × Nat × Nat × Nat) :=
  if st = 0 then (if pr_dg T n i = true then some (1, 0, dp, fd + 1) else if T i = 40 ∧ dp < 8 then some (0, 0, dp + 1, fd) else none)
  else if pr_dg T n i = true then (if st = 1 ∨ st = 2 ∨ (6 ≤ st ∧ st ≤ 8) then some (st + 1, ms, dp, fd) else none)
  else if pr_lt T n i = true then (if st ≤ 4 ∧ ms.testBit (T i - 97) = false then some (4, ms ||| 2 ^ (T i - 97), dp, fd) else none)
  else if 4 ≤ st ∧ st ≠ 6 then (if T i = 43 ∨ T i = 94 then some (0, ms, dp, fd + 1) else if T i = 60 then some (6, ms, dp, fd + 1) else if T i = 41 ∧ 0 < dp then some (5, ms, dp - 1, fd) else none)
  else none
def au_run (T : Nat → Nat) (n : Nat) : Nat → Nat → Nat → Nat → Nat → Nat → Int × Nat
  | 0, _, st, _, dp, fd => if dp = 0 ∧ 4 ≤ st ∧ st ≠ 6 then (-1, fd) else (n, fd)
  | k + 1, i, st, ms, dp, fd => match au_nx T n i st ms dp fd with
    | none => (i, 0)
    | some r => if 12 < r.2.2.2 then (i, 0) else au_run T n k (i + 1) r.1 r.2.1 r.2.2.1 r.2.2.2
theorem au_run_none {T : Nat → Nat} {n k i st ms dp fd : Nat} (h : au_nx T n i st ms dp fd = none) : au_run T n (k + 1) i st ms dp fd = ((i : Int), 0) := by
  rw [au_run, h]
theorem au_run_some {T : Nat → Nat} {n k i st ms dp fd : Nat} {r : Nat × Nat × Nat × Nat} (h : au_nx T n i st ms dp fd = some r) : au_run T n (k + 1) i st ms dp fd = if 12 < r.2.2.2 then ((i : Int), 0) else au_run T n k (i + 1) r.1 r.2.1 r.2.2.1 r.2.2.2 := by
  rw [au_run, h]
theorem am_uu (d : am_D) (a j : Nat) (v w : Int32) : am_u (am_u d a j v) a j w = am_u d a j w := am_u_u d a j v w
set_option maxRecDepth 100000 in
set_option maxHeartbeats 4000000 in
theorem c_M_fault {l : Launch} {x : am_X} {e L : Nat} {d : am_D} {T : Nat → Nat} {n : Nat} (hr : tm d T n) : cM l x (e + 1) L m_M_fault [.ref 40] d (fun r d' => r = some (.int (zI (au_run T n n 0 0 0 0 0).1)) ∧ ∃ v, d' = am_u d 40 15 v ∧ ((au_run T n n 0 0 0 0 0).1 = -1 → v = nI (au_run T n n 0 0 0 0 0).2)) := by
  refine cM.go (by decide) (by simp [Value.category]) (Nat.le_of_ble_eq_true rfl) ?_
  have hn := hr.2.1
  generalize hRR : au_run T n n 0 0 0 0 0 = RR
  refine am_go cd_M_fault hc_M_fault 0 8 (pc' := 8) (L' := [some (.ref 40), some (.int 0), some (.int 0), some (.int 0), none, none, none, none]) (st' := [.int 0, .ref 40]) rfl ?_
  refine am_putI 3 15 k_r3 (am_at hc_M_fault 8 rfl) rfl (by decide) rfl (by decide) k_ok3 (tw 321 rfl rfl) rfl rfl rfl rfl ?_
  refine am_go cd_M_fault hc_M_fault 9 2 (pc' := 14) (L' := [some (.ref 40), some (.int 0), some (.int 0), some (.int 0), some (.int 0), none, none, none]) (st' := []) rfl ?_
  have hD : ∀ v, tm (am_u d 40 15 v) T n := fun v => hr.u (by decide) (by decide)
  have chkF : ∀ (i : Nat) (v : Int32), ((i : Int), 0) = RR → cW l x (e + 1) L m_M_fault 304 [some (.ref 40), none, none, none, some (.int (nI i)), none, some (.int (-1)), none] [] (am_u d 40 15 v) (fun r d' => r = some (.int (zI RR.1)) ∧ ∃ v, d' = am_u d 40 15 v ∧ (RR.1 = -1 → v = nI RR.2)) := by
    intro i v he
    refine am_go cd_M_fault hc_M_fault 163 1 (pc' := 306) (L' := [some (.ref 40), none, none, none, some (.int (nI i)), none, some (.int (-1)), none]) (st' := [.int (-1)]) rfl ?_
    refine am_if_lt 318 (am_at hc_M_fault 164 rfl) (by decide) (fun q1 => ?_) (fun q1 => absurd (by decide) q1)
    refine am_go cd_M_fault hc_M_fault 169 1 (pc' := 320) (L' := [some (.ref 40), none, none, none, some (.int (nI i)), none, some (.int (-1)), none]) (st' := [.int (nI i)]) rfl ?_
    refine am_iret (am_at hc_M_fault 170 rfl) rfl rfl ⟨rfl, rfl, by rw [← he, nI_zI], v, rfl, fun z => ?_⟩
    rw [← he] at z; exact absurd z (by show ¬ (i : Int) = -1; omega)
  have loop : ∀ k i st ms dp fd, i + k = n → st ≤ 9 → ms < 64 → dp ≤ 8 → fd ≤ 12 → au_run T n k i st ms dp fd = RR → cW l x (e + 1) L m_M_fault 14 [some (.ref 40), some (.int (nI st)), some (.int (nI ms)), some (.int (nI dp)), some (.int (nI i)), none, none, none] [] (am_u d 40 15 (nI fd)) (fun r d' => r = some (.int (zI RR.1)) ∧ ∃ v, d' = am_u d 40 15 v ∧ (RR.1 = -1 → v = nI RR.2)) := by
    intro k
    induction k with
    | zero =>
      intro i st ms dp fd hi hst hms hdp hfd he
      unfold au_run at he
      have hin : i = n := by omega
      refine am_go cd_M_fault hc_M_fault 11 2 (pc' := 17) (L' := [some (.ref 40), some (.int (nI st)), some (.int (nI ms)), some (.int (nI dp)), some (.int (nI i)), none, none, none]) (st' := [.ref 40, .int (nI i)]) rfl ?_
      refine am_getf 3 5 k_r3 (am_at hc_M_fault 13 rfl) rfl (by decide) rfl (by decide) k_ok3 (Or.inl (tw 311 rfl rfl)) (congrArg Value.int (hD _).1) ?_
      refine am_icmp_ge 330 (am_at hc_M_fault 14 rfl) (by decide) (fun q1 => ?_) (fun q1 => absurd (nI_le (by omega) (by omega)) q1)
      refine am_go cd_M_fault hc_M_fault 175 1 (pc' := 331) (L' := [some (.ref 40), some (.int (nI st)), some (.int (nI ms)), some (.int (nI dp)), some (.int (nI i)), none, none, none]) (st' := [.int (nI dp)]) rfl ?_
      refine am_if_ne 349 (am_at hc_M_fault 176 rfl) (by decide) (fun q2 => ?_) (fun q2 => ?_)
      · skip
        rw [if_neg (fun z => q2 (by rw [z.1]; rfl))] at he
        refine am_go cd_M_fault hc_M_fault 185 1 (pc' := 350) (L' := [some (.ref 40), some (.int (nI st)), some (.int (nI ms)), some (.int (nI dp)), some (.int (nI i)), none, none, none]) (st' := [.ref 40]) rfl ?_
        refine am_getf 3 5 k_r3 (am_at hc_M_fault 186 rfl) rfl (by decide) rfl (by decide) k_ok3 (Or.inl (tw 311 rfl rfl)) (congrArg Value.int (hD _).1) ?_
        exact am_iret (am_at hc_M_fault 187 rfl) rfl rfl ⟨rfl, rfl, by rw [← he, nI_zI], _, rfl, fun z => absurd z (by rw [← he]; show ¬ (n : Int) = -1; omega)⟩
      · have hd0 : dp = 0 := (nI_eq (b := 0) (by omega) (by decide)).mp q2
        refine am_go cd_M_fault hc_M_fault 177 2 (pc' := 336) (L' := [some (.ref 40), some (.int (nI st)), some (.int (nI ms)), some (.int (nI dp)), some (.int (nI i)), none, none, none]) (st' := [.int 4, .int (nI st)]) rfl ?_
        refine am_icmp_lt 349 (am_at hc_M_fault 179 rfl) (by decide) (fun q3 => ?_) (fun q3 => ?_)
        · have h4 : st < 4 := (nI_ltI (b := 4) (by omega) (by decide)).mp q3
          rw [if_neg (fun z => by omega)] at he
          refine am_go cd_M_fault hc_M_fault 185 1 (pc' := 350) (L' := [some (.ref 40), some (.int (nI st)), some (.int (nI ms)), some (.int (nI dp)), some (.int (nI i)), none, none, none]) (st' := [.ref 40]) rfl ?_
          refine am_getf 3 5 k_r3 (am_at hc_M_fault 186 rfl) rfl (by decide) rfl (by decide) k_ok3 (Or.inl (tw 311 rfl rfl)) (congrArg Value.int (hD _).1) ?_
          exact am_iret (am_at hc_M_fault 187 rfl) rfl rfl ⟨rfl, rfl, by rw [← he, nI_zI], _, rfl, fun z => absurd z (by rw [← he]; show ¬ (n : Int) = -1; omega)⟩
        · have h4 : 4 ≤ st := Nat.not_lt.mp (fun z => q3 ((nI_ltI (b := 4) (by omega) (by decide)).mpr z))
          refine am_go cd_M_fault hc_M_fault 180 2 (pc' := 342) (L' := [some (.ref 40), some (.int (nI st)), some (.int (nI ms)), some (.int (nI dp)), some (.int (nI i)), none, none, none]) (st' := [.int 6, .int (nI st)]) rfl ?_
          refine am_icmp_eq 349 (am_at hc_M_fault 182 rfl) (by decide) (fun q4 => ?_) (fun q4 => ?_)
          · have h6 : st = 6 := (nI_eq (b := 6) (by omega) (by decide)).mp q4
            rw [if_neg (fun z => by omega)] at he
            refine am_go cd_M_fault hc_M_fault 185 1 (pc' := 350) (L' := [some (.ref 40), some (.int (nI st)), some (.int (nI ms)), some (.int (nI dp)), some (.int (nI i)), none, none, none]) (st' := [.ref 40]) rfl ?_
            refine am_getf 3 5 k_r3 (am_at hc_M_fault 186 rfl) rfl (by decide) rfl (by decide) k_ok3 (Or.inl (tw 311 rfl rfl)) (congrArg Value.int (hD _).1) ?_
            exact am_iret (am_at hc_M_fault 187 rfl) rfl rfl ⟨rfl, rfl, by rw [← he, nI_zI], _, rfl, fun z => absurd z (by rw [← he]; show ¬ (n : Int) = -1; omega)⟩
          · have h6 : st ≠ 6 := fun z => q4 (by rw [z]; rfl)
            rw [if_pos ⟨hd0, h4, h6⟩] at he
            refine am_go cd_M_fault hc_M_fault 183 2 (pc' := 353) (L' := [some (.ref 40), some (.int (nI st)), some (.int (nI ms)), some (.int (nI dp)), some (.int (nI i)), none, none, none]) (st' := [.int (-1)]) rfl ?_
            exact am_iret (am_at hc_M_fault 187 rfl) rfl rfl ⟨rfl, rfl, by rw [← he]; rfl, _, rfl, fun _ => by rw [← he]⟩
    | succ k ih =>
      intro i st ms dp fd hi hst hms hdp hfd he
      have hin : i < n := by omega
      have hT := (hr.2.2 i hin).1
      have hT2 := (hr.2.2 i hin).2
      have hT' : ∀ v, am_u d 40 15 v 44 i = nI (T i) := fun v => by rw [am_u_ne 44 (by decide)]; exact hT
      have chkN : ∀ (r : Nat × Nat × Nat × Nat), au_nx T n i st ms dp fd = some r → r.1 ≤ 9 → r.2.1 < 64 → (r.2.2.2 ≤ 12 → r.2.2.1 ≤ 8) → r.2.2.2 ≤ 13 → cW l x (e + 1) L m_M_fault 304 [some (.ref 40), none, some (.int (nI r.2.1)), some (.int (nI r.2.2.1)), some (.int (nI i)), none, some (.int (nI r.1)), none] [] (am_u d 40 15 (nI r.2.2.2)) (fun r d' => r = some (.int (zI RR.1)) ∧ ∃ v, d' = am_u d 40 15 v ∧ (RR.1 = -1 → v = nI RR.2)) := by
        intro r hx h1 h2 h3 h4
        rw [au_run_some hx] at he
        refine am_go cd_M_fault hc_M_fault 163 1 (pc' := 306) (L' := [some (.ref 40), none, some (.int (nI r.2.1)), some (.int (nI r.2.2.1)), some (.int (nI i)), none, some (.int (nI r.1)), none]) (st' := [.int (nI r.1)]) rfl ?_
        refine am_if_lt 318 (am_at hc_M_fault 164 rfl) (by decide) (fun q1 => absurd q1 (nI_pos (by omega))) (fun q1 => ?_)
        refine am_go cd_M_fault hc_M_fault 165 1 (pc' := 310) (L' := [some (.ref 40), none, some (.int (nI r.2.1)), some (.int (nI r.2.2.1)), some (.int (nI i)), none, some (.int (nI r.1)), none]) (st' := [.ref 40]) rfl ?_
        refine am_getf 3 15 k_r3 (am_at hc_M_fault 166 rfl) rfl (by decide) rfl (by decide) k_ok3 (Or.inl (tw 321 rfl rfl)) (congrArg Value.int am_u_i) ?_
        refine am_go cd_M_fault hc_M_fault 167 1 (pc' := 315) (L' := [some (.ref 40), none, some (.int (nI r.2.1)), some (.int (nI r.2.2.1)), some (.int (nI i)), none, some (.int (nI r.1)), none]) (st' := [.int 12, .int (nI r.2.2.2)]) rfl ?_
        refine am_icmp_le 321 (am_at hc_M_fault 168 rfl) (by decide) (fun q2 => ?_) (fun q2 => ?_)
        · have h5 : r.2.2.2 ≤ 12 := (nI_leI (b := 12) (by omega) (by decide)).mp q2
          rw [if_neg (by omega)] at he
          refine am_go cd_M_fault hc_M_fault 171 4 (pc' := 14) (L' := [some (.ref 40), some (.int (nI r.1)), some (.int (nI r.2.1)), some (.int (nI r.2.2.1)), some (.int (nI i + 1)), none, some (.int (nI r.1)), none]) (st' := []) rfl ?_
          refine am_weak (L' := [some (.ref 40), some (.int (nI r.1)), some (.int (nI r.2.1)), some (.int (nI r.2.2.1)), some (.int (nI i + 1)), none, none, none]) ⟨rfl, rfl, rfl, rfl, rfl, trivial⟩ ?_
          rw [nI_1]
          exact ih (i + 1) r.1 r.2.1 r.2.2.1 r.2.2.2 (by omega) h1 h2 (h3 h5) h5 he
        · have h5 : ¬ r.2.2.2 ≤ 12 := fun z => q2 ((nI_leI (b := 12) (by omega) (by decide)).mpr z)
          rw [if_pos (by omega)] at he
          refine am_go cd_M_fault hc_M_fault 169 1 (pc' := 320) (L' := [some (.ref 40), none, some (.int (nI r.2.1)), some (.int (nI r.2.2.1)), some (.int (nI i)), none, some (.int (nI r.1)), none]) (st' := [.int (nI i)]) rfl ?_
          refine am_iret (am_at hc_M_fault 170 rfl) rfl rfl ⟨rfl, rfl, by rw [← he, nI_zI], _, rfl, fun z => ?_⟩
          rw [← he] at z; exact absurd z (by show ¬ (i : Int) = -1; omega)
      refine am_go cd_M_fault hc_M_fault 11 2 (pc' := 17) (L' := [some (.ref 40), some (.int (nI st)), some (.int (nI ms)), some (.int (nI dp)), some (.int (nI i)), none, none, none]) (st' := [.ref 40, .int (nI i)]) rfl ?_
      refine am_getf 3 5 k_r3 (am_at hc_M_fault 13 rfl) rfl (by decide) rfl (by decide) k_ok3 (Or.inl (tw 311 rfl rfl)) (congrArg Value.int (hD _).1) ?_
      refine am_icmp_ge 330 (am_at hc_M_fault 14 rfl) (by decide) (fun q0 => absurd q0 (nI_ge (by omega) (by omega))) (fun q0 => ?_)
      refine am_go cd_M_fault hc_M_fault 15 1 (pc' := 24) (L' := [some (.ref 40), some (.int (nI st)), some (.int (nI ms)), some (.int (nI dp)), some (.int (nI i)), none, none, none]) (st' := [.ref 40]) rfl ?_
      refine am_getf 3 6 k_r3 (am_at hc_M_fault 16 rfl) rfl (by decide) rfl (by decide) k_ok3 (Or.inl (tw 312 rfl rfl)) rfl ?_
      refine am_go cd_M_fault hc_M_fault 17 1 (pc' := 29) (L' := [some (.ref 40), some (.int (nI st)), some (.int (nI ms)), some (.int (nI dp)), some (.int (nI i)), none, none, none]) (st' := [.int (nI i), .ref 44]) rfl ?_
      refine am_iaload (i) (am_at hc_M_fault 18 rfl) rfl (Or.inl (by decide)) rfl (by show i < 40; omega) (Nat.le_of_ble_eq_true rfl) ?_
      rw [show am_u d 40 15 (nI fd) 44 i = nI (T i) from hT' _]
      refine am_go cd_M_fault hc_M_fault 19 4 (pc' := 36) (L' := [some (.ref 40), some (.int (nI st)), some (.int (nI ms)), some (.int (nI dp)), some (.int (nI i)), some (.int (nI (T i))), some (.int (-1)), none]) (st' := [.int (nI st)]) rfl ?_
      refine am_if_ne 118 (am_at hc_M_fault 23 rfl) (by decide) (fun q1 => ?_) (fun q1 => ?_)
      · have hs0 : ¬ st = 0 := fun z => q1 (by rw [z]; rfl)
        refine am_go cd_M_fault hc_M_fault 65 2 (pc' := 121) (L' := [some (.ref 40), some (.int (nI st)), some (.int (nI ms)), some (.int (nI dp)), some (.int (nI i)), some (.int (nI (T i))), some (.int (-1)), none]) (st' := [.int (nI i), .ref 40]) rfl ?_
        refine cW.callV1 124 [.int (bI (pr_dg T n i))] (st := []) [.int (nI i)] (am_at hc_M_fault 67 rfl) g_M_digit (Or.inl (tw 401 rfl rfl)) (tw 403 rfl rfl) (tp 20 rfl rfl) 3 k_r3 rfl (by decide) rfl rfl rfl rfl (Nat.le_of_ble_eq_true rfl) (c_M_digit (hD _) (by omega)) rfl rfl ?_
        cases hdg : pr_dg T n i with
        | true =>
          simp only [bI_t]
          refine am_if_eq 161 (am_at hc_M_fault 68 rfl) (by decide) (fun q2 => absurd q2 (by decide)) (fun q2 => ?_)
          refine am_go cd_M_fault hc_M_fault 69 2 (pc' := 129) (L' := [some (.ref 40), some (.int (nI st)), some (.int (nI ms)), some (.int (nI dp)), some (.int (nI i)), some (.int (nI (T i))), some (.int (-1)), none]) (st' := [.int 1, .int (nI st)]) rfl ?_
          refine am_icmp_eq 149 (am_at hc_M_fault 71 rfl) (by decide) (fun q3 => ?_) (fun q3 => ?_)
          · have z : st = 1 := (nI_eq (b := 1) (by omega) (by decide)).mp q3
            refine am_go cd_M_fault hc_M_fault 81 4 (pc' := 156) (L' := [some (.ref 40), some (.int (nI st)), some (.int (nI ms)), some (.int (nI dp)), some (.int (nI i)), some (.int (nI (T i))), some (.int (-1)), none]) (st' := [.int (nI st + 1)]) rfl ?_
            refine am_go cd_M_fault hc_M_fault 86 2 (pc' := 304) (L' := [some (.ref 40), some (.int (nI st)), some (.int (nI ms)), some (.int (nI dp)), some (.int (nI i)), some (.int (nI (T i))), some (.int (nI st + 1)), none]) (st' := []) rfl ?_
            rw [show nI st + 1 = nI (st + 1) from nI_1 _]
            have hx : au_nx T n i st ms dp fd = some (st + 1, ms, dp, fd) := by unfold au_nx; rw [if_neg hs0, if_pos hdg, if_pos (by omega)]
            refine am_weak (L' := [some (.ref 40), none, some (.int (nI ms)), some (.int (nI dp)), some (.int (nI i)), none, some (.int (nI (st + 1))), none]) ⟨rfl, rfl, rfl, rfl, rfl, trivial⟩ ?_
            exact chkN (st + 1, ms, dp, fd) hx (by dsimp only; omega) (by dsimp only; omega) (fun _ => by dsimp only; omega) (by dsimp only; omega)
          · have n1 : st ≠ 1 := fun z => q3 (by rw [z]; rfl)
            refine am_go cd_M_fault hc_M_fault 72 2 (pc' := 134) (L' := [some (.ref 40), some (.int (nI st)), some (.int (nI ms)), some (.int (nI dp)), some (.int (nI i)), some (.int (nI (T i))), some (.int (-1)), none]) (st' := [.int 2, .int (nI st)]) rfl ?_
            refine am_icmp_eq 149 (am_at hc_M_fault 74 rfl) (by decide) (fun q4 => ?_) (fun q4 => ?_)
            · have z : st = 2 := (nI_eq (b := 2) (by omega) (by decide)).mp q4
              refine am_go cd_M_fault hc_M_fault 81 4 (pc' := 156) (L' := [some (.ref 40), some (.int (nI st)), some (.int (nI ms)), some (.int (nI dp)), some (.int (nI i)), some (.int (nI (T i))), some (.int (-1)), none]) (st' := [.int (nI st + 1)]) rfl ?_
              refine am_go cd_M_fault hc_M_fault 86 2 (pc' := 304) (L' := [some (.ref 40), some (.int (nI st)), some (.int (nI ms)), some (.int (nI dp)), some (.int (nI i)), some (.int (nI (T i))), some (.int (nI st + 1)), none]) (st' := []) rfl ?_
              rw [show nI st + 1 = nI (st + 1) from nI_1 _]
              have hx : au_nx T n i st ms dp fd = some (st + 1, ms, dp, fd) := by unfold au_nx; rw [if_neg hs0, if_pos hdg, if_pos (by omega)]
              refine am_weak (L' := [some (.ref 40), none, some (.int (nI ms)), some (.int (nI dp)), some (.int (nI i)), none, some (.int (nI (st + 1))), none]) ⟨rfl, rfl, rfl, rfl, rfl, trivial⟩ ?_
              exact chkN (st + 1, ms, dp, fd) hx (by dsimp only; omega) (by dsimp only; omega) (fun _ => by dsimp only; omega) (by dsimp only; omega)
            · have n2 : st ≠ 2 := fun z => q4 (by rw [z]; rfl)
              refine am_go cd_M_fault hc_M_fault 75 2 (pc' := 140) (L' := [some (.ref 40), some (.int (nI st)), some (.int (nI ms)), some (.int (nI dp)), some (.int (nI i)), some (.int (nI (T i))), some (.int (-1)), none]) (st' := [.int 6, .int (nI st)]) rfl ?_
              refine am_icmp_lt 155 (am_at hc_M_fault 77 rfl) (by decide) (fun q5 => ?_) (fun q5 => ?_)
              · have z : st < 6 := (nI_ltI (b := 6) (by omega) (by decide)).mp q5
                refine am_go cd_M_fault hc_M_fault 85 3 (pc' := 304) (L' := [some (.ref 40), some (.int (nI st)), some (.int (nI ms)), some (.int (nI dp)), some (.int (nI i)), some (.int (nI (T i))), some (.int (-1)), none]) (st' := []) rfl ?_
                have hx : au_nx T n i st ms dp fd = none := by unfold au_nx; rw [if_neg hs0, if_pos hdg, if_neg (by omega)]
                rw [au_run_none hx] at he
                refine am_weak (L' := [some (.ref 40), none, none, none, some (.int (nI i)), none, some (.int (-1)), none]) ⟨rfl, rfl, rfl, trivial⟩ ?_
                exact chkF i _ he
              · have n6 : 6 ≤ st := Nat.not_lt.mp (fun z => q5 ((nI_ltI (b := 6) (by omega) (by decide)).mpr z))
                refine am_go cd_M_fault hc_M_fault 78 2 (pc' := 146) (L' := [some (.ref 40), some (.int (nI st)), some (.int (nI ms)), some (.int (nI dp)), some (.int (nI i)), some (.int (nI (T i))), some (.int (-1)), none]) (st' := [.int 8, .int (nI st)]) rfl ?_
                refine am_icmp_gt 155 (am_at hc_M_fault 80 rfl) (by decide) (fun q6 => ?_) (fun q6 => ?_)
                · have z : 8 < st := (nI_ltI (a := 8) (by decide) (by omega)).mp q6
                  refine am_go cd_M_fault hc_M_fault 85 3 (pc' := 304) (L' := [some (.ref 40), some (.int (nI st)), some (.int (nI ms)), some (.int (nI dp)), some (.int (nI i)), some (.int (nI (T i))), some (.int (-1)), none]) (st' := []) rfl ?_
                  have hx : au_nx T n i st ms dp fd = none := by unfold au_nx; rw [if_neg hs0, if_pos hdg, if_neg (by omega)]
                  rw [au_run_none hx] at he
                  refine am_weak (L' := [some (.ref 40), none, none, none, some (.int (nI i)), none, some (.int (-1)), none]) ⟨rfl, rfl, rfl, trivial⟩ ?_
                  exact chkF i _ he
                · have z : st ≤ 8 := Nat.not_lt.mp (fun z => q6 ((nI_ltI (a := 8) (by decide) (by omega)).mpr z))
                  refine am_go cd_M_fault hc_M_fault 81 4 (pc' := 156) (L' := [some (.ref 40), some (.int (nI st)), some (.int (nI ms)), some (.int (nI dp)), some (.int (nI i)), some (.int (nI (T i))), some (.int (-1)), none]) (st' := [.int (nI st + 1)]) rfl ?_
                  refine am_go cd_M_fault hc_M_fault 86 2 (pc' := 304) (L' := [some (.ref 40), some (.int (nI st)), some (.int (nI ms)), some (.int (nI dp)), some (.int (nI i)), some (.int (nI (T i))), some (.int (nI st + 1)), none]) (st' := []) rfl ?_
                  rw [show nI st + 1 = nI (st + 1) from nI_1 _]
                  have hx : au_nx T n i st ms dp fd = some (st + 1, ms, dp, fd) := by unfold au_nx; rw [if_neg hs0, if_pos hdg, if_pos (by omega)]
                  refine am_weak (L' := [some (.ref 40), none, some (.int (nI ms)), some (.int (nI dp)), some (.int (nI i)), none, some (.int (nI (st + 1))), none]) ⟨rfl, rfl, rfl, rfl, rfl, trivial⟩ ?_
                  exact chkN (st + 1, ms, dp, fd) hx (by dsimp only; omega) (by dsimp only; omega) (fun _ => by dsimp only; omega) (by dsimp only; omega)
        | false =>
          simp only [bI_f]
          refine am_if_eq 161 (am_at hc_M_fault 68 rfl) (by decide) (fun q2 => ?_) (fun q2 => absurd rfl q2)
          refine am_go cd_M_fault hc_M_fault 88 2 (pc' := 164) (L' := [some (.ref 40), some (.int (nI st)), some (.int (nI ms)), some (.int (nI dp)), some (.int (nI i)), some (.int (nI (T i))), some (.int (-1)), none]) (st' := [.int (nI i), .ref 40]) rfl ?_
          refine cW.callV1 167 [.int (bI (pr_lt T n i))] (st := []) [.int (nI i)] (am_at hc_M_fault 90 rfl) g_M_letter (Or.inl (tw 405 rfl rfl)) (tw 407 rfl rfl) (tp 21 rfl rfl) 3 k_r3 rfl (by decide) rfl rfl rfl rfl (Nat.le_of_ble_eq_true rfl) (c_M_letter (hD _) (by omega)) rfl rfl ?_
          have hdn : ¬ pr_dg T n i = true := by rw [hdg]; decide
          cases hlt : pr_lt T n i with
          | true =>
            simp only [bI_t]
            obtain ⟨z1, z2, z3⟩ := pr_lt_lt hlt
            have hbit := let_bit ms hms (T i - 97) (by omega)
            refine am_if_eq 206 (am_at hc_M_fault 91 rfl) (by decide) (fun q3 => absurd q3 (by decide)) (fun q3 => ?_)
            refine am_go cd_M_fault hc_M_fault 92 5 (pc' := 177) (L' := [some (.ref 40), some (.int (nI st)), some (.int (nI ms)), some (.int (nI dp)), some (.int (nI i)), some (.int (nI (T i))), some (.int (-1)), none]) (st' := [.int (1 <<< ((nI (T i) - 97) &&& 31))]) rfl ?_
            rw [nI_sh (T i) z2 z3]
            refine am_go cd_M_fault hc_M_fault 97 3 (pc' := 181) (L' := [some (.ref 40), some (.int (nI st)), some (.int (nI ms)), some (.int (nI dp)), some (.int (nI i)), some (.int (nI (T i))), some (.int (-1)), some (.int (nI (2 ^ (T i - 97))))]) (st' := [.int 4, .int (nI st)]) rfl ?_
            refine am_icmp_gt 195 (am_at hc_M_fault 100 rfl) (by decide) (fun q4 => ?_) (fun q4 => ?_)
            · have z : 4 < st := (nI_ltI (a := 4) (by decide) (by omega)).mp q4
              refine am_go cd_M_fault hc_M_fault 107 7 (pc' := 304) (L' := [some (.ref 40), some (.int (nI st)), some (.int (nI ms ||| nI (2 ^ (T i - 97)))), some (.int (nI dp)), some (.int (nI i)), some (.int (nI (T i))), some (.int (-1)), some (.int (nI (2 ^ (T i - 97))))]) (st' := []) rfl ?_
              have hx : au_nx T n i st ms dp fd = none := by unfold au_nx; rw [if_neg hs0, if_neg hdn, if_pos hlt, if_neg (by omega)]
              rw [au_run_none hx] at he
              refine am_weak (L' := [some (.ref 40), none, none, none, some (.int (nI i)), none, some (.int (-1)), none]) ⟨rfl, rfl, rfl, trivial⟩ ?_
              exact chkF i _ he
            · have z : st ≤ 4 := Nat.not_lt.mp (fun z => q4 ((nI_ltI (a := 4) (by decide) (by omega)).mpr z))
              refine am_go cd_M_fault hc_M_fault 101 3 (pc' := 188) (L' := [some (.ref 40), some (.int (nI st)), some (.int (nI ms)), some (.int (nI dp)), some (.int (nI i)), some (.int (nI (T i))), some (.int (-1)), some (.int (nI (2 ^ (T i - 97))))]) (st' := [.int (nI ms &&& nI (2 ^ (T i - 97)))]) rfl ?_
              rw [show nI ms &&& nI (2 ^ (T i - 97)) = nI (ms &&& 2 ^ (T i - 97)) from nI_and _ _]
              have hle : ms &&& 2 ^ (T i - 97) ≤ ms := Nat.and_le_left
              refine am_if_ne 195 (am_at hc_M_fault 104 rfl) (by decide) (fun q5 => ?_) (fun q5 => ?_)
              · have z4 : ¬ (ms.testBit (T i - 97) = false) := fun z => q5 (by rw [hbit.1.mpr z]; rfl)
                refine am_go cd_M_fault hc_M_fault 107 7 (pc' := 304) (L' := [some (.ref 40), some (.int (nI st)), some (.int (nI ms ||| nI (2 ^ (T i - 97)))), some (.int (nI dp)), some (.int (nI i)), some (.int (nI (T i))), some (.int (-1)), some (.int (nI (2 ^ (T i - 97))))]) (st' := []) rfl ?_
                have hx : au_nx T n i st ms dp fd = none := by unfold au_nx; rw [if_neg hs0, if_neg hdn, if_pos hlt, if_neg (fun z => z4 z.2)]
                rw [au_run_none hx] at he
                refine am_weak (L' := [some (.ref 40), none, none, none, some (.int (nI i)), none, some (.int (-1)), none]) ⟨rfl, rfl, rfl, trivial⟩ ?_
                exact chkF i _ he
              · have z4 : ms &&& 2 ^ (T i - 97) = 0 := (nI_eq (b := 0) (by omega) (by decide)).mp q5
                refine am_go cd_M_fault hc_M_fault 105 2 (pc' := 196) (L' := [some (.ref 40), some (.int (nI st)), some (.int (nI ms)), some (.int (nI dp)), some (.int (nI i)), some (.int (nI (T i))), some (.int (-1)), some (.int (nI (2 ^ (T i - 97))))]) (st' := [.int 4]) rfl ?_
                refine am_go cd_M_fault hc_M_fault 108 6 (pc' := 304) (L' := [some (.ref 40), some (.int (nI st)), some (.int (nI ms ||| nI (2 ^ (T i - 97)))), some (.int (nI dp)), some (.int (nI i)), some (.int (nI (T i))), some (.int 4), some (.int (nI (2 ^ (T i - 97))))]) (st' := []) rfl ?_
                rw [show nI ms ||| nI (2 ^ (T i - 97)) = nI (ms ||| 2 ^ (T i - 97)) from nI_or _ _]
                have hx : au_nx T n i st ms dp fd = some (4, ms ||| 2 ^ (T i - 97), dp, fd) := by unfold au_nx; rw [if_neg hs0, if_neg hdn, if_pos hlt, if_pos ⟨z, hbit.1.mp z4⟩]
                refine am_weak (L' := [some (.ref 40), none, some (.int (nI (ms ||| 2 ^ (T i - 97)))), some (.int (nI dp)), some (.int (nI i)), none, some (.int 4), none]) ⟨rfl, rfl, rfl, rfl, rfl, trivial⟩ ?_
                exact chkN (4, ms ||| 2 ^ (T i - 97), dp, fd) hx (by dsimp only; omega) hbit.2 (fun _ => by dsimp only; omega) (by dsimp only; omega)
          | false =>
            have hln : ¬ pr_lt T n i = true := by rw [hlt]; decide
            simp only [bI_f]
            refine am_if_eq 206 (am_at hc_M_fault 91 rfl) (by decide) (fun q3 => ?_) (fun q3 => absurd rfl q3)
            refine am_go cd_M_fault hc_M_fault 114 2 (pc' := 208) (L' := [some (.ref 40), some (.int (nI st)), some (.int (nI ms)), some (.int (nI dp)), some (.int (nI i)), some (.int (nI (T i))), some (.int (-1)), none]) (st' := [.int 4, .int (nI st)]) rfl ?_
            refine am_icmp_lt 304 (am_at hc_M_fault 116 rfl) (by decide) (fun q4 => ?_) (fun q4 => ?_)
            · have z : st < 4 := (nI_ltI (b := 4) (by omega) (by decide)).mp q4
              have hx : au_nx T n i st ms dp fd = none := by unfold au_nx; rw [if_neg hs0, if_neg hdn, if_neg hln, if_neg (by omega)]
              rw [au_run_none hx] at he
              refine am_weak (L' := [some (.ref 40), none, none, none, some (.int (nI i)), none, some (.int (-1)), none]) ⟨rfl, rfl, rfl, trivial⟩ ?_
              exact chkF i _ he
            · have g4 : 4 ≤ st := Nat.not_lt.mp (fun z => q4 ((nI_ltI (b := 4) (by omega) (by decide)).mpr z))
              refine am_go cd_M_fault hc_M_fault 117 2 (pc' := 214) (L' := [some (.ref 40), some (.int (nI st)), some (.int (nI ms)), some (.int (nI dp)), some (.int (nI i)), some (.int (nI (T i))), some (.int (-1)), none]) (st' := [.int 6, .int (nI st)]) rfl ?_
              refine am_icmp_eq 304 (am_at hc_M_fault 119 rfl) (by decide) (fun q5 => ?_) (fun q5 => ?_)
              · have z : st = 6 := (nI_eq (b := 6) (by omega) (by decide)).mp q5
                have hx : au_nx T n i st ms dp fd = none := by unfold au_nx; rw [if_neg hs0, if_neg hdn, if_neg hln, if_neg (by omega)]
                rw [au_run_none hx] at he
                refine am_weak (L' := [some (.ref 40), none, none, none, some (.int (nI i)), none, some (.int (-1)), none]) ⟨rfl, rfl, rfl, trivial⟩ ?_
                exact chkF i _ he
              · have g6 : st ≠ 6 := fun z => q5 (by rw [z]; rfl)
                refine am_go cd_M_fault hc_M_fault 120 2 (pc' := 221) (L' := [some (.ref 40), some (.int (nI st)), some (.int (nI ms)), some (.int (nI dp)), some (.int (nI i)), some (.int (nI (T i))), some (.int (-1)), none]) (st' := [.int 43, .int (nI (T i))]) rfl ?_
                refine am_icmp_eq 231 (am_at hc_M_fault 122 rfl) (by decide) (fun q6 => ?_) (fun q6 => ?_)
                · have z : T i = 43 := (nI_eq (b := 43) (by omega) (by decide)).mp q6
                  refine am_go cd_M_fault hc_M_fault 126 2 (pc' := 263) (L' := [some (.ref 40), some (.int (nI st)), some (.int (nI ms)), some (.int (nI dp)), some (.int (nI i)), some (.int (nI (T i))), some (.int (-1)), none]) (st' := [.int 0]) rfl ?_
                  refine am_go cd_M_fault hc_M_fault 141 3 (pc' := 269) (L' := [some (.ref 40), some (.int (nI st)), some (.int (nI ms)), some (.int (nI dp)), some (.int (nI i)), some (.int (nI (T i))), some (.int 0), none]) (st' := [.int 41, .int (nI (T i))]) rfl ?_
                  refine am_icmp_ne 278 (am_at hc_M_fault 144 rfl) (by decide) (fun qa => ?_) (fun qa => absurd qa (fun z => by have := (nI_eq (b := 41) (by omega) (by decide)).mp z; omega))
                  refine am_go cd_M_fault hc_M_fault 149 5 (pc' := 285) (L' := [some (.ref 40), some (.int (nI st)), some (.int (nI ms)), some (.int (nI dp)), some (.int (nI i)), some (.int (nI (T i))), some (.int 0), none]) (st' := [.int 41, .int (nI (T i)), .ref 40]) rfl ?_
                  refine am_icmp_ne 295 (am_at hc_M_fault 154 rfl) (by decide) (fun qb => ?_) (fun qb => absurd qb (fun z => by have := (nI_eq (b := 41) (by omega) (by decide)).mp z; omega))
                  refine am_go cd_M_fault hc_M_fault 158 1 (pc' := 296) (L' := [some (.ref 40), some (.int (nI st)), some (.int (nI ms)), some (.int (nI dp)), some (.int (nI i)), some (.int (nI (T i))), some (.int 0), none]) (st' := [.ref 40, .ref 40]) rfl ?_
                  refine am_getf 3 15 k_r3 (am_at hc_M_fault 159 rfl) rfl (by decide) rfl (by decide) k_ok3 (Or.inl (tw 321 rfl rfl)) (congrArg Value.int am_u_i) ?_
                  refine am_go cd_M_fault hc_M_fault 160 2 (pc' := 301) (L' := [some (.ref 40), some (.int (nI st)), some (.int (nI ms)), some (.int (nI dp)), some (.int (nI i)), some (.int (nI (T i))), some (.int 0), none]) (st' := [.int (nI fd + 1), .ref 40]) rfl ?_
                  rw [show nI fd + 1 = nI (fd + 1) from nI_1 _]
                  refine am_putI 3 15 k_r3 (am_at hc_M_fault 162 rfl) rfl (by decide) rfl (by decide) k_ok3 (tw 321 rfl rfl) rfl rfl rfl rfl ?_
                  rw [am_uu]
                  have hx : au_nx T n i st ms dp fd = some (0, ms, dp, fd + 1) := by unfold au_nx; rw [if_neg hs0, if_neg hdn, if_neg hln, if_pos ⟨g4, g6⟩, if_pos (by omega)]
                  refine am_weak (L' := [some (.ref 40), none, some (.int (nI ms)), some (.int (nI dp)), some (.int (nI i)), none, some (.int 0), none]) ⟨rfl, rfl, rfl, rfl, rfl, trivial⟩ ?_
                  exact chkN (0, ms, dp, fd + 1) hx (by dsimp only; omega) (by dsimp only; omega) (fun _ => by dsimp only; omega) (by dsimp only; omega)
                · have c43 : T i ≠ 43 := fun z => q6 (by rw [z]; rfl)
                  refine am_go cd_M_fault hc_M_fault 123 2 (pc' := 228) (L' := [some (.ref 40), some (.int (nI st)), some (.int (nI ms)), some (.int (nI dp)), some (.int (nI i)), some (.int (nI (T i))), some (.int (-1)), none]) (st' := [.int 94, .int (nI (T i))]) rfl ?_
                  refine am_icmp_ne 235 (am_at hc_M_fault 125 rfl) (by decide) (fun q7 => ?_) (fun q7 => ?_)
                  · have c94 : T i ≠ 94 := fun z => q7 (by rw [z]; rfl)
                    refine am_go cd_M_fault hc_M_fault 128 2 (pc' := 239) (L' := [some (.ref 40), some (.int (nI st)), some (.int (nI ms)), some (.int (nI dp)), some (.int (nI i)), some (.int (nI (T i))), some (.int (-1)), none]) (st' := [.int 60, .int (nI (T i))]) rfl ?_
                    refine am_icmp_ne 247 (am_at hc_M_fault 130 rfl) (by decide) (fun q8 => ?_) (fun q8 => ?_)
                    · have c60 : T i ≠ 60 := fun z => q8 (by rw [z]; rfl)
                      refine am_go cd_M_fault hc_M_fault 133 2 (pc' := 251) (L' := [some (.ref 40), some (.int (nI st)), some (.int (nI ms)), some (.int (nI dp)), some (.int (nI i)), some (.int (nI (T i))), some (.int (-1)), none]) (st' := [.int 41, .int (nI (T i))]) rfl ?_
                      refine am_icmp_ne 262 (am_at hc_M_fault 135 rfl) (by decide) (fun q9 => ?_) (fun q9 => ?_)
                      · have c41 : T i ≠ 41 := fun z => q9 (by rw [z]; rfl)
                        refine am_go cd_M_fault hc_M_fault 140 4 (pc' := 269) (L' := [some (.ref 40), some (.int (nI st)), some (.int (nI ms)), some (.int (nI dp)), some (.int (nI i)), some (.int (nI (T i))), some (.int (-1)), none]) (st' := [.int 41, .int (nI (T i))]) rfl ?_
                        refine am_icmp_ne 278 (am_at hc_M_fault 144 rfl) (by decide) (fun qa => ?_) (fun qa => absurd qa (fun z => c41 ((nI_eq (b := 41) (by omega) (by decide)).mp z)))
                        refine am_go cd_M_fault hc_M_fault 149 5 (pc' := 285) (L' := [some (.ref 40), some (.int (nI st)), some (.int (nI ms)), some (.int (nI dp)), some (.int (nI i)), some (.int (nI (T i))), some (.int (-1)), none]) (st' := [.int 41, .int (nI (T i)), .ref 40]) rfl ?_
                        refine am_icmp_ne 295 (am_at hc_M_fault 154 rfl) (by decide) (fun qb => ?_) (fun qb => absurd qb (fun z => c41 ((nI_eq (b := 41) (by omega) (by decide)).mp z)))
                        refine am_go cd_M_fault hc_M_fault 158 1 (pc' := 296) (L' := [some (.ref 40), some (.int (nI st)), some (.int (nI ms)), some (.int (nI dp)), some (.int (nI i)), some (.int (nI (T i))), some (.int (-1)), none]) (st' := [.ref 40, .ref 40]) rfl ?_
                        refine am_getf 3 15 k_r3 (am_at hc_M_fault 159 rfl) rfl (by decide) rfl (by decide) k_ok3 (Or.inl (tw 321 rfl rfl)) (congrArg Value.int am_u_i) ?_
                        refine am_go cd_M_fault hc_M_fault 160 2 (pc' := 301) (L' := [some (.ref 40), some (.int (nI st)), some (.int (nI ms)), some (.int (nI dp)), some (.int (nI i)), some (.int (nI (T i))), some (.int (-1)), none]) (st' := [.int (nI fd + 1), .ref 40]) rfl ?_
                        refine am_putI 3 15 k_r3 (am_at hc_M_fault 162 rfl) rfl (by decide) rfl (by decide) k_ok3 (tw 321 rfl rfl) rfl rfl rfl rfl ?_
                        rw [am_uu]
                        have hx : au_nx T n i st ms dp fd = none := by unfold au_nx; rw [if_neg hs0, if_neg hdn, if_neg hln, if_pos ⟨g4, g6⟩, if_neg (by omega), if_neg c60, if_neg (fun z => c41 z.1)]
                        rw [au_run_none hx] at he
                        refine am_weak (L' := [some (.ref 40), none, none, none, some (.int (nI i)), none, some (.int (-1)), none]) ⟨rfl, rfl, rfl, trivial⟩ ?_
                        exact chkF i _ he
                      · have c41 : T i = 41 := (nI_eq (b := 41) (by omega) (by decide)).mp q9
                        refine am_go cd_M_fault hc_M_fault 136 1 (pc' := 255) (L' := [some (.ref 40), some (.int (nI st)), some (.int (nI ms)), some (.int (nI dp)), some (.int (nI i)), some (.int (nI (T i))), some (.int (-1)), none]) (st' := [.int (nI dp)]) rfl ?_
                        refine am_if_le 262 (am_at hc_M_fault 137 rfl) (by decide) (fun qc => ?_) (fun qc => ?_)
                        · have d0 : dp = 0 := by by_cases z : dp = 0; exact z; exact absurd qc (nI_nle (by omega) (by omega))
                          refine am_go cd_M_fault hc_M_fault 140 4 (pc' := 269) (L' := [some (.ref 40), some (.int (nI st)), some (.int (nI ms)), some (.int (nI dp)), some (.int (nI i)), some (.int (nI (T i))), some (.int (-1)), none]) (st' := [.int 41, .int (nI (T i))]) rfl ?_
                          refine am_icmp_ne 278 (am_at hc_M_fault 144 rfl) (by decide) (fun qa => absurd qa (fun z => z (by rw [c41]; rfl))) (fun qa => ?_)
                          refine am_go cd_M_fault hc_M_fault 145 4 (pc' := 279) (L' := [some (.ref 40), some (.int (nI st)), some (.int (nI ms)), some (.int (nI dp)), some (.int (nI i)), some (.int (nI (T i))), some (.int (-1)), none]) (st' := [.int (nI dp - 1)]) rfl ?_
                          refine am_go cd_M_fault hc_M_fault 150 4 (pc' := 285) (L' := [some (.ref 40), some (.int (nI st)), some (.int (nI ms)), some (.int (nI dp - 1)), some (.int (nI i)), some (.int (nI (T i))), some (.int (-1)), none]) (st' := [.int 41, .int (nI (T i)), .ref 40]) rfl ?_
                          refine am_icmp_ne 295 (am_at hc_M_fault 154 rfl) (by decide) (fun qb => absurd qb (fun z => z (by rw [c41]; rfl))) (fun qb => ?_)
                          refine am_go cd_M_fault hc_M_fault 155 1 (pc' := 289) (L' := [some (.ref 40), some (.int (nI st)), some (.int (nI ms)), some (.int (nI dp - 1)), some (.int (nI i)), some (.int (nI (T i))), some (.int (-1)), none]) (st' := [.ref 40, .ref 40]) rfl ?_
                          refine am_getf 3 15 k_r3 (am_at hc_M_fault 156 rfl) rfl (by decide) rfl (by decide) k_ok3 (Or.inl (tw 321 rfl rfl)) (congrArg Value.int am_u_i) ?_
                          refine am_go cd_M_fault hc_M_fault 157 1 (pc' := 301) (L' := [some (.ref 40), some (.int (nI st)), some (.int (nI ms)), some (.int (nI dp - 1)), some (.int (nI i)), some (.int (nI (T i))), some (.int (-1)), none]) (st' := [.int (nI fd), .ref 40]) rfl ?_
                          refine am_putI 3 15 k_r3 (am_at hc_M_fault 162 rfl) rfl (by decide) rfl (by decide) k_ok3 (tw 321 rfl rfl) rfl rfl rfl rfl ?_
                          rw [am_uu]
                          have hx : au_nx T n i st ms dp fd = none := by unfold au_nx; rw [if_neg hs0, if_neg hdn, if_neg hln, if_pos ⟨g4, g6⟩, if_neg (by omega), if_neg c60, if_neg (fun z => by omega)]
                          rw [au_run_none hx] at he
                          refine am_weak (L' := [some (.ref 40), none, none, none, some (.int (nI i)), none, some (.int (-1)), none]) ⟨rfl, rfl, rfl, trivial⟩ ?_
                          exact chkF i _ he
                        · have d0 : 0 < dp := Nat.pos_of_ne_zero (fun z => absurd (show nI dp ≤ 0 by rw [z]; decide) qc)
                          refine am_go cd_M_fault hc_M_fault 138 2 (pc' := 263) (L' := [some (.ref 40), some (.int (nI st)), some (.int (nI ms)), some (.int (nI dp)), some (.int (nI i)), some (.int (nI (T i))), some (.int (-1)), none]) (st' := [.int 5]) rfl ?_
                          refine am_go cd_M_fault hc_M_fault 141 3 (pc' := 269) (L' := [some (.ref 40), some (.int (nI st)), some (.int (nI ms)), some (.int (nI dp)), some (.int (nI i)), some (.int (nI (T i))), some (.int 5), none]) (st' := [.int 41, .int (nI (T i))]) rfl ?_
                          refine am_icmp_ne 278 (am_at hc_M_fault 144 rfl) (by decide) (fun qa => absurd qa (fun z => z (by rw [c41]; rfl))) (fun qa => ?_)
                          refine am_go cd_M_fault hc_M_fault 145 4 (pc' := 279) (L' := [some (.ref 40), some (.int (nI st)), some (.int (nI ms)), some (.int (nI dp)), some (.int (nI i)), some (.int (nI (T i))), some (.int 5), none]) (st' := [.int (nI dp - 1)]) rfl ?_
                          refine am_go cd_M_fault hc_M_fault 150 4 (pc' := 285) (L' := [some (.ref 40), some (.int (nI st)), some (.int (nI ms)), some (.int (nI dp - 1)), some (.int (nI i)), some (.int (nI (T i))), some (.int 5), none]) (st' := [.int 41, .int (nI (T i)), .ref 40]) rfl ?_
                          refine am_icmp_ne 295 (am_at hc_M_fault 154 rfl) (by decide) (fun qb => absurd qb (fun z => z (by rw [c41]; rfl))) (fun qb => ?_)
                          refine am_go cd_M_fault hc_M_fault 155 1 (pc' := 289) (L' := [some (.ref 40), some (.int (nI st)), some (.int (nI ms)), some (.int (nI dp - 1)), some (.int (nI i)), some (.int (nI (T i))), some (.int 5), none]) (st' := [.ref 40, .ref 40]) rfl ?_
                          refine am_getf 3 15 k_r3 (am_at hc_M_fault 156 rfl) rfl (by decide) rfl (by decide) k_ok3 (Or.inl (tw 321 rfl rfl)) (congrArg Value.int am_u_i) ?_
                          refine am_go cd_M_fault hc_M_fault 157 1 (pc' := 301) (L' := [some (.ref 40), some (.int (nI st)), some (.int (nI ms)), some (.int (nI dp - 1)), some (.int (nI i)), some (.int (nI (T i))), some (.int 5), none]) (st' := [.int (nI fd), .ref 40]) rfl ?_
                          refine am_putI 3 15 k_r3 (am_at hc_M_fault 162 rfl) rfl (by decide) rfl (by decide) k_ok3 (tw 321 rfl rfl) rfl rfl rfl rfl ?_
                          rw [am_uu]
                          rw [show nI dp - 1 = nI (dp - 1) from pk_sub (b := 1) d0]
                          have hx : au_nx T n i st ms dp fd = some (5, ms, dp - 1, fd) := by unfold au_nx; rw [if_neg hs0, if_neg hdn, if_neg hln, if_pos ⟨g4, g6⟩, if_neg (by omega), if_neg c60, if_pos ⟨c41, d0⟩]
                          refine am_weak (L' := [some (.ref 40), none, some (.int (nI ms)), some (.int (nI (dp - 1))), some (.int (nI i)), none, some (.int 5), none]) ⟨rfl, rfl, rfl, rfl, rfl, trivial⟩ ?_
                          exact chkN (5, ms, dp - 1, fd) hx (by dsimp only; omega) (by dsimp only; omega) (fun _ => by dsimp only; omega) (by dsimp only; omega)
                    · have c60 : T i = 60 := (nI_eq (b := 60) (by omega) (by decide)).mp q8
                      refine am_go cd_M_fault hc_M_fault 131 2 (pc' := 263) (L' := [some (.ref 40), some (.int (nI st)), some (.int (nI ms)), some (.int (nI dp)), some (.int (nI i)), some (.int (nI (T i))), some (.int (-1)), none]) (st' := [.int 6]) rfl ?_
                      refine am_go cd_M_fault hc_M_fault 141 3 (pc' := 269) (L' := [some (.ref 40), some (.int (nI st)), some (.int (nI ms)), some (.int (nI dp)), some (.int (nI i)), some (.int (nI (T i))), some (.int 6), none]) (st' := [.int 41, .int (nI (T i))]) rfl ?_
                      refine am_icmp_ne 278 (am_at hc_M_fault 144 rfl) (by decide) (fun qa => ?_) (fun qa => absurd qa (fun z => by have := (nI_eq (b := 41) (by omega) (by decide)).mp z; omega))
                      refine am_go cd_M_fault hc_M_fault 149 5 (pc' := 285) (L' := [some (.ref 40), some (.int (nI st)), some (.int (nI ms)), some (.int (nI dp)), some (.int (nI i)), some (.int (nI (T i))), some (.int 6), none]) (st' := [.int 41, .int (nI (T i)), .ref 40]) rfl ?_
                      refine am_icmp_ne 295 (am_at hc_M_fault 154 rfl) (by decide) (fun qb => ?_) (fun qb => absurd qb (fun z => by have := (nI_eq (b := 41) (by omega) (by decide)).mp z; omega))
                      refine am_go cd_M_fault hc_M_fault 158 1 (pc' := 296) (L' := [some (.ref 40), some (.int (nI st)), some (.int (nI ms)), some (.int (nI dp)), some (.int (nI i)), some (.int (nI (T i))), some (.int 6), none]) (st' := [.ref 40, .ref 40]) rfl ?_
                      refine am_getf 3 15 k_r3 (am_at hc_M_fault 159 rfl) rfl (by decide) rfl (by decide) k_ok3 (Or.inl (tw 321 rfl rfl)) (congrArg Value.int am_u_i) ?_
                      refine am_go cd_M_fault hc_M_fault 160 2 (pc' := 301) (L' := [some (.ref 40), some (.int (nI st)), some (.int (nI ms)), some (.int (nI dp)), some (.int (nI i)), some (.int (nI (T i))), some (.int 6), none]) (st' := [.int (nI fd + 1), .ref 40]) rfl ?_
                      rw [show nI fd + 1 = nI (fd + 1) from nI_1 _]
                      refine am_putI 3 15 k_r3 (am_at hc_M_fault 162 rfl) rfl (by decide) rfl (by decide) k_ok3 (tw 321 rfl rfl) rfl rfl rfl rfl ?_
                      rw [am_uu]
                      have hx : au_nx T n i st ms dp fd = some (6, ms, dp, fd + 1) := by unfold au_nx; rw [if_neg hs0, if_neg hdn, if_neg hln, if_pos ⟨g4, g6⟩, if_neg (by omega), if_pos c60]
                      refine am_weak (L' := [some (.ref 40), none, some (.int (nI ms)), some (.int (nI dp)), some (.int (nI i)), none, some (.int 6), none]) ⟨rfl, rfl, rfl, rfl, rfl, trivial⟩ ?_
                      exact chkN (6, ms, dp, fd + 1) hx (by dsimp only; omega) (by dsimp only; omega) (fun _ => by dsimp only; omega) (by dsimp only; omega)
                  · have z : T i = 94 := (nI_eq (b := 94) (by omega) (by decide)).mp q7
                    refine am_go cd_M_fault hc_M_fault 126 2 (pc' := 263) (L' := [some (.ref 40), some (.int (nI st)), some (.int (nI ms)), some (.int (nI dp)), some (.int (nI i)), some (.int (nI (T i))), some (.int (-1)), none]) (st' := [.int 0]) rfl ?_
                    refine am_go cd_M_fault hc_M_fault 141 3 (pc' := 269) (L' := [some (.ref 40), some (.int (nI st)), some (.int (nI ms)), some (.int (nI dp)), some (.int (nI i)), some (.int (nI (T i))), some (.int 0), none]) (st' := [.int 41, .int (nI (T i))]) rfl ?_
                    refine am_icmp_ne 278 (am_at hc_M_fault 144 rfl) (by decide) (fun qa => ?_) (fun qa => absurd qa (fun z => by have := (nI_eq (b := 41) (by omega) (by decide)).mp z; omega))
                    refine am_go cd_M_fault hc_M_fault 149 5 (pc' := 285) (L' := [some (.ref 40), some (.int (nI st)), some (.int (nI ms)), some (.int (nI dp)), some (.int (nI i)), some (.int (nI (T i))), some (.int 0), none]) (st' := [.int 41, .int (nI (T i)), .ref 40]) rfl ?_
                    refine am_icmp_ne 295 (am_at hc_M_fault 154 rfl) (by decide) (fun qb => ?_) (fun qb => absurd qb (fun z => by have := (nI_eq (b := 41) (by omega) (by decide)).mp z; omega))
                    refine am_go cd_M_fault hc_M_fault 158 1 (pc' := 296) (L' := [some (.ref 40), some (.int (nI st)), some (.int (nI ms)), some (.int (nI dp)), some (.int (nI i)), some (.int (nI (T i))), some (.int 0), none]) (st' := [.ref 40, .ref 40]) rfl ?_
                    refine am_getf 3 15 k_r3 (am_at hc_M_fault 159 rfl) rfl (by decide) rfl (by decide) k_ok3 (Or.inl (tw 321 rfl rfl)) (congrArg Value.int am_u_i) ?_
                    refine am_go cd_M_fault hc_M_fault 160 2 (pc' := 301) (L' := [some (.ref 40), some (.int (nI st)), some (.int (nI ms)), some (.int (nI dp)), some (.int (nI i)), some (.int (nI (T i))), some (.int 0), none]) (st' := [.int (nI fd + 1), .ref 40]) rfl ?_
                    rw [show nI fd + 1 = nI (fd + 1) from nI_1 _]
                    refine am_putI 3 15 k_r3 (am_at hc_M_fault 162 rfl) rfl (by decide) rfl (by decide) k_ok3 (tw 321 rfl rfl) rfl rfl rfl rfl ?_
                    rw [am_uu]
                    have hx : au_nx T n i st ms dp fd = some (0, ms, dp, fd + 1) := by unfold au_nx; rw [if_neg hs0, if_neg hdn, if_neg hln, if_pos ⟨g4, g6⟩, if_pos (by omega)]
                    refine am_weak (L' := [some (.ref 40), none, some (.int (nI ms)), some (.int (nI dp)), some (.int (nI i)), none, some (.int 0), none]) ⟨rfl, rfl, rfl, rfl, rfl, trivial⟩ ?_
                    exact chkN (0, ms, dp, fd + 1) hx (by dsimp only; omega) (by dsimp only; omega) (fun _ => by dsimp only; omega) (by dsimp only; omega)
      · have hs0 : st = 0 := (nI_eq (b := 0) (by omega) (by decide)).mp q1
        refine am_go cd_M_fault hc_M_fault 24 2 (pc' := 42) (L' := [some (.ref 40), some (.int (nI st)), some (.int (nI ms)), some (.int (nI dp)), some (.int (nI i)), some (.int (nI (T i))), some (.int (-1)), none]) (st' := [.int (nI i), .ref 40]) rfl ?_
        refine cW.callV1 45 [.int (bI (pr_dg T n i))] (st := []) [.int (nI i)] (am_at hc_M_fault 26 rfl) g_M_digit (Or.inl (tw 401 rfl rfl)) (tw 403 rfl rfl) (tp 20 rfl rfl) 3 k_r3 rfl (by decide) rfl rfl rfl rfl (Nat.le_of_ble_eq_true rfl) (c_M_digit (hD _) (by omega)) rfl rfl ?_
        cases hdg : pr_dg T n i with
        | true =>
          simp only [bI_t]
          obtain ⟨z1, z2, z3⟩ := pr_dg_lt hdg
          refine am_if_eq 52 (am_at hc_M_fault 27 rfl) (by decide) (fun q2 => absurd q2 (by decide)) (fun q2 => ?_)
          refine am_go cd_M_fault hc_M_fault 28 2 (pc' := 70) (L' := [some (.ref 40), some (.int (nI st)), some (.int (nI ms)), some (.int (nI dp)), some (.int (nI i)), some (.int (nI (T i))), some (.int (-1)), none]) (st' := [.int 1]) rfl ?_
          refine am_go cd_M_fault hc_M_fault 39 3 (pc' := 76) (L' := [some (.ref 40), some (.int (nI st)), some (.int (nI ms)), some (.int (nI dp)), some (.int (nI i)), some (.int (nI (T i))), some (.int 1), none]) (st' := [.int 40, .int (nI (T i))]) rfl ?_
          refine am_icmp_ne 85 (am_at hc_M_fault 42 rfl) (by decide) (fun q3 => ?_) (fun q3 => absurd q3 (fun z => by have := (nI_eq (b := 40) (by omega) (by decide)).mp z; omega))
          refine am_go cd_M_fault hc_M_fault 47 5 (pc' := 91) (L' := [some (.ref 40), some (.int (nI st)), some (.int (nI ms)), some (.int (nI dp)), some (.int (nI i)), some (.int (nI (T i))), some (.int 1), none]) (st' := [.int (nI i), .ref 40, .ref 40]) rfl ?_
          refine cW.callV1 94 [.int (bI (pr_dg T n i)), .ref 40] (st := [.ref 40]) [.int (nI i)] (am_at hc_M_fault 52 rfl) g_M_digit (Or.inl (tw 401 rfl rfl)) (tw 403 rfl rfl) (tp 20 rfl rfl) 3 k_r3 rfl (by decide) rfl rfl rfl rfl (Nat.le_of_ble_eq_true rfl) (c_M_digit (hD _) (by omega)) rfl rfl ?_
          rw [hdg]
          simp only [bI_t]
          refine am_if_eq 106 (am_at hc_M_fault 53 rfl) (by decide) (fun q4 => absurd q4 (by decide)) (fun q4 => ?_)
          refine am_go cd_M_fault hc_M_fault 54 1 (pc' := 98) (L' := [some (.ref 40), some (.int (nI st)), some (.int (nI ms)), some (.int (nI dp)), some (.int (nI i)), some (.int (nI (T i))), some (.int 1), none]) (st' := [.ref 40, .ref 40]) rfl ?_
          refine am_getf 3 15 k_r3 (am_at hc_M_fault 55 rfl) rfl (by decide) rfl (by decide) k_ok3 (Or.inl (tw 321 rfl rfl)) (congrArg Value.int am_u_i) ?_
          refine am_go cd_M_fault hc_M_fault 56 2 (pc' := 103) (L' := [some (.ref 40), some (.int (nI st)), some (.int (nI ms)), some (.int (nI dp)), some (.int (nI i)), some (.int (nI (T i))), some (.int 1), none]) (st' := [.int (nI fd + 1), .ref 40]) rfl ?_
          rw [show nI fd + 1 = nI (fd + 1) from nI_1 _]
          refine am_go cd_M_fault hc_M_fault 58 1 (pc' := 110) (L' := [some (.ref 40), some (.int (nI st)), some (.int (nI ms)), some (.int (nI dp)), some (.int (nI i)), some (.int (nI (T i))), some (.int 1), none]) (st' := [.int (nI (fd + 1)), .ref 40]) rfl ?_
          refine am_putI 3 15 k_r3 (am_at hc_M_fault 61 rfl) rfl (by decide) rfl (by decide) k_ok3 (tw 321 rfl rfl) rfl rfl rfl rfl ?_
          rw [am_uu]
          refine am_go cd_M_fault hc_M_fault 62 3 (pc' := 304) (L' := [some (.ref 40), some (.int (nI st)), some (.int 0), some (.int (nI dp)), some (.int (nI i)), some (.int (nI (T i))), some (.int 1), none]) (st' := []) rfl ?_
          have hx : au_nx T n i st ms dp fd = some (1, 0, dp, fd + 1) := by unfold au_nx; rw [if_pos hs0, if_pos hdg]
          refine am_weak (L' := [some (.ref 40), none, some (.int 0), some (.int (nI dp)), some (.int (nI i)), none, some (.int 1), none]) ⟨rfl, rfl, rfl, rfl, rfl, trivial⟩ ?_
          exact chkN (1, 0, dp, fd + 1) hx (by dsimp only; omega) (by dsimp only; omega) (fun _ => by dsimp only; omega) (by dsimp only; omega)
        | false =>
          have hdn : ¬ pr_dg T n i = true := by rw [hdg]; decide
          simp only [bI_f]
          refine am_if_eq 52 (am_at hc_M_fault 27 rfl) (by decide) (fun q2 => ?_) (fun q2 => absurd rfl q2)
          refine am_go cd_M_fault hc_M_fault 30 2 (pc' := 56) (L' := [some (.ref 40), some (.int (nI st)), some (.int (nI ms)), some (.int (nI dp)), some (.int (nI i)), some (.int (nI (T i))), some (.int (-1)), none]) (st' := [.int 40, .int (nI (T i))]) rfl ?_
          refine am_icmp_ne 69 (am_at hc_M_fault 32 rfl) (by decide) (fun q3 => ?_) (fun q3 => ?_)
          · have c40 : ¬ T i = 40 := fun z => q3 (by rw [z]; rfl)
            refine am_go cd_M_fault hc_M_fault 38 4 (pc' := 76) (L' := [some (.ref 40), some (.int (nI st)), some (.int (nI ms)), some (.int (nI dp)), some (.int (nI i)), some (.int (nI (T i))), some (.int (-1)), none]) (st' := [.int 40, .int (nI (T i))]) rfl ?_
            refine am_icmp_ne 85 (am_at hc_M_fault 42 rfl) (by decide) (fun qa => ?_) (fun qa => absurd qa (fun z => c40 ((nI_eq (b := 40) (by omega) (by decide)).mp z)))
            refine am_go cd_M_fault hc_M_fault 47 5 (pc' := 91) (L' := [some (.ref 40), some (.int (nI st)), some (.int (nI ms)), some (.int (nI dp)), some (.int (nI i)), some (.int (nI (T i))), some (.int (-1)), none]) (st' := [.int (nI i), .ref 40, .ref 40]) rfl ?_
            refine cW.callV1 94 [.int (bI (pr_dg T n i)), .ref 40] (st := [.ref 40]) [.int (nI i)] (am_at hc_M_fault 52 rfl) g_M_digit (Or.inl (tw 401 rfl rfl)) (tw 403 rfl rfl) (tp 20 rfl rfl) 3 k_r3 rfl (by decide) rfl rfl rfl rfl (Nat.le_of_ble_eq_true rfl) (c_M_digit (hD _) (by omega)) rfl rfl ?_
            rw [hdg]
            simp only [bI_f]
            refine am_if_eq 106 (am_at hc_M_fault 53 rfl) (by decide) (fun qb => ?_) (fun qb => absurd rfl qb)
            refine am_go cd_M_fault hc_M_fault 59 1 (pc' := 107) (L' := [some (.ref 40), some (.int (nI st)), some (.int (nI ms)), some (.int (nI dp)), some (.int (nI i)), some (.int (nI (T i))), some (.int (-1)), none]) (st' := [.ref 40, .ref 40]) rfl ?_
            refine am_getf 3 15 k_r3 (am_at hc_M_fault 60 rfl) rfl (by decide) rfl (by decide) k_ok3 (Or.inl (tw 321 rfl rfl)) (congrArg Value.int am_u_i) ?_
            refine am_putI 3 15 k_r3 (am_at hc_M_fault 61 rfl) rfl (by decide) rfl (by decide) k_ok3 (tw 321 rfl rfl) rfl rfl rfl rfl ?_
            rw [am_uu]
            refine am_go cd_M_fault hc_M_fault 62 3 (pc' := 304) (L' := [some (.ref 40), some (.int (nI st)), some (.int 0), some (.int (nI dp)), some (.int (nI i)), some (.int (nI (T i))), some (.int (-1)), none]) (st' := []) rfl ?_
            have hx : au_nx T n i st ms dp fd = none := by unfold au_nx; rw [if_pos hs0, if_neg hdn, if_neg (fun z => c40 z.1)]
            rw [au_run_none hx] at he
            refine am_weak (L' := [some (.ref 40), none, none, none, some (.int (nI i)), none, some (.int (-1)), none]) ⟨rfl, rfl, rfl, trivial⟩ ?_
            exact chkF i _ he
          · have c40 : T i = 40 := (nI_eq (b := 40) (by omega) (by decide)).mp q3
            refine am_go cd_M_fault hc_M_fault 33 2 (pc' := 62) (L' := [some (.ref 40), some (.int (nI st)), some (.int (nI ms)), some (.int (nI dp)), some (.int (nI i)), some (.int (nI (T i))), some (.int (-1)), none]) (st' := [.int 8, .int (nI dp)]) rfl ?_
            refine am_icmp_ge 69 (am_at hc_M_fault 35 rfl) (by decide) (fun q4 => ?_) (fun q4 => ?_)
            · have d8 : 8 ≤ dp := (nI_leI (a := 8) (by decide) (by omega)).mp q4
              refine am_go cd_M_fault hc_M_fault 38 4 (pc' := 76) (L' := [some (.ref 40), some (.int (nI st)), some (.int (nI ms)), some (.int (nI dp)), some (.int (nI i)), some (.int (nI (T i))), some (.int (-1)), none]) (st' := [.int 40, .int (nI (T i))]) rfl ?_
              refine am_icmp_ne 85 (am_at hc_M_fault 42 rfl) (by decide) (fun qa => absurd qa (fun z => z (by rw [c40]; rfl))) (fun qa => ?_)
              refine am_go cd_M_fault hc_M_fault 43 4 (pc' := 86) (L' := [some (.ref 40), some (.int (nI st)), some (.int (nI ms)), some (.int (nI dp)), some (.int (nI i)), some (.int (nI (T i))), some (.int (-1)), none]) (st' := [.int (nI dp + 1)]) rfl ?_
              refine am_go cd_M_fault hc_M_fault 48 4 (pc' := 91) (L' := [some (.ref 40), some (.int (nI st)), some (.int (nI ms)), some (.int (nI dp + 1)), some (.int (nI i)), some (.int (nI (T i))), some (.int (-1)), none]) (st' := [.int (nI i), .ref 40, .ref 40]) rfl ?_
              refine cW.callV1 94 [.int (bI (pr_dg T n i)), .ref 40] (st := [.ref 40]) [.int (nI i)] (am_at hc_M_fault 52 rfl) g_M_digit (Or.inl (tw 401 rfl rfl)) (tw 403 rfl rfl) (tp 20 rfl rfl) 3 k_r3 rfl (by decide) rfl rfl rfl rfl (Nat.le_of_ble_eq_true rfl) (c_M_digit (hD _) (by omega)) rfl rfl ?_
              rw [hdg]
              simp only [bI_f]
              refine am_if_eq 106 (am_at hc_M_fault 53 rfl) (by decide) (fun qb => ?_) (fun qb => absurd rfl qb)
              refine am_go cd_M_fault hc_M_fault 59 1 (pc' := 107) (L' := [some (.ref 40), some (.int (nI st)), some (.int (nI ms)), some (.int (nI dp + 1)), some (.int (nI i)), some (.int (nI (T i))), some (.int (-1)), none]) (st' := [.ref 40, .ref 40]) rfl ?_
              refine am_getf 3 15 k_r3 (am_at hc_M_fault 60 rfl) rfl (by decide) rfl (by decide) k_ok3 (Or.inl (tw 321 rfl rfl)) (congrArg Value.int am_u_i) ?_
              refine am_putI 3 15 k_r3 (am_at hc_M_fault 61 rfl) rfl (by decide) rfl (by decide) k_ok3 (tw 321 rfl rfl) rfl rfl rfl rfl ?_
              rw [am_uu]
              refine am_go cd_M_fault hc_M_fault 62 3 (pc' := 304) (L' := [some (.ref 40), some (.int (nI st)), some (.int 0), some (.int (nI dp + 1)), some (.int (nI i)), some (.int (nI (T i))), some (.int (-1)), none]) (st' := []) rfl ?_
              have hx : au_nx T n i st ms dp fd = none := by unfold au_nx; rw [if_pos hs0, if_neg hdn, if_neg (fun z => by omega)]
              rw [au_run_none hx] at he
              refine am_weak (L' := [some (.ref 40), none, none, none, some (.int (nI i)), none, some (.int (-1)), none]) ⟨rfl, rfl, rfl, trivial⟩ ?_
              exact chkF i _ he
            · have d8 : dp < 8 := Nat.not_le.mp (fun z => q4 ((nI_leI (a := 8) (by decide) (by omega)).mpr z))
              refine am_go cd_M_fault hc_M_fault 36 2 (pc' := 70) (L' := [some (.ref 40), some (.int (nI st)), some (.int (nI ms)), some (.int (nI dp)), some (.int (nI i)), some (.int (nI (T i))), some (.int (-1)), none]) (st' := [.int 0]) rfl ?_
              refine am_go cd_M_fault hc_M_fault 39 3 (pc' := 76) (L' := [some (.ref 40), some (.int (nI st)), some (.int (nI ms)), some (.int (nI dp)), some (.int (nI i)), some (.int (nI (T i))), some (.int 0), none]) (st' := [.int 40, .int (nI (T i))]) rfl ?_
              refine am_icmp_ne 85 (am_at hc_M_fault 42 rfl) (by decide) (fun qa => absurd qa (fun z => z (by rw [c40]; rfl))) (fun qa => ?_)
              refine am_go cd_M_fault hc_M_fault 43 4 (pc' := 86) (L' := [some (.ref 40), some (.int (nI st)), some (.int (nI ms)), some (.int (nI dp)), some (.int (nI i)), some (.int (nI (T i))), some (.int 0), none]) (st' := [.int (nI dp + 1)]) rfl ?_
              refine am_go cd_M_fault hc_M_fault 48 4 (pc' := 91) (L' := [some (.ref 40), some (.int (nI st)), some (.int (nI ms)), some (.int (nI dp + 1)), some (.int (nI i)), some (.int (nI (T i))), some (.int 0), none]) (st' := [.int (nI i), .ref 40, .ref 40]) rfl ?_
              refine cW.callV1 94 [.int (bI (pr_dg T n i)), .ref 40] (st := [.ref 40]) [.int (nI i)] (am_at hc_M_fault 52 rfl) g_M_digit (Or.inl (tw 401 rfl rfl)) (tw 403 rfl rfl) (tp 20 rfl rfl) 3 k_r3 rfl (by decide) rfl rfl rfl rfl (Nat.le_of_ble_eq_true rfl) (c_M_digit (hD _) (by omega)) rfl rfl ?_
              rw [hdg]
              simp only [bI_f]
              refine am_if_eq 106 (am_at hc_M_fault 53 rfl) (by decide) (fun qb => ?_) (fun qb => absurd rfl qb)
              refine am_go cd_M_fault hc_M_fault 59 1 (pc' := 107) (L' := [some (.ref 40), some (.int (nI st)), some (.int (nI ms)), some (.int (nI dp + 1)), some (.int (nI i)), some (.int (nI (T i))), some (.int 0), none]) (st' := [.ref 40, .ref 40]) rfl ?_
              refine am_getf 3 15 k_r3 (am_at hc_M_fault 60 rfl) rfl (by decide) rfl (by decide) k_ok3 (Or.inl (tw 321 rfl rfl)) (congrArg Value.int am_u_i) ?_
              refine am_putI 3 15 k_r3 (am_at hc_M_fault 61 rfl) rfl (by decide) rfl (by decide) k_ok3 (tw 321 rfl rfl) rfl rfl rfl rfl ?_
              rw [am_uu]
              refine am_go cd_M_fault hc_M_fault 62 3 (pc' := 304) (L' := [some (.ref 40), some (.int (nI st)), some (.int 0), some (.int (nI dp + 1)), some (.int (nI i)), some (.int (nI (T i))), some (.int 0), none]) (st' := []) rfl ?_
              rw [show nI dp + 1 = nI (dp + 1) from nI_1 _]
              have hx : au_nx T n i st ms dp fd = some (0, 0, dp + 1, fd) := by unfold au_nx; rw [if_pos hs0, if_neg hdn, if_pos ⟨c40, d8⟩]
              refine am_weak (L' := [some (.ref 40), none, some (.int 0), some (.int (nI (dp + 1))), some (.int (nI i)), none, some (.int 0), none]) ⟨rfl, rfl, rfl, rfl, rfl, trivial⟩ ?_
              exact chkN (0, 0, dp + 1, fd) hx (by dsimp only; omega) (by dsimp only; omega) (fun _ => by dsimp only; omega) (by dsimp only; omega)
  have h0 := loop n 0 0 0 0 0 (by omega) (by decide) (by decide) (by decide) (by decide) hRR
  exact h0
