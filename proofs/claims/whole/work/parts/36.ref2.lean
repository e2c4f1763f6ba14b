set_option maxHeartbeats 4000000 in
theorem c_M_cash {l : Launch} {x : am_X} {e L : Nat} {d : am_D} {cash esc pd pt ow : Nat → Int32} {res : Nat → Int} {wt : Nat → Nat → Int} {T : Nat → Nat} {n : Nat} {se : Int32} {cl : Bool} (h : RM cash esc pd pt ow res wt T n se cl d) (v : Int32) : cM l x (e + 1) L m_M_cash [.ref 40, .int v] d (fun r d' => r = some (.int (if isB v then cash (cN v) else -2)) ∧ RM cash esc pd pt ow res wt T n se cl d' ∧ fM d d') := by
  obtain ⟨h1, h2, h3, h4, h5, h6, h7, h8, h9, h10⟩ := id h
  refine cM.go (by decide) (by simp [Value.category]) (Nat.le_of_ble_eq_true rfl) ?_
  refine am_go cd_M_cash hc_M_cash 0 1 (pc' := 1) (L' := [some (.ref 40), some (.int v)]) (st' := [.int v]) rfl ?_
  refine cW.callS1 4 [.int (if isB v then 1 else 0)] (st := []) [.int v] (am_at hc_M_cash 1 rfl) g_M_bidder (Or.inl (tw 368 rfl rfl)) (tw 369 rfl rfl) rfl rfl (Nat.le_of_ble_eq_true rfl) (c_mB v) rfl rfl ?_
  by_cases hb : isB v
  · simp only [if_pos hb]
    refine am_if_eq 16 (am_at hc_M_cash 2 rfl) (by decide) (fun q1 => absurd q1 (by decide)) (fun q1 => ?_)
    obtain ⟨b, hb5, rfl⟩ := isB_of hb
    simp only [nI_cl (show b < 1000000 by omega)]
    refine am_go cd_M_cash hc_M_cash 3 1 (pc' := 8) (L' := [some (.ref 40), some (.int (nI b))]) (st' := [.ref 40]) rfl ?_
    refine am_getf 3 1 k_r3 (am_at hc_M_cash 4 rfl) rfl (by decide) rfl (by decide) k_ok3 (Or.inl (tw 307 rfl rfl)) rfl ?_
    refine am_go cd_M_cash hc_M_cash 5 1 (pc' := 12) (L' := [some (.ref 40), some (.int (nI b))]) (st' := [.int (nI b), .ref 41]) rfl ?_
    refine am_iaload (b) (am_at hc_M_cash 6 rfl) rfl (Or.inl (by decide)) rfl (by show b < 5; omega) (Nat.le_of_ble_eq_true rfl) ?_
    rw [show d 41 b = cash b from h1 b hb5]
    refine am_go cd_M_cash hc_M_cash 7 1 (pc' := 18) (L' := [some (.ref 40), some (.int (nI b))]) (st' := [.int (cash b)]) rfl ?_
    exact am_iret (am_at hc_M_cash 9 rfl) rfl rfl ⟨rfl, rfl, rfl, h, fM.rf⟩
  · simp only [if_neg hb]
    refine am_if_eq 16 (am_at hc_M_cash 2 rfl) (by decide) (fun q1 => ?_) (fun q1 => absurd rfl q1)
    refine am_go cd_M_cash hc_M_cash 8 1 (pc' := 18) (L' := [some (.ref 40), some (.int v)]) (st' := [.int (-2)]) rfl ?_
    exact am_iret (am_at hc_M_cash 9 rfl) rfl rfl ⟨rfl, rfl, rfl, h, fM.rf⟩
set_option maxHeartbeats 4000000 in
theorem c_M_escrow {l : Launch} {x : am_X} {e L : Nat} {d : am_D} {cash esc pd pt ow : Nat → Int32} {res : Nat → Int} {wt : Nat → Nat → Int} {T : Nat → Nat} {n : Nat} {se : Int32} {cl : Bool} (h : RM cash esc pd pt ow res wt T n se cl d) (v : Int32) : cM l x (e + 1) L m_M_escrow [.ref 40, .int v] d (fun r d' => r = some (.int (if isB v then esc (cN v) else -2)) ∧ RM cash esc pd pt ow res wt T n se cl d' ∧ fM d d') := by
  obtain ⟨h1, h2, h3, h4, h5, h6, h7, h8, h9, h10⟩ := id h
  refine cM.go (by decide) (by simp [Value.category]) (Nat.le_of_ble_eq_true rfl) ?_
  refine am_go cd_M_escrow hc_M_escrow 0 1 (pc' := 1) (L' := [some (.ref 40), some (.int v)]) (st' := [.int v]) rfl ?_
  refine cW.callS1 4 [.int (if isB v then 1 else 0)] (st := []) [.int v] (am_at hc_M_escrow 1 rfl) g_M_bidder (Or.inl (tw 368 rfl rfl)) (tw 369 rfl rfl) rfl rfl (Nat.le_of_ble_eq_true rfl) (c_mB v) rfl rfl ?_
  by_cases hb : isB v
  · simp only [if_pos hb]
    refine am_if_eq 16 (am_at hc_M_escrow 2 rfl) (by decide) (fun q1 => absurd q1 (by decide)) (fun q1 => ?_)
    obtain ⟨b, hb5, rfl⟩ := isB_of hb
    simp only [nI_cl (show b < 1000000 by omega)]
    refine am_go cd_M_escrow hc_M_escrow 3 1 (pc' := 8) (L' := [some (.ref 40), some (.int (nI b))]) (st' := [.ref 40]) rfl ?_
    refine am_getf 3 2 k_r3 (am_at hc_M_escrow 4 rfl) rfl (by decide) rfl (by decide) k_ok3 (Or.inl (tw 308 rfl rfl)) rfl ?_
    refine am_go cd_M_escrow hc_M_escrow 5 1 (pc' := 12) (L' := [some (.ref 40), some (.int (nI b))]) (st' := [.int (nI b), .ref 42]) rfl ?_
    refine am_iaload (b) (am_at hc_M_escrow 6 rfl) rfl (Or.inl (by decide)) rfl (by show b < 5; omega) (Nat.le_of_ble_eq_true rfl) ?_
    rw [show d 42 b = esc b from h2 b hb5]
    refine am_go cd_M_escrow hc_M_escrow 7 1 (pc' := 18) (L' := [some (.ref 40), some (.int (nI b))]) (st' := [.int (esc b)]) rfl ?_
    exact am_iret (am_at hc_M_escrow 9 rfl) rfl rfl ⟨rfl, rfl, rfl, h, fM.rf⟩
  · simp only [if_neg hb]
    refine am_if_eq 16 (am_at hc_M_escrow 2 rfl) (by decide) (fun q1 => ?_) (fun q1 => absurd rfl q1)
    refine am_go cd_M_escrow hc_M_escrow 8 1 (pc' := 18) (L' := [some (.ref 40), some (.int v)]) (st' := [.int (-2)]) rfl ?_
    exact am_iret (am_at hc_M_escrow 9 rfl) rfl rfl ⟨rfl, rfl, rfl, h, fM.rf⟩
set_option maxHeartbeats 4000000 in
theorem c_M_parts {l : Launch} {x : am_X} {e L : Nat} {d : am_D} {cash esc pd pt ow : Nat → Int32} {res : Nat → Int} {wt : Nat → Nat → Int} {T : Nat → Nat} {n : Nat} {se : Int32} {cl : Bool} (h : RM cash esc pd pt ow res wt T n se cl d) (v : Int32) : cM l x (e + 1) L m_M_parts [.ref 40, .int v] d (fun r d' => r = some (.int (if isB v then pt (cN v) else -2)) ∧ RM cash esc pd pt ow res wt T n se cl d' ∧ fM d d') := by
  obtain ⟨h1, h2, h3, h4, h5, h6, h7, h8, h9, h10⟩ := id h
  refine cM.go (by decide) (by simp [Value.category]) (Nat.le_of_ble_eq_true rfl) ?_
  refine am_go cd_M_parts hc_M_parts 0 1 (pc' := 1) (L' := [some (.ref 40), some (.int v)]) (st' := [.int v]) rfl ?_
  refine cW.callS1 4 [.int (if isB v then 1 else 0)] (st := []) [.int v] (am_at hc_M_parts 1 rfl) g_M_bidder (Or.inl (tw 368 rfl rfl)) (tw 369 rfl rfl) rfl rfl (Nat.le_of_ble_eq_true rfl) (c_mB v) rfl rfl ?_
  by_cases hb : isB v
  · simp only [if_pos hb]
    refine am_if_eq 16 (am_at hc_M_parts 2 rfl) (by decide) (fun q1 => absurd q1 (by decide)) (fun q1 => ?_)
    obtain ⟨b, hb5, rfl⟩ := isB_of hb
    simp only [nI_cl (show b < 1000000 by omega)]
    refine am_go cd_M_parts hc_M_parts 3 1 (pc' := 8) (L' := [some (.ref 40), some (.int (nI b))]) (st' := [.ref 40]) rfl ?_
    refine am_getf 3 8 k_r3 (am_at hc_M_parts 4 rfl) rfl (by decide) rfl (by decide) k_ok3 (Or.inl (tw 314 rfl rfl)) rfl ?_
    refine am_go cd_M_parts hc_M_parts 5 1 (pc' := 12) (L' := [some (.ref 40), some (.int (nI b))]) (st' := [.int (nI b), .ref 46]) rfl ?_
    refine am_iaload (b) (am_at hc_M_parts 6 rfl) rfl (Or.inl (by decide)) rfl (by show b < 5; omega) (Nat.le_of_ble_eq_true rfl) ?_
    rw [show d 46 b = pt b from h4 b hb5]
    refine am_go cd_M_parts hc_M_parts 7 1 (pc' := 18) (L' := [some (.ref 40), some (.int (nI b))]) (st' := [.int (pt b)]) rfl ?_
    exact am_iret (am_at hc_M_parts 9 rfl) rfl rfl ⟨rfl, rfl, rfl, h, fM.rf⟩
  · simp only [if_neg hb]
    refine am_if_eq 16 (am_at hc_M_parts 2 rfl) (by decide) (fun q1 => ?_) (fun q1 => absurd rfl q1)
    refine am_go cd_M_parts hc_M_parts 8 1 (pc' := 18) (L' := [some (.ref 40), some (.int v)]) (st' := [.int (-2)]) rfl ?_
    exact am_iret (am_at hc_M_parts 9 rfl) rfl rfl ⟨rfl, rfl, rfl, h, fM.rf⟩
set_option maxHeartbeats 4000000 in
theorem c_M_paid {l : Launch} {x : am_X} {e L : Nat} {d : am_D} {cash esc pd pt ow : Nat → Int32} {res : Nat → Int} {wt : Nat → Nat → Int} {T : Nat → Nat} {n : Nat} {se : Int32} {cl : Bool} (h : RM cash esc pd pt ow res wt T n se cl d) (v : Int32) : cM l x (e + 1) L m_M_paid [.ref 40, .int v] d (fun r d' => r = some (.int (if clB cl v then pd (cN v) else -2)) ∧ RM cash esc pd pt ow res wt T n se cl d' ∧ fM d d') := by
  obtain ⟨h1, h2, h3, h4, h5, h6, h7, h8, h9, h10⟩ := id h
  refine cM.go (by decide) (by simp [Value.category]) (Nat.le_of_ble_eq_true rfl) ?_
  refine am_go cd_M_paid hc_M_paid 0 1 (pc' := 1) (L' := [some (.ref 40), some (.int v)]) (st' := [.ref 40]) rfl ?_
  refine am_getf 3 0 k_r3 (am_at hc_M_paid 1 rfl) rfl (by decide) rfl (by decide) k_ok3 (Or.inl (tw 306 rfl rfl)) (congrArg Value.int h10) ?_
  cases cl with
  | false =>
    simp only [bI_f]
    refine am_if_eq 14 (am_at hc_M_paid 2 rfl) (by decide) (fun q0 => ?_) (fun q0 => absurd rfl q0)
    have hno : ¬ clB false v := fun z => by cases z.1
    simp only [if_neg hno]
    refine am_go cd_M_paid hc_M_paid 6 2 (pc' := 25) (L' := [some (.ref 40), some (.int v)]) (st' := [.int (-2)]) rfl ?_
    exact am_iret (am_at hc_M_paid 12 rfl) rfl rfl ⟨rfl, rfl, rfl, h, fM.rf⟩
  | true =>
    simp only [bI_t]
    refine am_if_eq 14 (am_at hc_M_paid 2 rfl) (by decide) (fun q0 => absurd q0 (by decide)) (fun q0 => ?_)
    refine am_go cd_M_paid hc_M_paid 3 1 (pc' := 8) (L' := [some (.ref 40), some (.int v)]) (st' := [.int v]) rfl ?_
    refine cW.callS1 11 [.int (if isB v then 1 else 0)] (st := []) [.int v] (am_at hc_M_paid 4 rfl) g_M_bidder (Or.inl (tw 368 rfl rfl)) (tw 369 rfl rfl) rfl rfl (Nat.le_of_ble_eq_true rfl) (c_mB v) rfl rfl ?_
    by_cases hb : isB v
    · simp only [if_pos hb]
      refine am_if_ne 19 (am_at hc_M_paid 5 rfl) (by decide) (fun q1 => ?_) (fun q1 => absurd q1 (by decide))
      have hok : clB true v := ⟨rfl, hb⟩
      simp only [if_pos hok]
      obtain ⟨b, hb5, rfl⟩ := isB_of hb
      simp only [nI_cl (show b < 1000000 by omega)]
      refine am_go cd_M_paid hc_M_paid 8 1 (pc' := 20) (L' := [some (.ref 40), some (.int (nI b))]) (st' := [.ref 40]) rfl ?_
      refine am_getf 3 18 k_r3 (am_at hc_M_paid 9 rfl) rfl (by decide) rfl (by decide) k_ok3 (Or.inl (tw 324 rfl rfl)) rfl ?_
      refine am_go cd_M_paid hc_M_paid 10 1 (pc' := 24) (L' := [some (.ref 40), some (.int (nI b))]) (st' := [.int (nI b), .ref 52]) rfl ?_
      refine am_iaload (b) (am_at hc_M_paid 11 rfl) rfl (Or.inl (by decide)) rfl (by show b < 5; omega) (Nat.le_of_ble_eq_true rfl) ?_
      rw [show d 52 b = pd b from h3 b hb5]
      exact am_iret (am_at hc_M_paid 12 rfl) rfl rfl ⟨rfl, rfl, rfl, h, fM.rf⟩
    · simp only [if_neg hb]
      refine am_if_ne 19 (am_at hc_M_paid 5 rfl) (by decide) (fun q1 => absurd rfl q1) (fun q1 => ?_)
      have hno : ¬ clB true v := fun z => hb z.2
      simp only [if_neg hno]
      refine am_go cd_M_paid hc_M_paid 6 2 (pc' := 25) (L' := [some (.ref 40), some (.int v)]) (st' := [.int (-2)]) rfl ?_
      exact am_iret (am_at hc_M_paid 12 rfl) rfl rfl ⟨rfl, rfl, rfl, h, fM.rf⟩
set_option maxHeartbeats 4000000 in
theorem c_M_owner {l : Launch} {x : am_X} {e L : Nat} {d : am_D} {cash esc pd pt ow : Nat → Int32} {res : Nat → Int} {wt : Nat → Nat → Int} {T : Nat → Nat} {n : Nat} {se : Int32} {cl : Bool} (h : RM cash esc pd pt ow res wt T n se cl d) (v : Int32) : cM l x e L m_M_owner [.ref 40, .int v] d (fun r d' => r = some (.int (if clI cl v then ow (cN v) else -2)) ∧ RM cash esc pd pt ow res wt T n se cl d' ∧ fM d d') := by
  obtain ⟨h1, h2, h3, h4, h5, h6, h7, h8, h9, h10⟩ := id h
  refine cM.go (by decide) (by simp [Value.category]) (Nat.le_of_ble_eq_true rfl) ?_
  refine am_go cd_M_owner hc_M_owner 0 1 (pc' := 1) (L' := [some (.ref 40), some (.int v)]) (st' := [.ref 40]) rfl ?_
  refine am_getf 3 0 k_r3 (am_at hc_M_owner 1 rfl) rfl (by decide) rfl (by decide) k_ok3 (Or.inl (tw 306 rfl rfl)) (congrArg Value.int h10) ?_
  cases cl with
  | false =>
    simp only [bI_f]
    refine am_if_eq 16 (am_at hc_M_owner 2 rfl) (by decide) (fun q0 => ?_) (fun q0 => absurd rfl q0)
    have hno : ¬ clI false v := fun z => by cases z.1
    simp only [if_neg hno]
    refine am_go cd_M_owner hc_M_owner 8 2 (pc' := 27) (L' := [some (.ref 40), some (.int v)]) (st' := [.int (-2)]) rfl ?_
    exact am_iret (am_at hc_M_owner 14 rfl) rfl rfl ⟨rfl, rfl, rfl, h, fM.rf⟩
  | true =>
    simp only [bI_t]
    refine am_if_eq 16 (am_at hc_M_owner 2 rfl) (by decide) (fun q0 => absurd q0 (by decide)) (fun q0 => ?_)
    refine am_go cd_M_owner hc_M_owner 3 1 (pc' := 8) (L' := [some (.ref 40), some (.int v)]) (st' := [.int v]) rfl ?_
    refine am_if_lt 16 (am_at hc_M_owner 4 rfl) (by decide) (fun qa => ?_) (fun qa => ?_)
    · skip
      have hno : ¬ clI true v := fun z => Int32.not_lt.mpr z.2.1 qa
      simp only [if_neg hno]
      refine am_go cd_M_owner hc_M_owner 8 2 (pc' := 27) (L' := [some (.ref 40), some (.int v)]) (st' := [.int (-2)]) rfl ?_
      exact am_iret (am_at hc_M_owner 14 rfl) rfl rfl ⟨rfl, rfl, rfl, h, fM.rf⟩
    · skip
      refine am_go cd_M_owner hc_M_owner 5 2 (pc' := 13) (L' := [some (.ref 40), some (.int v)]) (st' := [.int 5, .int v]) rfl ?_
      refine am_icmp_le 21 (am_at hc_M_owner 7 rfl) (by decide) (fun qb => ?_) (fun qb => ?_)
      · have hb : isI v := ⟨Int32.not_lt.mp qa, (le5_lt6 v).mp qb⟩
        have hok : clI true v := ⟨rfl, hb⟩
        simp only [if_pos hok]
        obtain ⟨b, hb5, rfl⟩ := isI_of hb
        simp only [nI_cl (show b < 1000000 by omega)]
        refine am_go cd_M_owner hc_M_owner 10 1 (pc' := 22) (L' := [some (.ref 40), some (.int (nI b))]) (st' := [.ref 40]) rfl ?_
        refine am_getf 3 17 k_r3 (am_at hc_M_owner 11 rfl) rfl (by decide) rfl (by decide) k_ok3 (Or.inl (tw 323 rfl rfl)) rfl ?_
        refine am_go cd_M_owner hc_M_owner 12 1 (pc' := 26) (L' := [some (.ref 40), some (.int (nI b))]) (st' := [.int (nI b), .ref 51]) rfl ?_
        refine am_iaload (b) (am_at hc_M_owner 13 rfl) rfl (Or.inl (by decide)) rfl (by show b < 6; omega) (Nat.le_of_ble_eq_true rfl) ?_
        rw [show d 51 b = ow b from h5 b hb5]
        exact am_iret (am_at hc_M_owner 14 rfl) rfl rfl ⟨rfl, rfl, rfl, h, fM.rf⟩
      · skip
        have hno : ¬ clI true v := fun z => qb ((le5_lt6 v).mpr z.2.2)
        simp only [if_neg hno]
        refine am_go cd_M_owner hc_M_owner 8 2 (pc' := 27) (L' := [some (.ref 40), some (.int v)]) (st' := [.int (-2)]) rfl ?_
        exact am_iret (am_at hc_M_owner 14 rfl) rfl rfl ⟨rfl, rfl, rfl, h, fM.rf⟩
set_option maxHeartbeats 4000000 in
theorem c_M_seller {l : Launch} {x : am_X} {e L : Nat} {d : am_D} {cash esc pd pt ow : Nat → Int32} {res : Nat → Int} {wt : Nat → Nat → Int} {T : Nat → Nat} {n : Nat} {se : Int32} {cl : Bool} (h : RM cash esc pd pt ow res wt T n se cl d) : cM l x e L m_M_seller [.ref 40] d (fun r d' => r = some (.int se) ∧ RM cash esc pd pt ow res wt T n se cl d' ∧ fM d d') := by
  obtain ⟨h1, h2, h3, h4, h5, h6, h7, h8, h9, h10⟩ := id h
  refine cM.go (by decide) (by simp [Value.category]) (Nat.le_of_ble_eq_true rfl) ?_
  refine am_go cd_M_seller hc_M_seller 0 1 (pc' := 1) (L' := [some (.ref 40)]) (st' := [.ref 40]) rfl ?_
  refine am_getf 3 3 k_r3 (am_at hc_M_seller 1 rfl) rfl (by decide) rfl (by decide) k_ok3 (Or.inl (tw 309 rfl rfl)) (congrArg Value.int h9) ?_
  exact am_iret (am_at hc_M_seller 2 rfl) rfl rfl ⟨rfl, rfl, rfl, h, fM.rf⟩
set_option maxHeartbeats 4000000 in
theorem c_M_state {l : Launch} {x : am_X} {e L : Nat} {d : am_D} {cash esc pd pt ow : Nat → Int32} {res : Nat → Int} {wt : Nat → Nat → Int} {T : Nat → Nat} {n : Nat} {se : Int32} {cl : Bool} (h : RM cash esc pd pt ow res wt T n se cl d) : cM l x e L m_M_state [.ref 40] d (fun r d' => r = some (.int (bI cl)) ∧ RM cash esc pd pt ow res wt T n se cl d' ∧ fM d d') := by
  obtain ⟨h1, h2, h3, h4, h5, h6, h7, h8, h9, h10⟩ := id h
  refine cM.go (by decide) (by simp [Value.category]) (Nat.le_of_ble_eq_true rfl) ?_
  refine am_go cd_M_state hc_M_state 0 1 (pc' := 1) (L' := [some (.ref 40)]) (st' := [.ref 40]) rfl ?_
  refine am_getf 3 0 k_r3 (am_at hc_M_state 1 rfl) rfl (by decide) rfl (by decide) k_ok3 (Or.inl (tw 306 rfl rfl)) (congrArg Value.int h10) ?_
  cases cl with
  | false =>
    simp only [bI_f]
    refine am_if_eq 11 (am_at hc_M_state 2 rfl) (by decide) (fun q0 => ?_) (fun q0 => absurd rfl q0)
    refine am_go cd_M_state hc_M_state 5 1 (pc' := 12) (L' := [some (.ref 40)]) (st' := [.int 0]) rfl ?_
    exact am_iret (am_at hc_M_state 6 rfl) rfl rfl ⟨rfl, rfl, rfl, h, fM.rf⟩
  | true =>
    simp only [bI_t]
    refine am_if_eq 11 (am_at hc_M_state 2 rfl) (by decide) (fun q0 => absurd q0 (by decide)) (fun q0 => ?_)
    refine am_go cd_M_state hc_M_state 3 2 (pc' := 12) (L' := [some (.ref 40)]) (st' := [.int 1]) rfl ?_
    exact am_iret (am_at hc_M_state 6 rfl) rfl rfl ⟨rfl, rfl, rfl, h, fM.rf⟩
set_option maxHeartbeats 4000000 in
theorem c_M_worth {l : Launch} {x : am_X} {e L : Nat} {d : am_D} {cash esc pd pt ow : Nat → Int32} {res : Nat → Int} {wt : Nat → Nat → Int} {T : Nat → Nat} {n : Nat} {se : Int32} {cl : Bool} (h : RM cash esc pd pt ow res wt T n se cl d) (v m : Int32) : cM l x (e + 1) L m_M_worth [.ref 40, .int v, .int m] d (fun r d' => r = some (.int (if woOk v m then zI (wt (cN v) (cN m)) else -2)) ∧ RM cash esc pd pt ow res wt T n se cl d' ∧ fM d d') := by
  obtain ⟨h1, h2, h3, h4, h5, h6, h7, h8, h9, h10⟩ := id h
  refine cM.go (by decide) (by simp [Value.category]) (Nat.le_of_ble_eq_true rfl) ?_
  refine am_go cd_M_worth hc_M_worth 0 1 (pc' := 1) (L' := [some (.ref 40), some (.int v), some (.int m)]) (st' := [.int v]) rfl ?_
  refine cW.callS1 4 [.int (if isB v then 1 else 0)] (st := []) [.int v] (am_at hc_M_worth 1 rfl) g_M_bidder (Or.inl (tw 368 rfl rfl)) (tw 369 rfl rfl) rfl rfl (Nat.le_of_ble_eq_true rfl) (c_mB v) rfl rfl ?_
  by_cases hb : isB v
  · simp only [if_pos hb]
    refine am_if_eq 17 (am_at hc_M_worth 2 rfl) (by decide) (fun q1 => absurd q1 (by decide)) (fun q1 => ?_)
    refine am_go cd_M_worth hc_M_worth 3 1 (pc' := 8) (L' := [some (.ref 40), some (.int v), some (.int m)]) (st' := [.int m]) rfl ?_
    refine am_if_lt 17 (am_at hc_M_worth 4 rfl) (by decide) (fun q2 => ?_) (fun q2 => ?_)
    · skip
      have hno : ¬ woOk v m := fun z => Int32.not_lt.mpr z.2.1 q2
      simp only [if_neg hno]
      refine am_go cd_M_worth hc_M_worth 8 2 (pc' := 33) (L' := [some (.ref 40), some (.int v), some (.int m)]) (st' := [.int (-2)]) rfl ?_
      exact am_iret (am_at hc_M_worth 18 rfl) rfl rfl ⟨rfl, rfl, rfl, h, fM.rf⟩
    · skip
      refine am_go cd_M_worth hc_M_worth 5 2 (pc' := 14) (L' := [some (.ref 40), some (.int v), some (.int m)]) (st' := [.int 63, .int m]) rfl ?_
      refine am_icmp_le 22 (am_at hc_M_worth 7 rfl) (by decide) (fun q3 => ?_) (fun q3 => ?_)
      · have hok : woOk v m := ⟨hb, Int32.not_lt.mp q2, (le63_lt64 m).mp q3⟩
        simp only [if_pos hok]
        obtain ⟨b, hb5, rfl⟩ := isB_of hb
        obtain ⟨s, hs31, rfl⟩ := nI_of q2
        have hs : s < 64 := (nI_ltI (b := 64) hs31 (by decide)).mp hok.2.2
        simp only [nI_cl (show b < 1000000 by omega), nI_cl (show s < 1000000 by omega)]
        refine am_go cd_M_worth hc_M_worth 10 1 (pc' := 23) (L' := [some (.ref 40), some (.int (nI b)), some (.int (nI s))]) (st' := [.ref 40]) rfl ?_
        refine am_getf 3 7 k_r3 (am_at hc_M_worth 11 rfl) rfl (by decide) rfl (by decide) k_ok3 (Or.inl (tw 313 rfl rfl)) rfl ?_
        refine am_go cd_M_worth hc_M_worth 12 5 (pc' := 32) (L' := [some (.ref 40), some (.int (nI b)), some (.int (nI s))]) (st' := [.int ((64 * nI b) + nI s), .ref 45]) rfl ?_
        refine am_iaload (64 * b + s) (am_at hc_M_worth 17 rfl) rfl (Or.inl (by decide)) (by rw [← nI_add, ← pk_mul]; rfl) (by show 64 * b + s < 320; omega) (Nat.le_of_ble_eq_true rfl) ?_
        rw [show d 45 (64 * b + s) = zI (wt b s) from (h7 b hb5).2 s hs]
        exact am_iret (am_at hc_M_worth 18 rfl) rfl rfl ⟨rfl, rfl, rfl, h, fM.rf⟩
      · skip
        have hno : ¬ woOk v m := fun z => q3 ((le63_lt64 m).mpr z.2.2)
        simp only [if_neg hno]
        refine am_go cd_M_worth hc_M_worth 8 2 (pc' := 33) (L' := [some (.ref 40), some (.int v), some (.int m)]) (st' := [.int (-2)]) rfl ?_
        exact am_iret (am_at hc_M_worth 18 rfl) rfl rfl ⟨rfl, rfl, rfl, h, fM.rf⟩
  · simp only [if_neg hb]
    refine am_if_eq 17 (am_at hc_M_worth 2 rfl) (by decide) (fun q1 => ?_) (fun q1 => absurd rfl q1)
    have hno : ¬ woOk v m := fun z => hb z.1
    simp only [if_neg hno]
    refine am_go cd_M_worth hc_M_worth 8 2 (pc' := 33) (L' := [some (.ref 40), some (.int v), some (.int m)]) (st' := [.int (-2)]) rfl ?_
    exact am_iret (am_at hc_M_worth 18 rfl) rfl rfl ⟨rfl, rfl, rfl, h, fM.rf⟩
set_option maxHeartbeats 4000000 in
theorem c_M_type {l : Launch} {x : am_X} {e L : Nat} {d : am_D} {cash esc pd pt ow : Nat → Int32} {res : Nat → Int} {wt : Nat → Nat → Int} {T : Nat → Nat} {n : Nat} {se : Int32} {cl : Bool} (h : RM cash esc pd pt ow res wt T n se cl d) (v : Int32) : cM l x e L m_M_type [.ref 40, .int v] d (fun r d' => r = some (.int (if tyNo n v then 0 else 1)) ∧ RM cash esc pd pt ow res wt (if tyNo n v then T else (fun j => if j = n then cN v else T j)) (if tyNo n v then n else n + 1) se cl d' ∧ fM d d') := by
  obtain ⟨h1, h2, h3, h4, h5, h6, h7, h8, h9, h10⟩ := id h
  refine cM.go (by decide) (by simp [Value.category]) (Nat.le_of_ble_eq_true rfl) ?_
  have hn40 := h8.2.1
  refine am_go cd_M_type hc_M_type 0 2 (pc' := 3) (L' := [some (.ref 40), some (.int v)]) (st' := [.int 32, .int v]) rfl ?_
  refine am_icmp_lt 21 (am_at hc_M_type 2 rfl) (by decide) (fun q1 => ?_) (fun q1 => ?_)
  · skip
    have hno : tyNo n v := Or.inl q1
    simp only [if_pos hno]
    refine am_go cd_M_type hc_M_type 10 1 (pc' := 22) (L' := [some (.ref 40), some (.int v)]) (st' := [.int 0]) rfl ?_
    exact am_iret (am_at hc_M_type 11 rfl) rfl rfl ⟨rfl, rfl, rfl, h, fM.rf⟩
  · skip
    refine am_go cd_M_type hc_M_type 3 2 (pc' := 9) (L' := [some (.ref 40), some (.int v)]) (st' := [.int 126, .int v]) rfl ?_
    refine am_icmp_gt 21 (am_at hc_M_type 5 rfl) (by decide) (fun q2 => ?_) (fun q2 => ?_)
    · skip
      have hno : tyNo n v := Or.inr (Or.inl q2)
      simp only [if_pos hno]
      refine am_go cd_M_type hc_M_type 10 1 (pc' := 22) (L' := [some (.ref 40), some (.int v)]) (st' := [.int 0]) rfl ?_
      exact am_iret (am_at hc_M_type 11 rfl) rfl rfl ⟨rfl, rfl, rfl, h, fM.rf⟩
    · skip
      refine am_go cd_M_type hc_M_type 6 1 (pc' := 13) (L' := [some (.ref 40), some (.int v)]) (st' := [.ref 40]) rfl ?_
      refine am_getf 3 5 k_r3 (am_at hc_M_type 7 rfl) rfl (by decide) rfl (by decide) k_ok3 (Or.inl (tw 311 rfl rfl)) (congrArg Value.int h8.1) ?_
      refine am_go cd_M_type hc_M_type 8 1 (pc' := 18) (L' := [some (.ref 40), some (.int v)]) (st' := [.int 40, .int (nI n)]) rfl ?_
      refine am_icmp_ne 23 (am_at hc_M_type 9 rfl) (by decide) (fun q3 => ?_) (fun q3 => ?_)
      · have hn : ¬ n = 40 := fun z => q3 (by rw [z]; rfl)
        have hno : ¬ tyNo n v := fun z => by rcases z with z | z | z; exact q1 z; exact q2 z; omega
        obtain ⟨c, hc, hc2, rfl, hnar, hn4⟩ := ty_code hno
        simp only [if_neg hno, nI_cl (show c < 1000000 by omega)]
        refine am_go cd_M_type hc_M_type 12 1 (pc' := 24) (L' := [some (.ref 40), some (.int (nI c))]) (st' := [.ref 40]) rfl ?_
        refine am_getf 3 6 k_r3 (am_at hc_M_type 13 rfl) rfl (by decide) rfl (by decide) k_ok3 (Or.inl (tw 312 rfl rfl)) rfl ?_
        refine am_go cd_M_type hc_M_type 14 1 (pc' := 28) (L' := [some (.ref 40), some (.int (nI c))]) (st' := [.ref 40, .ref 44]) rfl ?_
        refine am_getf 3 5 k_r3 (am_at hc_M_type 15 rfl) rfl (by decide) rfl (by decide) k_ok3 (Or.inl (tw 311 rfl rfl)) (congrArg Value.int h8.1) ?_
        refine am_go cd_M_type hc_M_type 16 1 (pc' := 32) (L' := [some (.ref 40), some (.int (nI c))]) (st' := [.int (nI c), .int (nI n), .ref 44]) rfl ?_
        refine am_iastore (n) (am_at hc_M_type 17 rfl) rfl (by decide) rfl (by show n < 40; omega) (Nat.le_of_ble_eq_true rfl) ?_
        refine am_go cd_M_type hc_M_type 18 2 (pc' := 35) (L' := [some (.ref 40), some (.int (nI c))]) (st' := [.ref 40, .ref 40]) rfl ?_
        refine am_getf 3 5 k_r3 (am_at hc_M_type 20 rfl) rfl (by decide) rfl (by decide) k_ok3 (Or.inl (tw 311 rfl rfl)) (congrArg Value.int ((am_u_o (by omega)).trans h8.1)) ?_
        refine am_go cd_M_type hc_M_type 21 2 (pc' := 40) (L' := [some (.ref 40), some (.int (nI c))]) (st' := [.int (nI n + 1), .ref 40]) rfl ?_
        rw [show nI n + 1 = nI (n + 1) from nI_1 _]
        refine am_putI 3 5 k_r3 (am_at hc_M_type 23 rfl) rfl (by decide) rfl (by decide) k_ok3 (tw 311 rfl rfl) rfl rfl rfl rfl ?_
        refine am_go cd_M_type hc_M_type 24 1 (pc' := 44) (L' := [some (.ref 40), some (.int (nI c))]) (st' := [.int 1]) rfl ?_
        exact am_iret (am_at hc_M_type 25 rfl) rfl rfl ⟨rfl, rfl, rfl, h.n1 hn4 hc, (fM.u (by decide)).tr (fM.u (by decide))⟩
      · have hn : n = 40 := (nI_eq (b := 40) (by omega) (by decide)).mp q3
        have hno : tyNo n v := Or.inr (Or.inr (by omega))
        simp only [if_pos hno]
        refine am_go cd_M_type hc_M_type 10 1 (pc' := 22) (L' := [some (.ref 40), some (.int v)]) (st' := [.int 0]) rfl ?_
        exact am_iret (am_at hc_M_type 11 rfl) rfl rfl ⟨rfl, rfl, rfl, h, fM.rf⟩
set_option maxHeartbeats 4000000 in
theorem c_M_reopen {l : Launch} {x : am_X} {e L : Nat} {d : am_D} {cash esc pd pt ow : Nat → Int32} {res : Nat → Int} {wt : Nat → Nat → Int} {T : Nat → Nat} {n : Nat} {se : Int32} {cl : Bool} (h : RM cash esc pd pt ow res wt T n se cl d) : cM l x (e + 1) L m_M_reopen [.ref 40] d (fun r d' => r = some (.int (bI cl)) ∧ RM cash esc pd (if cl = true then fun b => if b < 5 then 0 else pt b else pt) ow res (if cl = true then fun b => if b < 5 then (fun _ => 0) else wt b else wt) T n se false d' ∧ fM d d') := by
  obtain ⟨h1, h2, h3, h4, h5, h6, h7, h8, h9, h10⟩ := id h
  refine cM.go (by decide) (by simp [Value.category]) (Nat.le_of_ble_eq_true rfl) ?_
  refine am_go cd_M_reopen hc_M_reopen 0 1 (pc' := 1) (L' := [some (.ref 40), none]) (st' := [.ref 40]) rfl ?_
  refine am_getf 3 0 k_r3 (am_at hc_M_reopen 1 rfl) rfl (by decide) rfl (by decide) k_ok3 (Or.inl (tw 306 rfl rfl)) (congrArg Value.int h10) ?_
  cases cl with
  | false =>
    simp only [bI_f]
    refine am_if_ne 9 (am_at hc_M_reopen 2 rfl) (by decide) (fun q0 => absurd rfl q0) (fun q0 => ?_)
    refine am_go cd_M_reopen hc_M_reopen 3 1 (pc' := 8) (L' := [some (.ref 40), none]) (st' := [.int 0]) rfl ?_
    exact am_iret (am_at hc_M_reopen 4 rfl) rfl rfl ⟨rfl, rfl, rfl, h, fM.rf⟩
  | true =>
    simp only [bI_t]
    refine am_if_ne 9 (am_at hc_M_reopen 2 rfl) (by decide) (fun q0 => ?_) (fun q0 => absurd q0 (by decide))
    refine am_go cd_M_reopen hc_M_reopen 5 2 (pc' := 11) (L' := [some (.ref 40), none]) (st' := [.int 0, .ref 40]) rfl ?_
    refine am_putI 3 0 k_r3 (am_at hc_M_reopen 7 rfl) rfl (by decide) rfl (by decide) k_ok3 (tw 306 rfl rfl) rfl rfl rfl rfl ?_
    have hcl := h.cl (c := false)
    refine am_go cd_M_reopen hc_M_reopen 8 2 (pc' := 16) (L' := [some (.ref 40), some (.int 0)]) (st' := []) rfl ?_
    have loop : ∀ q k d1, k + q = 5 → RM cash esc pd (fun b => if b < k then 0 else pt b) ow res (fun b => if b < k then (fun _ => 0) else wt b) T n se false d1 → fM d d1 → cW l x (e + 1) L m_M_reopen 16 [some (.ref 40), some (.int (nI k))] [] d1 (fun r d' => r = some (.int 1) ∧ RM cash esc pd (fun b => if b < 5 then 0 else pt b) ow res (fun b => if b < 5 then (fun _ => 0) else wt b) T n se false d' ∧ fM d d') := by
      intro q
      induction q with
      | zero =>
        intro k d1 hk hA hf
        have hk5 : k = 5 := by omega
        subst hk5
        refine am_go cd_M_reopen hc_M_reopen 10 2 (pc' := 18) (L' := [some (.ref 40), some (.int (nI 5))]) (st' := [.int 5, .int (nI 5)]) rfl ?_
        refine am_icmp_ge 32 (am_at hc_M_reopen 12 rfl) (by decide) (fun q1 => ?_) (fun q1 => absurd (nI_le (a := 5) (b := 5) (by omega) (by omega)) q1)
        refine am_go cd_M_reopen hc_M_reopen 18 1 (pc' := 33) (L' := [some (.ref 40), some (.int (nI 5))]) (st' := [.int 1]) rfl ?_
        exact am_iret (am_at hc_M_reopen 19 rfl) rfl rfl ⟨rfl, rfl, rfl, hA, hf⟩
      | succ q ih =>
        intro k d1 hk hA hf
        refine am_go cd_M_reopen hc_M_reopen 10 2 (pc' := 18) (L' := [some (.ref 40), some (.int (nI k))]) (st' := [.int 5, .int (nI k)]) rfl ?_
        refine am_icmp_ge 32 (am_at hc_M_reopen 12 rfl) (by decide) (fun q1 => absurd q1 (nI_ge (a := k) (b := 5) (by omega) (by omega))) (fun q1 => ?_)
        refine am_go cd_M_reopen hc_M_reopen 13 2 (pc' := 23) (L' := [some (.ref 40), some (.int (nI k))]) (st' := [.int (nI k), .ref 40]) rfl ?_
        refine cW.callV (st := []) [.int (nI k)] (am_at hc_M_reopen 15 rfl) g_M_drop (Or.inl (tw 381 rfl rfl)) (tw 383 rfl rfl) (tp 18 rfl rfl) 3 k_r3 rfl (by decide) rfl rfl rfl rfl (Nat.le_of_ble_eq_true rfl) (c_M_drop hA (by omega : k < 5)) ?_
        rintro _ d2 ⟨rfl, hA2, hf2⟩
        show cW _ _ (e + 1) _ m_M_reopen 26 [some (.ref 40), some (.int (nI k))] [] _ _
        refine am_go cd_M_reopen hc_M_reopen 16 2 (pc' := 16) (L' := [some (.ref 40), some (.int (nI k + 1))]) (st' := []) rfl ?_
        rw [nI_1]
        refine ih (k + 1) d2 (by omega) ?_ (hf.tr hf2)
        have e1 : updw (fun b => if b < k then (fun _ => 0) else wt b) k (fun _ => 0) = (fun b => if b < (k + 1) then (fun _ => 0) else wt b) := by
          funext b; unfold updw; by_cases z : b = k; · simp [z]
          by_cases z2 : b < k
          · simp [z, z2, show b < k + 1 by omega]
          · simp [z, z2, show ¬ b < k + 1 by omega]
        have e2 : upd (fun b => if b < k then 0 else pt b) k 0 = (fun b => if b < (k + 1) then 0 else pt b) := by
          funext b; unfold upd; by_cases z : b = k; · simp [z]
          by_cases z2 : b < k
          · simp [z, z2, show b < k + 1 by omega]
          · simp [z, z2, show ¬ b < k + 1 by omega]
        rw [e1, e2] at hA2
        exact hA2
    exact loop 5 0 _ rfl (by simp only [Nat.not_lt_zero, if_false]; exact hcl) (fM.u (by decide))
