abbrev isB (v : Int32) : Prop := 0 ≤ v ∧ v < 5
abbrev isI (v : Int32) : Prop := 0 ≤ v ∧ v < 6
theorem isB_of {v : Int32} (h : isB v) : ∃ b, b < 5 ∧ v = nI b := by
  obtain ⟨j, h1, h2⟩ := nI_of (Int32.not_lt.mpr h.1)
  refine ⟨j, ?_, h2⟩
  have := h.2
  rw [h2] at this
  exact (nI_ltI (b := 5) h1 (by decide)).mp this
theorem isI_of {v : Int32} (h : isI v) : ∃ b, b < 6 ∧ v = nI b := by
  obtain ⟨j, h1, h2⟩ := nI_of (Int32.not_lt.mpr h.1)
  refine ⟨j, ?_, h2⟩
  have := h.2
  rw [h2] at this
  exact (nI_ltI (b := 6) h1 (by decide)).mp this
def cN (v : Int32) : Nat := v.toNatClampNeg
theorem nI_cl {b : Nat} (h : b < 1000000) : cN (nI b) = b := nI_clamp (by omega)
theorem c_isB {l : Launch} {x : am_X} {e L : Nat} {d : am_D} (v : Int32) : cM l x e L m_A_isBidder [.int v] d (cR (some (.int (if isB v then 1 else 0))) d) := by
  refine am_Met.mono (c_A_isBidder v) ?_
  rintro r S' n' d' ⟨rfl, rfl, rfl, rfl⟩
  exact ⟨rfl, rfl, rfl, rfl⟩
theorem c_isI {l : Launch} {x : am_X} {e L : Nat} {d : am_D} (v : Int32) : cM l x e L m_A_isItem [.int v] d (cR (some (.int (if isI v then 1 else 0))) d) := by
  refine am_Met.mono (c_A_isItem v) ?_
  rintro r S' n' d' ⟨rfl, rfl, rfl, rfl⟩
  exact ⟨rfl, rfl, rfl, rfl⟩
abbrev fundOk (cash esc : Nat → Int32) (v m : Int32) : Prop := isB v ∧ 1 ≤ m ∧ m ≤ 100000 ∧ cash (cN v) + esc (cN v) + m ≤ 1000000
abbrev depOk (cash : Nat → Int32) (cl : Bool) (v m : Int32) : Prop := cl = false ∧ isB v ∧ 1 ≤ m ∧ m ≤ cash (cN v)
abbrev resOk (cl : Bool) (v m : Int32) : Prop := cl = false ∧ isI v ∧ 0 ≤ m ∧ m ≤ 999
abbrev opB (cl : Bool) (v : Int32) : Prop := cl = false ∧ isB v
abbrev clB (cl : Bool) (v : Int32) : Prop := cl = true ∧ isB v
abbrev clI (cl : Bool) (v : Int32) : Prop := cl = true ∧ isI v
abbrev woOk (v m : Int32) : Prop := isB v ∧ 0 ≤ m ∧ m < 64
set_option maxHeartbeats 4000000 in
theorem c_A_fund {l : Launch} {x : am_X} {e L : Nat} {d : am_D} {cash esc pd pt ow : Nat → Int32} {res : Nat → Int} {wt : Nat → Nat → Int} {T : Nat → Nat} {n : Nat} {se : Int32} {cl : Bool} (h : RA cash esc pd pt ow res wt T n se cl d) (v m : Int32) : cM l x (e + 1) L m_A_fund [.ref 0, .int v, .int m] d (fun r d' => r = some (.int (if fundOk cash esc v m then 1 else 0)) ∧ RA (if fundOk cash esc v m then upd cash (cN v) (cash (cN v) + m) else cash) esc pd pt ow res wt T n se cl d' ∧ fA d d') := by
  obtain ⟨h1, h2, h3, h4, h5, h6, h7, h8, h9, h10, h11⟩ := id h
  refine cM.go (by decide) (by simp [Value.category]) (Nat.le_of_ble_eq_true rfl) ?_
  refine am_go cd_A_fund hc_A_fund 0 1 (pc' := 1) (L' := [some (.ref 0), some (.int v), some (.int m)]) (st' := [.int v]) rfl ?_
  refine cW.callS1 4 [.int (if isB v then 1 else 0)] (st := []) [.int v] (am_at hc_A_fund 1 rfl) g_A_isBidder (Or.inl (tw 113 rfl rfl)) (tw 114 rfl rfl) rfl rfl (Nat.le_of_ble_eq_true rfl) (c_isB v) rfl rfl ?_
  by_cases hb : isB v
  · simp only [if_pos hb]
    refine am_if_eq 18 (am_at hc_A_fund 2 rfl) (by decide) (fun q1 => absurd q1 (by decide)) (fun q1 => ?_)
    refine am_go cd_A_fund hc_A_fund 3 2 (pc' := 9) (L' := [some (.ref 0), some (.int v), some (.int m)]) (st' := [.int 1, .int m]) rfl ?_
    refine am_icmp_lt 18 (am_at hc_A_fund 5 rfl) (by decide) (fun q2 => ?_) (fun q2 => ?_)
    · skip
      have hno : ¬ fundOk cash esc v m := fun z => Int32.not_lt.mpr z.2.1 q2
      simp only [if_neg hno]
      refine am_go cd_A_fund hc_A_fund 9 1 (pc' := 19) (L' := [some (.ref 0), some (.int v), some (.int m)]) (st' := [.int 0]) rfl ?_
      exact am_iret (am_at hc_A_fund 10 rfl) rfl rfl ⟨rfl, rfl, rfl, h, fA.rf⟩
    · skip
      refine am_go cd_A_fund hc_A_fund 6 1 (pc' := 13) (L' := [some (.ref 0), some (.int v), some (.int m)]) (st' := [.int m]) rfl ?_
      refine am_ldc 100000 (am_at hc_A_fund 7 rfl) (tw 116 rfl rfl) ?_
      refine am_icmp_le 20 (am_at hc_A_fund 8 rfl) (by decide) (fun q3 => ?_) (fun q3 => ?_)
      · skip
        obtain ⟨b, hb5, rfl⟩ := isB_of hb
        refine am_go cd_A_fund hc_A_fund 11 1 (pc' := 21) (L' := [some (.ref 0), some (.int (nI b)), some (.int m)]) (st' := [.ref 0]) rfl ?_
        refine am_getf 0 0 k_r0 (am_at hc_A_fund 12 rfl) rfl (by decide) rfl (by decide) k_ok0 (Or.inl (tw 75 rfl rfl)) rfl ?_
        refine am_go cd_A_fund hc_A_fund 13 1 (pc' := 25) (L' := [some (.ref 0), some (.int (nI b)), some (.int m)]) (st' := [.int (nI b), .ref 1]) rfl ?_
        refine am_iaload (b) (am_at hc_A_fund 14 rfl) rfl (Or.inl (by decide)) rfl (by show b < 5; omega) (Nat.le_of_ble_eq_true rfl) ?_
        rw [show d 1 b = cash b from h1 b hb5]
        refine am_go cd_A_fund hc_A_fund 15 1 (pc' := 27) (L' := [some (.ref 0), some (.int (nI b)), some (.int m)]) (st' := [.ref 0, .int (cash b)]) rfl ?_
        refine am_getf 0 1 k_r0 (am_at hc_A_fund 16 rfl) rfl (by decide) rfl (by decide) k_ok0 (Or.inl (tw 76 rfl rfl)) rfl ?_
        refine am_go cd_A_fund hc_A_fund 17 1 (pc' := 31) (L' := [some (.ref 0), some (.int (nI b)), some (.int m)]) (st' := [.int (nI b), .ref 2, .int (cash b)]) rfl ?_
        refine am_iaload (b) (am_at hc_A_fund 18 rfl) rfl (Or.inl (by decide)) rfl (by show b < 5; omega) (Nat.le_of_ble_eq_true rfl) ?_
        rw [show d 2 b = esc b from h2 b hb5]
        refine am_go cd_A_fund hc_A_fund 19 3 (pc' := 35) (L' := [some (.ref 0), some (.int (nI b)), some (.int m)]) (st' := [.int ((cash b + esc b) + m)]) rfl ?_
        refine am_ldc 1000000 (am_at hc_A_fund 22 rfl) (tw 117 rfl rfl) ?_
        refine am_icmp_le 42 (am_at hc_A_fund 23 rfl) (by decide) (fun q4 => ?_) (fun q4 => ?_)
        · have hok : fundOk cash esc (nI b) m := ⟨hb, Int32.not_lt.mp q2, q3, by rw [nI_cl (by omega)]; exact q4⟩
          simp only [if_pos hok, nI_cl (show b < 1000000 by omega)]
          refine am_go cd_A_fund hc_A_fund 26 1 (pc' := 43) (L' := [some (.ref 0), some (.int (nI b)), some (.int m)]) (st' := [.ref 0]) rfl ?_
          refine am_getf 0 0 k_r0 (am_at hc_A_fund 27 rfl) rfl (by decide) rfl (by decide) k_ok0 (Or.inl (tw 75 rfl rfl)) rfl ?_
          refine am_go cd_A_fund hc_A_fund 28 2 (pc' := 48) (L' := [some (.ref 0), some (.int (nI b)), some (.int m)]) (st' := [.int (nI b), .ref 1, .int (nI b), .ref 1]) rfl ?_
          refine am_iaload (b) (am_at hc_A_fund 30 rfl) rfl (Or.inl (by decide)) rfl (by show b < 5; omega) (Nat.le_of_ble_eq_true rfl) ?_
          rw [show d 1 b = cash b from h1 b hb5]
          refine am_go cd_A_fund hc_A_fund 31 2 (pc' := 51) (L' := [some (.ref 0), some (.int (nI b)), some (.int m)]) (st' := [.int (cash b + m), .int (nI b), .ref 1]) rfl ?_
          refine am_iastore (b) (am_at hc_A_fund 33 rfl) rfl (by decide) rfl (by show b < 5; omega) (Nat.le_of_ble_eq_true rfl) ?_
          refine am_go cd_A_fund hc_A_fund 34 1 (pc' := 53) (L' := [some (.ref 0), some (.int (nI b)), some (.int m)]) (st' := [.int 1]) rfl ?_
          exact am_iret (am_at hc_A_fund 35 rfl) rfl rfl ⟨rfl, rfl, rfl, h.cash, fA.u (by decide)⟩
        · skip
          have hno : ¬ fundOk cash esc (nI b) m := fun z => q4 (by have := z.2.2.2; rw [nI_cl (by omega)] at this; exact this)
          simp only [if_neg hno]
          refine am_go cd_A_fund hc_A_fund 24 1 (pc' := 41) (L' := [some (.ref 0), some (.int (nI b)), some (.int m)]) (st' := [.int 0]) rfl ?_
          exact am_iret (am_at hc_A_fund 25 rfl) rfl rfl ⟨rfl, rfl, rfl, h, fA.rf⟩
      · skip
        have hno : ¬ fundOk cash esc v m := fun z => q3 z.2.2.1
        simp only [if_neg hno]
        refine am_go cd_A_fund hc_A_fund 9 1 (pc' := 19) (L' := [some (.ref 0), some (.int v), some (.int m)]) (st' := [.int 0]) rfl ?_
        exact am_iret (am_at hc_A_fund 10 rfl) rfl rfl ⟨rfl, rfl, rfl, h, fA.rf⟩
  · simp only [if_neg hb]
    refine am_if_eq 18 (am_at hc_A_fund 2 rfl) (by decide) (fun q1 => ?_) (fun q1 => absurd rfl q1)
    have hno : ¬ fundOk cash esc v m := fun z => hb z.1
    simp only [if_neg hno]
    refine am_go cd_A_fund hc_A_fund 9 1 (pc' := 19) (L' := [some (.ref 0), some (.int v), some (.int m)]) (st' := [.int 0]) rfl ?_
    exact am_iret (am_at hc_A_fund 10 rfl) rfl rfl ⟨rfl, rfl, rfl, h, fA.rf⟩
set_option maxHeartbeats 4000000 in
theorem c_A_deposit {l : Launch} {x : am_X} {e L : Nat} {d : am_D} {cash esc pd pt ow : Nat → Int32} {res : Nat → Int} {wt : Nat → Nat → Int} {T : Nat → Nat} {n : Nat} {se : Int32} {cl : Bool} (h : RA cash esc pd pt ow res wt T n se cl d) (v m : Int32) : cM l x (e + 1) L m_A_deposit [.ref 0, .int v, .int m] d (fun r d' => r = some (.int (if depOk cash cl v m then 1 else 0)) ∧ RA (if depOk cash cl v m then upd cash (cN v) (cash (cN v) - m) else cash) (if depOk cash cl v m then upd esc (cN v) (esc (cN v) + m) else esc) pd pt ow res wt T n se cl d' ∧ fA d d') := by
  obtain ⟨h1, h2, h3, h4, h5, h6, h7, h8, h9, h10, h11⟩ := id h
  refine cM.go (by decide) (by simp [Value.category]) (Nat.le_of_ble_eq_true rfl) ?_
  refine am_go cd_A_deposit hc_A_deposit 0 1 (pc' := 1) (L' := [some (.ref 0), some (.int v), some (.int m)]) (st' := [.ref 0]) rfl ?_
  refine am_getf 0 10 k_r0 (am_at hc_A_deposit 1 rfl) rfl (by decide) rfl (by decide) k_ok0 (Or.inl (tw 85 rfl rfl)) (congrArg Value.int h10) ?_
  cases cl with
  | true =>
    simp only [bI_t]
    refine am_if_ne 29 (am_at hc_A_deposit 2 rfl) (by decide) (fun q0 => ?_) (fun q0 => absurd q0 (by decide))
    have hno : ¬ depOk cash true v m := fun z => by cases z.1
    simp only [if_neg hno]
    refine am_go cd_A_deposit hc_A_deposit 15 1 (pc' := 30) (L' := [some (.ref 0), some (.int v), some (.int m)]) (st' := [.int 0]) rfl ?_
    exact am_iret (am_at hc_A_deposit 16 rfl) rfl rfl ⟨rfl, rfl, rfl, h, fA.rf⟩
  | false =>
    simp only [bI_f]
    refine am_if_ne 29 (am_at hc_A_deposit 2 rfl) (by decide) (fun q0 => absurd rfl q0) (fun q0 => ?_)
    refine am_go cd_A_deposit hc_A_deposit 3 1 (pc' := 8) (L' := [some (.ref 0), some (.int v), some (.int m)]) (st' := [.int v]) rfl ?_
    refine cW.callS1 11 [.int (if isB v then 1 else 0)] (st := []) [.int v] (am_at hc_A_deposit 4 rfl) g_A_isBidder (Or.inl (tw 113 rfl rfl)) (tw 114 rfl rfl) rfl rfl (Nat.le_of_ble_eq_true rfl) (c_isB v) rfl rfl ?_
    by_cases hb : isB v
    · simp only [if_pos hb]
      refine am_if_eq 29 (am_at hc_A_deposit 5 rfl) (by decide) (fun q1 => absurd q1 (by decide)) (fun q1 => ?_)
      refine am_go cd_A_deposit hc_A_deposit 6 2 (pc' := 16) (L' := [some (.ref 0), some (.int v), some (.int m)]) (st' := [.int 1, .int m]) rfl ?_
      refine am_icmp_lt 29 (am_at hc_A_deposit 8 rfl) (by decide) (fun q2 => ?_) (fun q2 => ?_)
      · skip
        have hno : ¬ depOk cash false v m := fun z => Int32.not_lt.mpr z.2.2.1 q2
        simp only [if_neg hno]
        refine am_go cd_A_deposit hc_A_deposit 15 1 (pc' := 30) (L' := [some (.ref 0), some (.int v), some (.int m)]) (st' := [.int 0]) rfl ?_
        exact am_iret (am_at hc_A_deposit 16 rfl) rfl rfl ⟨rfl, rfl, rfl, h, fA.rf⟩
      · skip
        obtain ⟨b, hb5, rfl⟩ := isB_of hb
        refine am_go cd_A_deposit hc_A_deposit 9 1 (pc' := 20) (L' := [some (.ref 0), some (.int (nI b)), some (.int m)]) (st' := [.ref 0]) rfl ?_
        refine am_getf 0 0 k_r0 (am_at hc_A_deposit 10 rfl) rfl (by decide) rfl (by decide) k_ok0 (Or.inl (tw 75 rfl rfl)) rfl ?_
        refine am_go cd_A_deposit hc_A_deposit 11 1 (pc' := 24) (L' := [some (.ref 0), some (.int (nI b)), some (.int m)]) (st' := [.int (nI b), .ref 1]) rfl ?_
        refine am_iaload (b) (am_at hc_A_deposit 12 rfl) rfl (Or.inl (by decide)) rfl (by show b < 5; omega) (Nat.le_of_ble_eq_true rfl) ?_
        rw [show d 1 b = cash b from h1 b hb5]
        refine am_go cd_A_deposit hc_A_deposit 13 1 (pc' := 26) (L' := [some (.ref 0), some (.int (nI b)), some (.int m)]) (st' := [.int m, .int (cash b)]) rfl ?_
        refine am_icmp_ge 31 (am_at hc_A_deposit 14 rfl) (by decide) (fun q4 => ?_) (fun q4 => ?_)
        · have hok : depOk cash false (nI b) m := ⟨rfl, hb, Int32.not_lt.mp q2, by rw [nI_cl (by omega)]; exact q4⟩
          simp only [if_pos hok, nI_cl (show b < 1000000 by omega)]
          refine am_go cd_A_deposit hc_A_deposit 17 1 (pc' := 32) (L' := [some (.ref 0), some (.int (nI b)), some (.int m)]) (st' := [.ref 0]) rfl ?_
          refine am_getf 0 0 k_r0 (am_at hc_A_deposit 18 rfl) rfl (by decide) rfl (by decide) k_ok0 (Or.inl (tw 75 rfl rfl)) rfl ?_
          refine am_go cd_A_deposit hc_A_deposit 19 2 (pc' := 37) (L' := [some (.ref 0), some (.int (nI b)), some (.int m)]) (st' := [.int (nI b), .ref 1, .int (nI b), .ref 1]) rfl ?_
          refine am_iaload (b) (am_at hc_A_deposit 21 rfl) rfl (Or.inl (by decide)) rfl (by show b < 5; omega) (Nat.le_of_ble_eq_true rfl) ?_
          rw [show d 1 b = cash b from h1 b hb5]
          refine am_go cd_A_deposit hc_A_deposit 22 2 (pc' := 40) (L' := [some (.ref 0), some (.int (nI b)), some (.int m)]) (st' := [.int (cash b - m), .int (nI b), .ref 1]) rfl ?_
          refine am_iastore (b) (am_at hc_A_deposit 24 rfl) rfl (by decide) rfl (by show b < 5; omega) (Nat.le_of_ble_eq_true rfl) ?_
          refine am_go cd_A_deposit hc_A_deposit 25 1 (pc' := 42) (L' := [some (.ref 0), some (.int (nI b)), some (.int m)]) (st' := [.ref 0]) rfl ?_
          refine am_getf 0 1 k_r0 (am_at hc_A_deposit 26 rfl) rfl (by decide) rfl (by decide) k_ok0 (Or.inl (tw 76 rfl rfl)) rfl ?_
          refine am_go cd_A_deposit hc_A_deposit 27 2 (pc' := 47) (L' := [some (.ref 0), some (.int (nI b)), some (.int m)]) (st' := [.int (nI b), .ref 2, .int (nI b), .ref 2]) rfl ?_
          refine am_iaload (b) (am_at hc_A_deposit 29 rfl) rfl (Or.inl (by decide)) rfl (by show b < 5; omega) (Nat.le_of_ble_eq_true rfl) ?_
          rw [show am_u d 1 b (cash b - m) 2 b = esc b from (congrFun (am_u_ne 2 (by decide)) b).trans (h2 b hb5)]
          refine am_go cd_A_deposit hc_A_deposit 30 2 (pc' := 50) (L' := [some (.ref 0), some (.int (nI b)), some (.int m)]) (st' := [.int (esc b + m), .int (nI b), .ref 2]) rfl ?_
          refine am_iastore (b) (am_at hc_A_deposit 32 rfl) rfl (by decide) rfl (by show b < 5; omega) (Nat.le_of_ble_eq_true rfl) ?_
          refine am_go cd_A_deposit hc_A_deposit 33 1 (pc' := 52) (L' := [some (.ref 0), some (.int (nI b)), some (.int m)]) (st' := [.int 1]) rfl ?_
          exact am_iret (am_at hc_A_deposit 34 rfl) rfl rfl ⟨rfl, rfl, rfl, h.cash.esc, (fA.u (by decide)).tr (fA.u (by decide))⟩
        · skip
          have hno : ¬ depOk cash false (nI b) m := fun z => q4 (by have := z.2.2.2; rw [nI_cl (by omega)] at this; exact this)
          simp only [if_neg hno]
          refine am_go cd_A_deposit hc_A_deposit 15 1 (pc' := 30) (L' := [some (.ref 0), some (.int (nI b)), some (.int m)]) (st' := [.int 0]) rfl ?_
          exact am_iret (am_at hc_A_deposit 16 rfl) rfl rfl ⟨rfl, rfl, rfl, h, fA.rf⟩
    · simp only [if_neg hb]
      refine am_if_eq 29 (am_at hc_A_deposit 5 rfl) (by decide) (fun q1 => ?_) (fun q1 => absurd rfl q1)
      have hno : ¬ depOk cash false v m := fun z => hb z.2.1
      simp only [if_neg hno]
      refine am_go cd_A_deposit hc_A_deposit 15 1 (pc' := 30) (L' := [some (.ref 0), some (.int v), some (.int m)]) (st' := [.int 0]) rfl ?_
      exact am_iret (am_at hc_A_deposit 16 rfl) rfl rfl ⟨rfl, rfl, rfl, h, fA.rf⟩
set_option maxHeartbeats 4000000 in
theorem c_A_reserve {l : Launch} {x : am_X} {e L : Nat} {d : am_D} {cash esc pd pt ow : Nat → Int32} {res : Nat → Int} {wt : Nat → Nat → Int} {T : Nat → Nat} {n : Nat} {se : Int32} {cl : Bool} (h : RA cash esc pd pt ow res wt T n se cl d) (v m : Int32) : cM l x (e + 1) L m_A_reserve [.ref 0, .int v, .int m] d (fun r d' => r = some (.int (if resOk cl v m then 1 else 0)) ∧ RA cash esc pd pt ow (if resOk cl v m then (fun j => if j = cN v then m.toInt else res j) else res) wt T n se cl d' ∧ fA d d') := by
  obtain ⟨h1, h2, h3, h4, h5, h6, h7, h8, h9, h10, h11⟩ := id h
  refine cM.go (by decide) (by simp [Value.category]) (Nat.le_of_ble_eq_true rfl) ?_
  refine am_go cd_A_reserve hc_A_reserve 0 1 (pc' := 1) (L' := [some (.ref 0), some (.int v), some (.int m)]) (st' := [.ref 0]) rfl ?_
  refine am_getf 0 10 k_r0 (am_at hc_A_reserve 1 rfl) rfl (by decide) rfl (by decide) k_ok0 (Or.inl (tw 85 rfl rfl)) (congrArg Value.int h10) ?_
  cases cl with
  | true =>
    simp only [bI_t]
    refine am_if_ne 25 (am_at hc_A_reserve 2 rfl) (by decide) (fun q0 => ?_) (fun q0 => absurd q0 (by decide))
    have hno : ¬ resOk true v m := fun z => by cases z.1
    simp only [if_neg hno]
    refine am_go cd_A_reserve hc_A_reserve 11 1 (pc' := 26) (L' := [some (.ref 0), some (.int v), some (.int m)]) (st' := [.int 0]) rfl ?_
    exact am_iret (am_at hc_A_reserve 12 rfl) rfl rfl ⟨rfl, rfl, rfl, h, fA.rf⟩
  | false =>
    simp only [bI_f]
    refine am_if_ne 25 (am_at hc_A_reserve 2 rfl) (by decide) (fun q0 => absurd rfl q0) (fun q0 => ?_)
    refine am_go cd_A_reserve hc_A_reserve 3 1 (pc' := 8) (L' := [some (.ref 0), some (.int v), some (.int m)]) (st' := [.int v]) rfl ?_
    refine cW.callS1 11 [.int (if isI v then 1 else 0)] (st := []) [.int v] (am_at hc_A_reserve 4 rfl) g_A_isItem (Or.inl (tw 141 rfl rfl)) (tw 142 rfl rfl) rfl rfl (Nat.le_of_ble_eq_true rfl) (c_isI v) rfl rfl ?_
    by_cases hb : isI v
    · simp only [if_pos hb]
      refine am_if_eq 25 (am_at hc_A_reserve 5 rfl) (by decide) (fun q1 => absurd q1 (by decide)) (fun q1 => ?_)
      refine am_go cd_A_reserve hc_A_reserve 6 1 (pc' := 15) (L' := [some (.ref 0), some (.int v), some (.int m)]) (st' := [.int m]) rfl ?_
      refine am_if_lt 25 (am_at hc_A_reserve 7 rfl) (by decide) (fun q2 => ?_) (fun q2 => ?_)
      · skip
        have hno : ¬ resOk false v m := fun z => Int32.not_lt.mpr z.2.2.1 q2
        simp only [if_neg hno]
        refine am_go cd_A_reserve hc_A_reserve 11 1 (pc' := 26) (L' := [some (.ref 0), some (.int v), some (.int m)]) (st' := [.int 0]) rfl ?_
        exact am_iret (am_at hc_A_reserve 12 rfl) rfl rfl ⟨rfl, rfl, rfl, h, fA.rf⟩
      · skip
        refine am_go cd_A_reserve hc_A_reserve 8 2 (pc' := 22) (L' := [some (.ref 0), some (.int v), some (.int m)]) (st' := [.int 999, .int m]) rfl ?_
        refine am_icmp_le 27 (am_at hc_A_reserve 10 rfl) (by decide) (fun q4 => ?_) (fun q4 => ?_)
        · have hok : resOk false v m := ⟨rfl, hb, Int32.not_lt.mp q2, q4⟩
          simp only [if_pos hok]
          obtain ⟨b, hb5, rfl⟩ := isI_of hb
          simp only [nI_cl (show b < 1000000 by omega)]
          have hm : m = zI m.toInt := zI_of m
          have hm0 : 0 ≤ m.toInt := by have := Int32.le_iff_toInt_le.mp hok.2.2.1; simpa using this
          have hm9 : m.toInt ≤ 999 := by have := Int32.le_iff_toInt_le.mp hok.2.2.2; exact this
          refine am_go cd_A_reserve hc_A_reserve 13 1 (pc' := 28) (L' := [some (.ref 0), some (.int (nI b)), some (.int m)]) (st' := [.ref 0]) rfl ?_
          refine am_getf 0 2 k_r0 (am_at hc_A_reserve 14 rfl) rfl (by decide) rfl (by decide) k_ok0 (Or.inl (tw 77 rfl rfl)) rfl ?_
          refine am_go cd_A_reserve hc_A_reserve 15 2 (pc' := 33) (L' := [some (.ref 0), some (.int (nI b)), some (.int m)]) (st' := [.int m, .int (nI b), .ref 3]) rfl ?_
          refine am_iastore (b) (am_at hc_A_reserve 17 rfl) rfl (by decide) rfl (by show b < 6; omega) (Nat.le_of_ble_eq_true rfl) ?_
          refine am_go cd_A_reserve hc_A_reserve 18 1 (pc' := 35) (L' := [some (.ref 0), some (.int (nI b)), some (.int m)]) (st' := [.int 1]) rfl ?_
          refine am_iret (am_at hc_A_reserve 19 rfl) rfl rfl ⟨rfl, rfl, rfl, ?_, fA.u (by decide)⟩
          have hh := h.res (k := b) (v := m.toInt) ⟨hm0, hm9⟩
          rw [← hm] at hh
          exact hh
        · skip
          have hno : ¬ resOk false v m := fun z => q4 z.2.2.2
          simp only [if_neg hno]
          refine am_go cd_A_reserve hc_A_reserve 11 1 (pc' := 26) (L' := [some (.ref 0), some (.int v), some (.int m)]) (st' := [.int 0]) rfl ?_
          exact am_iret (am_at hc_A_reserve 12 rfl) rfl rfl ⟨rfl, rfl, rfl, h, fA.rf⟩
    · simp only [if_neg hb]
      refine am_if_eq 25 (am_at hc_A_reserve 5 rfl) (by decide) (fun q1 => ?_) (fun q1 => absurd rfl q1)
      have hno : ¬ resOk false v m := fun z => hb z.2.1
      simp only [if_neg hno]
      refine am_go cd_A_reserve hc_A_reserve 11 1 (pc' := 26) (L' := [some (.ref 0), some (.int v), some (.int m)]) (st' := [.int 0]) rfl ?_
      exact am_iret (am_at hc_A_reserve 12 rfl) rfl rfl ⟨rfl, rfl, rfl, h, fA.rf⟩
set_option maxHeartbeats 4000000 in
theorem c_A_cash {l : Launch} {x : am_X} {e L : Nat} {d : am_D} {cash esc pd pt ow : Nat → Int32} {res : Nat → Int} {wt : Nat → Nat → Int} {T : Nat → Nat} {n : Nat} {se : Int32} {cl : Bool} (h : RA cash esc pd pt ow res wt T n se cl d) (v : Int32) : cM l x (e + 1) L m_A_cash [.ref 0, .int v] d (fun r d' => r = some (.int (if isB v then cash (cN v) else -2)) ∧ RA cash esc pd pt ow res wt T n se cl d' ∧ fA d d') := by
  obtain ⟨h1, h2, h3, h4, h5, h6, h7, h8, h9, h10, h11⟩ := id h
  refine cM.go (by decide) (by simp [Value.category]) (Nat.le_of_ble_eq_true rfl) ?_
  refine am_go cd_A_cash hc_A_cash 0 1 (pc' := 1) (L' := [some (.ref 0), some (.int v)]) (st' := [.int v]) rfl ?_
  refine cW.callS1 4 [.int (if isB v then 1 else 0)] (st := []) [.int v] (am_at hc_A_cash 1 rfl) g_A_isBidder (Or.inl (tw 113 rfl rfl)) (tw 114 rfl rfl) rfl rfl (Nat.le_of_ble_eq_true rfl) (c_isB v) rfl rfl ?_
  by_cases hb : isB v
  · simp only [if_pos hb]
    refine am_if_eq 16 (am_at hc_A_cash 2 rfl) (by decide) (fun q1 => absurd q1 (by decide)) (fun q1 => ?_)
    obtain ⟨b, hb5, rfl⟩ := isB_of hb
    simp only [nI_cl (show b < 1000000 by omega)]
    refine am_go cd_A_cash hc_A_cash 3 1 (pc' := 8) (L' := [some (.ref 0), some (.int (nI b))]) (st' := [.ref 0]) rfl ?_
    refine am_getf 0 0 k_r0 (am_at hc_A_cash 4 rfl) rfl (by decide) rfl (by decide) k_ok0 (Or.inl (tw 75 rfl rfl)) rfl ?_
    refine am_go cd_A_cash hc_A_cash 5 1 (pc' := 12) (L' := [some (.ref 0), some (.int (nI b))]) (st' := [.int (nI b), .ref 1]) rfl ?_
    refine am_iaload (b) (am_at hc_A_cash 6 rfl) rfl (Or.inl (by decide)) rfl (by show b < 5; omega) (Nat.le_of_ble_eq_true rfl) ?_
    rw [show d 1 b = cash b from h1 b hb5]
    refine am_go cd_A_cash hc_A_cash 7 1 (pc' := 18) (L' := [some (.ref 0), some (.int (nI b))]) (st' := [.int (cash b)]) rfl ?_
    exact am_iret (am_at hc_A_cash 9 rfl) rfl rfl ⟨rfl, rfl, rfl, h, fA.rf⟩
  · simp only [if_neg hb]
    refine am_if_eq 16 (am_at hc_A_cash 2 rfl) (by decide) (fun q1 => ?_) (fun q1 => absurd rfl q1)
    refine am_go cd_A_cash hc_A_cash 8 1 (pc' := 18) (L' := [some (.ref 0), some (.int v)]) (st' := [.int (-2)]) rfl ?_
    exact am_iret (am_at hc_A_cash 9 rfl) rfl rfl ⟨rfl, rfl, rfl, h, fA.rf⟩
set_option maxHeartbeats 4000000 in
theorem c_A_escrow {l : Launch} {x : am_X} {e L : Nat} {d : am_D} {cash esc pd pt ow : Nat → Int32} {res : Nat → Int} {wt : Nat → Nat → Int} {T : Nat → Nat} {n : Nat} {se : Int32} {cl : Bool} (h : RA cash esc pd pt ow res wt T n se cl d) (v : Int32) : cM l x (e + 1) L m_A_escrow [.ref 0, .int v] d (fun r d' => r = some (.int (if isB v then esc (cN v) else -2)) ∧ RA cash esc pd pt ow res wt T n se cl d' ∧ fA d d') := by
  obtain ⟨h1, h2, h3, h4, h5, h6, h7, h8, h9, h10, h11⟩ := id h
  refine cM.go (by decide) (by simp [Value.category]) (Nat.le_of_ble_eq_true rfl) ?_
  refine am_go cd_A_escrow hc_A_escrow 0 1 (pc' := 1) (L' := [some (.ref 0), some (.int v)]) (st' := [.int v]) rfl ?_
  refine cW.callS1 4 [.int (if isB v then 1 else 0)] (st := []) [.int v] (am_at hc_A_escrow 1 rfl) g_A_isBidder (Or.inl (tw 113 rfl rfl)) (tw 114 rfl rfl) rfl rfl (Nat.le_of_ble_eq_true rfl) (c_isB v) rfl rfl ?_
  by_cases hb : isB v
  · simp only [if_pos hb]
    refine am_if_eq 16 (am_at hc_A_escrow 2 rfl) (by decide) (fun q1 => absurd q1 (by decide)) (fun q1 => ?_)
    obtain ⟨b, hb5, rfl⟩ := isB_of hb
    simp only [nI_cl (show b < 1000000 by omega)]
    refine am_go cd_A_escrow hc_A_escrow 3 1 (pc' := 8) (L' := [some (.ref 0), some (.int (nI b))]) (st' := [.ref 0]) rfl ?_
    refine am_getf 0 1 k_r0 (am_at hc_A_escrow 4 rfl) rfl (by decide) rfl (by decide) k_ok0 (Or.inl (tw 76 rfl rfl)) rfl ?_
    refine am_go cd_A_escrow hc_A_escrow 5 1 (pc' := 12) (L' := [some (.ref 0), some (.int (nI b))]) (st' := [.int (nI b), .ref 2]) rfl ?_
    refine am_iaload (b) (am_at hc_A_escrow 6 rfl) rfl (Or.inl (by decide)) rfl (by show b < 5; omega) (Nat.le_of_ble_eq_true rfl) ?_
    rw [show d 2 b = esc b from h2 b hb5]
    refine am_go cd_A_escrow hc_A_escrow 7 1 (pc' := 18) (L' := [some (.ref 0), some (.int (nI b))]) (st' := [.int (esc b)]) rfl ?_
    exact am_iret (am_at hc_A_escrow 9 rfl) rfl rfl ⟨rfl, rfl, rfl, h, fA.rf⟩
  · simp only [if_neg hb]
    refine am_if_eq 16 (am_at hc_A_escrow 2 rfl) (by decide) (fun q1 => ?_) (fun q1 => absurd rfl q1)
    refine am_go cd_A_escrow hc_A_escrow 8 1 (pc' := 18) (L' := [some (.ref 0), some (.int v)]) (st' := [.int (-2)]) rfl ?_
    exact am_iret (am_at hc_A_escrow 9 rfl) rfl rfl ⟨rfl, rfl, rfl, h, fA.rf⟩
set_option maxHeartbeats 4000000 in
theorem c_A_parts {l : Launch} {x : am_X} {e L : Nat} {d : am_D} {cash esc pd pt ow : Nat → Int32} {res : Nat → Int} {wt : Nat → Nat → Int} {T : Nat → Nat} {n : Nat} {se : Int32} {cl : Bool} (h : RA cash esc pd pt ow res wt T n se cl d) (v : Int32) : cM l x (e + 1) L m_A_parts [.ref 0, .int v] d (fun r d' => r = some (.int (if isB v then pt (cN v) else -2)) ∧ RA cash esc pd pt ow res wt T n se cl d' ∧ fA d d') := by
  obtain ⟨h1, h2, h3, h4, h5, h6, h7, h8, h9, h10, h11⟩ := id h
  refine cM.go (by decide) (by simp [Value.category]) (Nat.le_of_ble_eq_true rfl) ?_
  refine am_go cd_A_parts hc_A_parts 0 1 (pc' := 1) (L' := [some (.ref 0), some (.int v)]) (st' := [.int v]) rfl ?_
  refine cW.callS1 4 [.int (if isB v then 1 else 0)] (st := []) [.int v] (am_at hc_A_parts 1 rfl) g_A_isBidder (Or.inl (tw 113 rfl rfl)) (tw 114 rfl rfl) rfl rfl (Nat.le_of_ble_eq_true rfl) (c_isB v) rfl rfl ?_
  by_cases hb : isB v
  · simp only [if_pos hb]
    refine am_if_eq 16 (am_at hc_A_parts 2 rfl) (by decide) (fun q1 => absurd q1 (by decide)) (fun q1 => ?_)
    obtain ⟨b, hb5, rfl⟩ := isB_of hb
    simp only [nI_cl (show b < 1000000 by omega)]
    refine am_go cd_A_parts hc_A_parts 3 1 (pc' := 8) (L' := [some (.ref 0), some (.int (nI b))]) (st' := [.ref 0]) rfl ?_
    refine am_getf 0 5 k_r0 (am_at hc_A_parts 4 rfl) rfl (by decide) rfl (by decide) k_ok0 (Or.inl (tw 80 rfl rfl)) rfl ?_
    refine am_go cd_A_parts hc_A_parts 5 1 (pc' := 12) (L' := [some (.ref 0), some (.int (nI b))]) (st' := [.int (nI b), .ref 6]) rfl ?_
    refine am_iaload (b) (am_at hc_A_parts 6 rfl) rfl (Or.inl (by decide)) rfl (by show b < 5; omega) (Nat.le_of_ble_eq_true rfl) ?_
    rw [show d 6 b = pt b from h4 b hb5]
    refine am_go cd_A_parts hc_A_parts 7 1 (pc' := 18) (L' := [some (.ref 0), some (.int (nI b))]) (st' := [.int (pt b)]) rfl ?_
    exact am_iret (am_at hc_A_parts 9 rfl) rfl rfl ⟨rfl, rfl, rfl, h, fA.rf⟩
  · simp only [if_neg hb]
    refine am_if_eq 16 (am_at hc_A_parts 2 rfl) (by decide) (fun q1 => ?_) (fun q1 => absurd rfl q1)
    refine am_go cd_A_parts hc_A_parts 8 1 (pc' := 18) (L' := [some (.ref 0), some (.int v)]) (st' := [.int (-2)]) rfl ?_
    exact am_iret (am_at hc_A_parts 9 rfl) rfl rfl ⟨rfl, rfl, rfl, h, fA.rf⟩
set_option maxHeartbeats 4000000 in
theorem c_A_paid {l : Launch} {x : am_X} {e L : Nat} {d : am_D} {cash esc pd pt ow : Nat → Int32} {res : Nat → Int} {wt : Nat → Nat → Int} {T : Nat → Nat} {n : Nat} {se : Int32} {cl : Bool} (h : RA cash esc pd pt ow res wt T n se cl d) (v : Int32) : cM l x (e + 1) L m_A_paid [.ref 0, .int v] d (fun r d' => r = some (.int (if clB cl v then pd (cN v) else -2)) ∧ RA cash esc pd pt ow res wt T n se cl d' ∧ fA d d') := by
  obtain ⟨h1, h2, h3, h4, h5, h6, h7, h8, h9, h10, h11⟩ := id h
  refine cM.go (by decide) (by simp [Value.category]) (Nat.le_of_ble_eq_true rfl) ?_
  refine am_go cd_A_paid hc_A_paid 0 1 (pc' := 1) (L' := [some (.ref 0), some (.int v)]) (st' := [.ref 0]) rfl ?_
  refine am_getf 0 10 k_r0 (am_at hc_A_paid 1 rfl) rfl (by decide) rfl (by decide) k_ok0 (Or.inl (tw 85 rfl rfl)) (congrArg Value.int h10) ?_
  cases cl with
  | false =>
    simp only [bI_f]
    refine am_if_eq 23 (am_at hc_A_paid 2 rfl) (by decide) (fun q0 => ?_) (fun q0 => absurd rfl q0)
    have hno : ¬ clB false v := fun z => by cases z.1
    simp only [if_neg hno]
    refine am_go cd_A_paid hc_A_paid 11 1 (pc' := 25) (L' := [some (.ref 0), some (.int v)]) (st' := [.int (-2)]) rfl ?_
    exact am_iret (am_at hc_A_paid 12 rfl) rfl rfl ⟨rfl, rfl, rfl, h, fA.rf⟩
  | true =>
    simp only [bI_t]
    refine am_if_eq 23 (am_at hc_A_paid 2 rfl) (by decide) (fun q0 => absurd q0 (by decide)) (fun q0 => ?_)
    refine am_go cd_A_paid hc_A_paid 3 1 (pc' := 8) (L' := [some (.ref 0), some (.int v)]) (st' := [.int v]) rfl ?_
    refine cW.callS1 11 [.int (if isB v then 1 else 0)] (st := []) [.int v] (am_at hc_A_paid 4 rfl) g_A_isBidder (Or.inl (tw 113 rfl rfl)) (tw 114 rfl rfl) rfl rfl (Nat.le_of_ble_eq_true rfl) (c_isB v) rfl rfl ?_
    by_cases hb : isB v
    · simp only [if_pos hb]
      refine am_if_eq 23 (am_at hc_A_paid 5 rfl) (by decide) (fun q1 => absurd q1 (by decide)) (fun q1 => ?_)
      have hok : clB true v := ⟨rfl, hb⟩
      simp only [if_pos hok]
      obtain ⟨b, hb5, rfl⟩ := isB_of hb
      simp only [nI_cl (show b < 1000000 by omega)]
      refine am_go cd_A_paid hc_A_paid 6 1 (pc' := 15) (L' := [some (.ref 0), some (.int (nI b))]) (st' := [.ref 0]) rfl ?_
      refine am_getf 0 4 k_r0 (am_at hc_A_paid 7 rfl) rfl (by decide) rfl (by decide) k_ok0 (Or.inl (tw 79 rfl rfl)) rfl ?_
      refine am_go cd_A_paid hc_A_paid 8 1 (pc' := 19) (L' := [some (.ref 0), some (.int (nI b))]) (st' := [.int (nI b), .ref 5]) rfl ?_
      refine am_iaload (b) (am_at hc_A_paid 9 rfl) rfl (Or.inl (by decide)) rfl (by show b < 5; omega) (Nat.le_of_ble_eq_true rfl) ?_
      rw [show d 5 b = pd b from h3 b hb5]
      refine am_go cd_A_paid hc_A_paid 10 1 (pc' := 25) (L' := [some (.ref 0), some (.int (nI b))]) (st' := [.int (pd b)]) rfl ?_
      exact am_iret (am_at hc_A_paid 12 rfl) rfl rfl ⟨rfl, rfl, rfl, h, fA.rf⟩
    · simp only [if_neg hb]
      refine am_if_eq 23 (am_at hc_A_paid 5 rfl) (by decide) (fun q1 => ?_) (fun q1 => absurd rfl q1)
      have hno : ¬ clB true v := fun z => hb z.2
      simp only [if_neg hno]
      refine am_go cd_A_paid hc_A_paid 11 1 (pc' := 25) (L' := [some (.ref 0), some (.int v)]) (st' := [.int (-2)]) rfl ?_
      exact am_iret (am_at hc_A_paid 12 rfl) rfl rfl ⟨rfl, rfl, rfl, h, fA.rf⟩
set_option maxHeartbeats 4000000 in
theorem c_A_owner {l : Launch} {x : am_X} {e L : Nat} {d : am_D} {cash esc pd pt ow : Nat → Int32} {res : Nat → Int} {wt : Nat → Nat → Int} {T : Nat → Nat} {n : Nat} {se : Int32} {cl : Bool} (h : RA cash esc pd pt ow res wt T n se cl d) (v : Int32) : cM l x (e + 1) L m_A_owner [.ref 0, .int v] d (fun r d' => r = some (.int (if clI cl v then ow (cN v) else -2)) ∧ RA cash esc pd pt ow res wt T n se cl d' ∧ fA d d') := by
  obtain ⟨h1, h2, h3, h4, h5, h6, h7, h8, h9, h10, h11⟩ := id h
  refine cM.go (by decide) (by simp [Value.category]) (Nat.le_of_ble_eq_true rfl) ?_
  refine am_go cd_A_owner hc_A_owner 0 1 (pc' := 1) (L' := [some (.ref 0), some (.int v)]) (st' := [.ref 0]) rfl ?_
  refine am_getf 0 10 k_r0 (am_at hc_A_owner 1 rfl) rfl (by decide) rfl (by decide) k_ok0 (Or.inl (tw 85 rfl rfl)) (congrArg Value.int h10) ?_
  cases cl with
  | false =>
    simp only [bI_f]
    refine am_if_eq 23 (am_at hc_A_owner 2 rfl) (by decide) (fun q0 => ?_) (fun q0 => absurd rfl q0)
    have hno : ¬ clI false v := fun z => by cases z.1
    simp only [if_neg hno]
    refine am_go cd_A_owner hc_A_owner 11 1 (pc' := 25) (L' := [some (.ref 0), some (.int v)]) (st' := [.int (-2)]) rfl ?_
    exact am_iret (am_at hc_A_owner 12 rfl) rfl rfl ⟨rfl, rfl, rfl, h, fA.rf⟩
  | true =>
    simp only [bI_t]
    refine am_if_eq 23 (am_at hc_A_owner 2 rfl) (by decide) (fun q0 => absurd q0 (by decide)) (fun q0 => ?_)
    refine am_go cd_A_owner hc_A_owner 3 1 (pc' := 8) (L' := [some (.ref 0), some (.int v)]) (st' := [.int v]) rfl ?_
    refine cW.callS1 11 [.int (if isI v then 1 else 0)] (st := []) [.int v] (am_at hc_A_owner 4 rfl) g_A_isItem (Or.inl (tw 141 rfl rfl)) (tw 142 rfl rfl) rfl rfl (Nat.le_of_ble_eq_true rfl) (c_isI v) rfl rfl ?_
    by_cases hb : isI v
    · simp only [if_pos hb]
      refine am_if_eq 23 (am_at hc_A_owner 5 rfl) (by decide) (fun q1 => absurd q1 (by decide)) (fun q1 => ?_)
      have hok : clI true v := ⟨rfl, hb⟩
      simp only [if_pos hok]
      obtain ⟨b, hb5, rfl⟩ := isI_of hb
      simp only [nI_cl (show b < 1000000 by omega)]
      refine am_go cd_A_owner hc_A_owner 6 1 (pc' := 15) (L' := [some (.ref 0), some (.int (nI b))]) (st' := [.ref 0]) rfl ?_
      refine am_getf 0 3 k_r0 (am_at hc_A_owner 7 rfl) rfl (by decide) rfl (by decide) k_ok0 (Or.inl (tw 78 rfl rfl)) rfl ?_
      refine am_go cd_A_owner hc_A_owner 8 1 (pc' := 19) (L' := [some (.ref 0), some (.int (nI b))]) (st' := [.int (nI b), .ref 4]) rfl ?_
      refine am_iaload (b) (am_at hc_A_owner 9 rfl) rfl (Or.inl (by decide)) rfl (by show b < 6; omega) (Nat.le_of_ble_eq_true rfl) ?_
      rw [show d 4 b = ow b from h5 b hb5]
      refine am_go cd_A_owner hc_A_owner 10 1 (pc' := 25) (L' := [some (.ref 0), some (.int (nI b))]) (st' := [.int (ow b)]) rfl ?_
      exact am_iret (am_at hc_A_owner 12 rfl) rfl rfl ⟨rfl, rfl, rfl, h, fA.rf⟩
    · simp only [if_neg hb]
      refine am_if_eq 23 (am_at hc_A_owner 5 rfl) (by decide) (fun q1 => ?_) (fun q1 => absurd rfl q1)
      have hno : ¬ clI true v := fun z => hb z.2
      simp only [if_neg hno]
      refine am_go cd_A_owner hc_A_owner 11 1 (pc' := 25) (L' := [some (.ref 0), some (.int v)]) (st' := [.int (-2)]) rfl ?_
      exact am_iret (am_at hc_A_owner 12 rfl) rfl rfl ⟨rfl, rfl, rfl, h, fA.rf⟩
set_option maxHeartbeats 4000000 in
theorem c_A_seller {l : Launch} {x : am_X} {e L : Nat} {d : am_D} {cash esc pd pt ow : Nat → Int32} {res : Nat → Int} {wt : Nat → Nat → Int} {T : Nat → Nat} {n : Nat} {se : Int32} {cl : Bool} (h : RA cash esc pd pt ow res wt T n se cl d) : cM l x e L m_A_seller [.ref 0] d (fun r d' => r = some (.int se) ∧ RA cash esc pd pt ow res wt T n se cl d' ∧ fA d d') := by
  obtain ⟨h1, h2, h3, h4, h5, h6, h7, h8, h9, h10, h11⟩ := id h
  refine cM.go (by decide) (by simp [Value.category]) (Nat.le_of_ble_eq_true rfl) ?_
  refine am_go cd_A_seller hc_A_seller 0 1 (pc' := 1) (L' := [some (.ref 0)]) (st' := [.ref 0]) rfl ?_
  refine am_getf 0 9 k_r0 (am_at hc_A_seller 1 rfl) rfl (by decide) rfl (by decide) k_ok0 (Or.inl (tw 84 rfl rfl)) (congrArg Value.int h9) ?_
  exact am_iret (am_at hc_A_seller 2 rfl) rfl rfl ⟨rfl, rfl, rfl, h, fA.rf⟩
set_option maxHeartbeats 4000000 in
theorem c_A_state {l : Launch} {x : am_X} {e L : Nat} {d : am_D} {cash esc pd pt ow : Nat → Int32} {res : Nat → Int} {wt : Nat → Nat → Int} {T : Nat → Nat} {n : Nat} {se : Int32} {cl : Bool} (h : RA cash esc pd pt ow res wt T n se cl d) : cM l x e L m_A_state [.ref 0] d (fun r d' => r = some (.int (bI cl)) ∧ RA cash esc pd pt ow res wt T n se cl d' ∧ fA d d') := by
  obtain ⟨h1, h2, h3, h4, h5, h6, h7, h8, h9, h10, h11⟩ := id h
  refine cM.go (by decide) (by simp [Value.category]) (Nat.le_of_ble_eq_true rfl) ?_
  refine am_go cd_A_state hc_A_state 0 1 (pc' := 1) (L' := [some (.ref 0)]) (st' := [.ref 0]) rfl ?_
  refine am_getf 0 10 k_r0 (am_at hc_A_state 1 rfl) rfl (by decide) rfl (by decide) k_ok0 (Or.inl (tw 85 rfl rfl)) (congrArg Value.int h10) ?_
  cases cl with
  | false =>
    simp only [bI_f]
    refine am_if_eq 11 (am_at hc_A_state 2 rfl) (by decide) (fun q0 => ?_) (fun q0 => absurd rfl q0)
    refine am_go cd_A_state hc_A_state 5 1 (pc' := 12) (L' := [some (.ref 0)]) (st' := [.int 0]) rfl ?_
    exact am_iret (am_at hc_A_state 6 rfl) rfl rfl ⟨rfl, rfl, rfl, h, fA.rf⟩
  | true =>
    simp only [bI_t]
    refine am_if_eq 11 (am_at hc_A_state 2 rfl) (by decide) (fun q0 => absurd q0 (by decide)) (fun q0 => ?_)
    refine am_go cd_A_state hc_A_state 3 2 (pc' := 12) (L' := [some (.ref 0)]) (st' := [.int 1]) rfl ?_
    exact am_iret (am_at hc_A_state 6 rfl) rfl rfl ⟨rfl, rfl, rfl, h, fA.rf⟩
set_option maxHeartbeats 4000000 in
theorem c_A_worth {l : Launch} {x : am_X} {e L : Nat} {d : am_D} {cash esc pd pt ow : Nat → Int32} {res : Nat → Int} {wt : Nat → Nat → Int} {T : Nat → Nat} {n : Nat} {se : Int32} {cl : Bool} (h : RA cash esc pd pt ow res wt T n se cl d) (v m : Int32) : cM l x (e + 1) L m_A_worth [.ref 0, .int v, .int m] d (fun r d' => r = some (.int (if woOk v m then zI (wt (cN v) (cN m)) else -2)) ∧ RA cash esc pd pt ow res wt T n se cl d' ∧ fA d d') := by
  obtain ⟨h1, h2, h3, h4, h5, h6, h7, h8, h9, h10, h11⟩ := id h
  refine cM.go (by decide) (by simp [Value.category]) (Nat.le_of_ble_eq_true rfl) ?_
  refine am_go cd_A_worth hc_A_worth 0 1 (pc' := 1) (L' := [some (.ref 0), some (.int v), some (.int m)]) (st' := [.int v]) rfl ?_
  refine cW.callS1 4 [.int (if isB v then 1 else 0)] (st := []) [.int v] (am_at hc_A_worth 1 rfl) g_A_isBidder (Or.inl (tw 113 rfl rfl)) (tw 114 rfl rfl) rfl rfl (Nat.le_of_ble_eq_true rfl) (c_isB v) rfl rfl ?_
  by_cases hb : isB v
  · simp only [if_pos hb]
    refine am_if_eq 17 (am_at hc_A_worth 2 rfl) (by decide) (fun q1 => absurd q1 (by decide)) (fun q1 => ?_)
    refine am_go cd_A_worth hc_A_worth 3 1 (pc' := 8) (L' := [some (.ref 0), some (.int v), some (.int m)]) (st' := [.int m]) rfl ?_
    refine am_if_lt 17 (am_at hc_A_worth 4 rfl) (by decide) (fun q2 => ?_) (fun q2 => ?_)
    · skip
      have hno : ¬ woOk v m := fun z => Int32.not_lt.mpr z.2.1 q2
      simp only [if_neg hno]
      refine am_go cd_A_worth hc_A_worth 8 1 (pc' := 19) (L' := [some (.ref 0), some (.int v), some (.int m)]) (st' := [.int (-2)]) rfl ?_
      exact am_iret (am_at hc_A_worth 9 rfl) rfl rfl ⟨rfl, rfl, rfl, h, fA.rf⟩
    · skip
      refine am_go cd_A_worth hc_A_worth 5 2 (pc' := 14) (L' := [some (.ref 0), some (.int v), some (.int m)]) (st' := [.int 64, .int m]) rfl ?_
      refine am_icmp_lt 20 (am_at hc_A_worth 7 rfl) (by decide) (fun q3 => ?_) (fun q3 => ?_)
      · have hok : woOk v m := ⟨hb, Int32.not_lt.mp q2, q3⟩
        simp only [if_pos hok]
        obtain ⟨b, hb5, rfl⟩ := isB_of hb
        obtain ⟨s, hs31, rfl⟩ := nI_of q2
        have hs : s < 64 := (nI_ltI (b := 64) hs31 (by decide)).mp q3
        simp only [nI_cl (show b < 1000000 by omega), nI_cl (show s < 1000000 by omega)]
        have hsh := SH_w L b hb5
        refine am_go cd_A_worth hc_A_worth 10 1 (pc' := 21) (L' := [some (.ref 0), some (.int (nI b)), some (.int (nI s))]) (st' := [.ref 0]) rfl ?_
        refine am_getf 0 6 k_r0 (am_at hc_A_worth 11 rfl) rfl (by decide) rfl (by decide) k_ok0 (Or.inl (tw 81 rfl rfl)) rfl ?_
        refine am_go cd_A_worth hc_A_worth 12 1 (pc' := 25) (L' := [some (.ref 0), some (.int (nI b)), some (.int (nI s))]) (st' := [.int (nI b), .ref 7]) rfl ?_
        refine am_aaload (b) (8 + b) (am_at hc_A_worth 13 rfl) rfl (by decide) rfl (by show b < 5; omega) (Nat.le_of_ble_eq_true rfl) (if_pos hb5) ?_
        refine am_go cd_A_worth hc_A_worth 14 1 (pc' := 27) (L' := [some (.ref 0), some (.int (nI b)), some (.int (nI s))]) (st' := [.int (nI s), .ref (8 + b)]) rfl ?_
        refine am_iaload (s) (am_at hc_A_worth 15 rfl) (by rw [hsh]) (Or.inl (by omega)) rfl (by rw [hsh]; exact hs) (by rw [hsh]; decide) ?_
        rw [show d (8 + b) s = zI (wt b s) from (h7 b hb5).2 s hs]
        exact am_iret (am_at hc_A_worth 16 rfl) rfl rfl ⟨rfl, rfl, rfl, h, fA.rf⟩
      · skip
        have hno : ¬ woOk v m := fun z => q3 z.2.2
        simp only [if_neg hno]
        refine am_go cd_A_worth hc_A_worth 8 1 (pc' := 19) (L' := [some (.ref 0), some (.int v), some (.int m)]) (st' := [.int (-2)]) rfl ?_
        exact am_iret (am_at hc_A_worth 9 rfl) rfl rfl ⟨rfl, rfl, rfl, h, fA.rf⟩
  · simp only [if_neg hb]
    refine am_if_eq 17 (am_at hc_A_worth 2 rfl) (by decide) (fun q1 => ?_) (fun q1 => absurd rfl q1)
    have hno : ¬ woOk v m := fun z => hb z.1
    simp only [if_neg hno]
    refine am_go cd_A_worth hc_A_worth 8 1 (pc' := 19) (L' := [some (.ref 0), some (.int v), some (.int m)]) (st' := [.int (-2)]) rfl ?_
    exact am_iret (am_at hc_A_worth 9 rfl) rfl rfl ⟨rfl, rfl, rfl, h, fA.rf⟩
