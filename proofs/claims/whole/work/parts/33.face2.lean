set_option maxHeartbeats 4000000 in
theorem c_A_dropBid {l : Launch} {x : am_X} {e L : Nat} {d : am_D} {cash esc pd pt ow : Nat → Int32} {res : Nat → Int} {wt : Nat → Nat → Int} {T : Nat → Nat} {n : Nat} {se : Int32} {cl : Bool} (h : RA cash esc pd pt ow res wt T n se cl d) {b : Nat} (hb5 : b < 5) : cM l x (e + 1) L m_A_dropBid [.ref 0, .int (nI b)] d (fun r d' => r = none ∧ RA cash esc pd (upd pt b 0) ow res (updw wt b (fun _ => 0)) T n se cl d' ∧ fA d d') := by
  obtain ⟨h1, h2, h3, h4, h5, h6, h7, h8, h9, h10, h11⟩ := id h
  refine cM.go (by decide) (by simp [Value.category]) (Nat.le_of_ble_eq_true rfl) ?_
  have hsh := SH_w L b hb5
  refine am_go cd_A_dropBid hc_A_dropBid 0 1 (pc' := 1) (L' := [some (.ref 0), some (.int (nI b))]) (st' := [.ref 0]) rfl ?_
  refine am_getf 0 6 k_r0 (am_at hc_A_dropBid 1 rfl) rfl (by decide) rfl (by decide) k_ok0 (Or.inl (tw 81 rfl rfl)) rfl ?_
  refine am_go cd_A_dropBid hc_A_dropBid 2 1 (pc' := 5) (L' := [some (.ref 0), some (.int (nI b))]) (st' := [.int (nI b), .ref 7]) rfl ?_
  refine am_aaload (b) (8 + b) (am_at hc_A_dropBid 3 rfl) rfl (by decide) rfl (by show b < 5; omega) (Nat.le_of_ble_eq_true rfl) (if_pos hb5) ?_
  refine am_go cd_A_dropBid hc_A_dropBid 4 1 (pc' := 7) (L' := [some (.ref 0), some (.int (nI b))]) (st' := [.int 0, .ref (8 + b)]) rfl ?_
  refine cW.callS1 10 [] (st := []) [.ref (8 + b), .int 0] (am_at hc_A_dropBid 5 rfl) g_J_fill (Or.inl (tw 130 rfl rfl)) (tw 131 rfl rfl) rfl rfl (Nat.le_of_ble_eq_true rfl) (c_fill (8 + b) hsh (by omega)) rfl rfl ?_
  refine am_go cd_A_dropBid hc_A_dropBid 6 1 (pc' := 11) (L' := [some (.ref 0), some (.int (nI b))]) (st' := [.ref 0]) rfl ?_
  refine am_getf 0 5 k_r0 (am_at hc_A_dropBid 7 rfl) rfl (by decide) rfl (by decide) k_ok0 (Or.inl (tw 80 rfl rfl)) rfl ?_
  refine am_go cd_A_dropBid hc_A_dropBid 8 2 (pc' := 16) (L' := [some (.ref 0), some (.int (nI b))]) (st' := [.int 0, .int (nI b), .ref 6]) rfl ?_
  refine am_iastore (b) (am_at hc_A_dropBid 10 rfl) rfl (by decide) rfl (by show b < 5; omega) (Nat.le_of_ble_eq_true rfl) ?_
  exact am_vret (am_at hc_A_dropBid 11 rfl) rfl ⟨rfl, rfl, rfl, (h.wt hb5 tb_0 (fun _ _ => rfl)).pt, (fA.t (by omega)).tr (fA.u (by decide))⟩
set_option maxHeartbeats 4000000 in
theorem c_A_giveBack {l : Launch} {x : am_X} {e L : Nat} {d : am_D} {cash esc pd pt ow : Nat → Int32} {res : Nat → Int} {wt : Nat → Nat → Int} {T : Nat → Nat} {n : Nat} {se : Int32} {cl : Bool} (h : RA cash esc pd pt ow res wt T n se cl d) {b : Nat} (hb5 : b < 5) : cM l x e L m_A_giveBack [.ref 0, .int (nI b)] d (fun r d' => r = none ∧ RA (upd cash b (cash b + esc b)) (upd esc b 0) pd pt ow res wt T n se cl d' ∧ fA d d') := by
  obtain ⟨h1, h2, h3, h4, h5, h6, h7, h8, h9, h10, h11⟩ := id h
  refine cM.go (by decide) (by simp [Value.category]) (Nat.le_of_ble_eq_true rfl) ?_
  refine am_go cd_A_giveBack hc_A_giveBack 0 1 (pc' := 1) (L' := [some (.ref 0), some (.int (nI b))]) (st' := [.ref 0]) rfl ?_
  refine am_getf 0 0 k_r0 (am_at hc_A_giveBack 1 rfl) rfl (by decide) rfl (by decide) k_ok0 (Or.inl (tw 75 rfl rfl)) rfl ?_
  refine am_go cd_A_giveBack hc_A_giveBack 2 2 (pc' := 6) (L' := [some (.ref 0), some (.int (nI b))]) (st' := [.int (nI b), .ref 1, .int (nI b), .ref 1]) rfl ?_
  refine am_iaload (b) (am_at hc_A_giveBack 4 rfl) rfl (Or.inl (by decide)) rfl (by show b < 5; omega) (Nat.le_of_ble_eq_true rfl) ?_
  rw [show d 1 b = cash b from h1 b hb5]
  refine am_go cd_A_giveBack hc_A_giveBack 5 1 (pc' := 8) (L' := [some (.ref 0), some (.int (nI b))]) (st' := [.ref 0, .int (cash b), .int (nI b), .ref 1]) rfl ?_
  refine am_getf 0 1 k_r0 (am_at hc_A_giveBack 6 rfl) rfl (by decide) rfl (by decide) k_ok0 (Or.inl (tw 76 rfl rfl)) rfl ?_
  refine am_go cd_A_giveBack hc_A_giveBack 7 1 (pc' := 12) (L' := [some (.ref 0), some (.int (nI b))]) (st' := [.int (nI b), .ref 2, .int (cash b), .int (nI b), .ref 1]) rfl ?_
  refine am_iaload (b) (am_at hc_A_giveBack 8 rfl) rfl (Or.inl (by decide)) rfl (by show b < 5; omega) (Nat.le_of_ble_eq_true rfl) ?_
  rw [show d 2 b = esc b from h2 b hb5]
  refine am_go cd_A_giveBack hc_A_giveBack 9 1 (pc' := 14) (L' := [some (.ref 0), some (.int (nI b))]) (st' := [.int (cash b + esc b), .int (nI b), .ref 1]) rfl ?_
  refine am_iastore (b) (am_at hc_A_giveBack 10 rfl) rfl (by decide) rfl (by show b < 5; omega) (Nat.le_of_ble_eq_true rfl) ?_
  refine am_go cd_A_giveBack hc_A_giveBack 11 1 (pc' := 16) (L' := [some (.ref 0), some (.int (nI b))]) (st' := [.ref 0]) rfl ?_
  refine am_getf 0 1 k_r0 (am_at hc_A_giveBack 12 rfl) rfl (by decide) rfl (by decide) k_ok0 (Or.inl (tw 76 rfl rfl)) rfl ?_
  refine am_go cd_A_giveBack hc_A_giveBack 13 2 (pc' := 21) (L' := [some (.ref 0), some (.int (nI b))]) (st' := [.int 0, .int (nI b), .ref 2]) rfl ?_
  refine am_iastore (b) (am_at hc_A_giveBack 15 rfl) rfl (by decide) rfl (by show b < 5; omega) (Nat.le_of_ble_eq_true rfl) ?_
  exact am_vret (am_at hc_A_giveBack 16 rfl) rfl ⟨rfl, rfl, rfl, h.cash.esc, (fA.u (by decide)).tr (fA.u (by decide))⟩
set_option maxHeartbeats 4000000 in
theorem c_A_withdraw {l : Launch} {x : am_X} {e L : Nat} {d : am_D} {cash esc pd pt ow : Nat → Int32} {res : Nat → Int} {wt : Nat → Nat → Int} {T : Nat → Nat} {n : Nat} {se : Int32} {cl : Bool} (h : RA cash esc pd pt ow res wt T n se cl d) (v : Int32) : cM l x (e + 2) L m_A_withdraw [.ref 0, .int v] d (fun r d' => r = some (.int (if opB cl v then 1 else 0)) ∧ RA (if opB cl v then upd cash (cN v) (cash (cN v) + esc (cN v)) else cash) (if opB cl v then upd esc (cN v) 0 else esc) pd (if opB cl v then upd pt (cN v) 0 else pt) ow res (if opB cl v then updw wt (cN v) (fun _ => 0) else wt) T n se cl d' ∧ fA d d') := by
  obtain ⟨h1, h2, h3, h4, h5, h6, h7, h8, h9, h10, h11⟩ := id h
  refine cM.go (by decide) (by simp [Value.category]) (Nat.le_of_ble_eq_true rfl) ?_
  refine am_go cd_A_withdraw hc_A_withdraw 0 1 (pc' := 1) (L' := [some (.ref 0), some (.int v)]) (st' := [.ref 0]) rfl ?_
  refine am_getf 0 10 k_r0 (am_at hc_A_withdraw 1 rfl) rfl (by decide) rfl (by decide) k_ok0 (Or.inl (tw 85 rfl rfl)) (congrArg Value.int h10) ?_
  cases cl with
  | true =>
    simp only [bI_t]
    refine am_if_ne 14 (am_at hc_A_withdraw 2 rfl) (by decide) (fun q0 => ?_) (fun q0 => absurd q0 (by decide))
    have hno : ¬ opB true v := fun z => by cases z.1
    simp only [if_neg hno]
    refine am_go cd_A_withdraw hc_A_withdraw 6 1 (pc' := 15) (L' := [some (.ref 0), some (.int v)]) (st' := [.int 0]) rfl ?_
    exact am_iret (am_at hc_A_withdraw 7 rfl) rfl rfl ⟨rfl, rfl, rfl, h, fA.rf⟩
  | false =>
    simp only [bI_f]
    refine am_if_ne 14 (am_at hc_A_withdraw 2 rfl) (by decide) (fun q0 => absurd rfl q0) (fun q0 => ?_)
    refine am_go cd_A_withdraw hc_A_withdraw 3 1 (pc' := 8) (L' := [some (.ref 0), some (.int v)]) (st' := [.int v]) rfl ?_
    refine cW.callS1 11 [.int (if isB v then 1 else 0)] (st := []) [.int v] (am_at hc_A_withdraw 4 rfl) g_A_isBidder (Or.inl (tw 113 rfl rfl)) (tw 114 rfl rfl) rfl rfl (Nat.le_of_ble_eq_true rfl) (c_isB v) rfl rfl ?_
    by_cases hb : isB v
    · simp only [if_pos hb]
      refine am_if_ne 16 (am_at hc_A_withdraw 5 rfl) (by decide) (fun q1 => ?_) (fun q1 => absurd q1 (by decide))
      have hok : opB false v := ⟨rfl, hb⟩
      simp only [if_pos hok]
      obtain ⟨b, hb5, rfl⟩ := isB_of hb
      simp only [nI_cl (show b < 1000000 by omega)]
      refine am_go cd_A_withdraw hc_A_withdraw 8 2 (pc' := 18) (L' := [some (.ref 0), some (.int (nI b))]) (st' := [.int (nI b), .ref 0]) rfl ?_
      refine cW.callV (st := []) [.int (nI b)] (am_at hc_A_withdraw 10 rfl) g_A_dropBid (Or.inl (tw 126 rfl rfl)) (tw 128 rfl rfl) (tp 0 rfl rfl) 0 k_r0 rfl (by decide) rfl rfl rfl rfl (Nat.le_of_ble_eq_true rfl) (c_A_dropBid h hb5) ?_
      rintro _ d1 ⟨rfl, hA, hf⟩
      show cW _ _ (e + 2) _ m_A_withdraw 21 [some (.ref 0), some (.int (nI b))] [] _ _
      refine am_go cd_A_withdraw hc_A_withdraw 11 2 (pc' := 23) (L' := [some (.ref 0), some (.int (nI b))]) (st' := [.int (nI b), .ref 0]) rfl ?_
      refine cW.callV (st := []) [.int (nI b)] (am_at hc_A_withdraw 13 rfl) g_A_giveBack (Or.inl (tw 133 rfl rfl)) (tw 135 rfl rfl) (tp 1 rfl rfl) 0 k_r0 rfl (by decide) rfl rfl rfl rfl (Nat.le_of_ble_eq_true rfl) (c_A_giveBack hA hb5) ?_
      rintro _ d2 ⟨rfl, hA2, hf2⟩
      show cW _ _ (e + 2) _ m_A_withdraw 26 [some (.ref 0), some (.int (nI b))] [] _ _
      refine am_go cd_A_withdraw hc_A_withdraw 14 1 (pc' := 27) (L' := [some (.ref 0), some (.int (nI b))]) (st' := [.int 1]) rfl ?_
      exact am_iret (am_at hc_A_withdraw 15 rfl) rfl rfl ⟨rfl, rfl, rfl, hA2, hf.tr hf2⟩
    · simp only [if_neg hb]
      refine am_if_ne 16 (am_at hc_A_withdraw 5 rfl) (by decide) (fun q1 => absurd rfl q1) (fun q1 => ?_)
      have hno : ¬ opB false v := fun z => hb z.2
      simp only [if_neg hno]
      refine am_go cd_A_withdraw hc_A_withdraw 6 1 (pc' := 15) (L' := [some (.ref 0), some (.int v)]) (st' := [.int 0]) rfl ?_
      exact am_iret (am_at hc_A_withdraw 7 rfl) rfl rfl ⟨rfl, rfl, rfl, h, fA.rf⟩
abbrev tyNo (n : Nat) (v : Int32) : Prop := v < 32 ∨ 126 < v ∨ 40 ≤ n
theorem ty_code {n : Nat} {v : Int32} (h : ¬ tyNo n v) : ∃ c, c < 128 ∧ 32 ≤ c ∧ v = nI c ∧ vp_nar .char v = nI c ∧ n < 40 := by
  have h1 : ¬ v < 32 := fun z => h (Or.inl z)
  have h2 : ¬ 126 < v := fun z => h (Or.inr (Or.inl z))
  have h3 : n < 40 := Nat.not_le.mp (fun z => h (Or.inr (Or.inr z)))
  have h0 : ¬ v < 0 := fun z => h1 (Int32.lt_iff_toInt_lt.mpr (by have := Int32.lt_iff_toInt_lt.mp z; have e0 : (0 : Int32).toInt = 0 := rfl; have e1 : (32 : Int32).toInt = 32 := rfl; omega))
  obtain ⟨c, hc, rfl⟩ := nI_of h0
  have h4 : c ≤ 126 := Nat.not_lt.mp (fun z => h2 ((nI_ltI (a := 126) (by decide) hc).mpr z))
  have h5 : 32 ≤ c := Nat.not_lt.mp (fun z => h1 ((nI_ltI (b := 32) hc (by decide)).mpr z))
  refine ⟨c, by omega, h5, rfl, ?_, h3⟩
  have := (pk_charN (q := c) (by omega)).1
  unfold vp_nar
  rw [this]
set_option maxHeartbeats 4000000 in
theorem c_A_type {l : Launch} {x : am_X} {e L : Nat} {d : am_D} {cash esc pd pt ow : Nat → Int32} {res : Nat → Int} {wt : Nat → Nat → Int} {T : Nat → Nat} {n : Nat} {se : Int32} {cl : Bool} (h : RA cash esc pd pt ow res wt T n se cl d) (v : Int32) : cM l x (e + 1) L m_A_type [.ref 0, .int v] d (fun r d' => r = some (.int (if tyNo n v then 0 else 1)) ∧ RA cash esc pd pt ow res wt (if tyNo n v then T else (fun j => if j = n then cN v else T j)) (if tyNo n v then n else n + 1) se cl d' ∧ fA d d') := by
  obtain ⟨h1, h2, h3, h4, h5, h6, h7, h8, h9, h10, h11⟩ := id h
  refine cM.go (by decide) (by simp [Value.category]) (Nat.le_of_ble_eq_true rfl) ?_
  refine am_go cd_A_type hc_A_type 0 1 (pc' := 1) (L' := [some (.ref 0), some (.int v)]) (st' := [.ref 0]) rfl ?_
  refine am_getf 0 7 k_r0 (am_at hc_A_type 1 rfl) rfl (by decide) rfl (by decide) k_ok0 (Or.inl (tw 82 rfl rfl)) rfl ?_
  refine am_go cd_A_type hc_A_type 2 1 (pc' := 5) (L' := [some (.ref 0), some (.int v)]) (st' := [.int v, .ref 13]) rfl ?_
  refine cW.callV1 8 [.int (if tyNo n v then 0 else 1)] (st := []) [.int v] (am_at hc_A_type 3 rfl) g_B_add (Or.inl (tw 148 rfl rfl)) (tw 149 rfl rfl) (tw 150 rfl rfl) 1 k_r1 rfl (by decide) rfl rfl rfl rfl (Nat.le_of_ble_eq_true rfl) (c_B_add v h8.1 h8.2.1) rfl rfl ?_
  by_cases hno : tyNo n v
  · simp only [if_pos hno]
    exact am_iret (am_at hc_A_type 4 rfl) rfl rfl ⟨rfl, rfl, rfl, h, fA.rf⟩
  · obtain ⟨c, hc, hc2, rfl, hnar, hn40⟩ := ty_code hno
    simp only [if_neg hno, hnar, nI_cl (show c < 1000000 by omega)]
    exact am_iret (am_at hc_A_type 4 rfl) rfl rfl ⟨rfl, rfl, rfl, h.n1 hn40 hc, (fA.u (by decide)).tr (fA.u (by decide))⟩
set_option maxHeartbeats 4000000 in
theorem c_A_reopen {l : Launch} {x : am_X} {e L : Nat} {d : am_D} {cash esc pd pt ow : Nat → Int32} {res : Nat → Int} {wt : Nat → Nat → Int} {T : Nat → Nat} {n : Nat} {se : Int32} {cl : Bool} (h : RA cash esc pd pt ow res wt T n se cl d) : cM l x (e + 2) L m_A_reopen [.ref 0] d (fun r d' => r = some (.int (bI cl)) ∧ RA cash esc pd (if cl = true then fun b => if b < 5 then 0 else pt b else pt) ow res (if cl = true then fun b => if b < 5 then (fun _ => 0) else wt b else wt) T n se false d' ∧ fA d d') := by
  obtain ⟨h1, h2, h3, h4, h5, h6, h7, h8, h9, h10, h11⟩ := id h
  refine cM.go (by decide) (by simp [Value.category]) (Nat.le_of_ble_eq_true rfl) ?_
  refine am_go cd_A_reopen hc_A_reopen 0 1 (pc' := 1) (L' := [some (.ref 0), none]) (st' := [.ref 0]) rfl ?_
  refine am_getf 0 10 k_r0 (am_at hc_A_reopen 1 rfl) rfl (by decide) rfl (by decide) k_ok0 (Or.inl (tw 85 rfl rfl)) (congrArg Value.int h10) ?_
  cases cl with
  | false =>
    simp only [bI_f]
    refine am_if_ne 9 (am_at hc_A_reopen 2 rfl) (by decide) (fun q0 => absurd rfl q0) (fun q0 => ?_)
    refine am_go cd_A_reopen hc_A_reopen 3 1 (pc' := 8) (L' := [some (.ref 0), none]) (st' := [.int 0]) rfl ?_
    exact am_iret (am_at hc_A_reopen 4 rfl) rfl rfl ⟨rfl, rfl, rfl, h, fA.rf⟩
  | true =>
    simp only [bI_t]
    refine am_if_ne 9 (am_at hc_A_reopen 2 rfl) (by decide) (fun q0 => ?_) (fun q0 => absurd q0 (by decide))
    refine am_go cd_A_reopen hc_A_reopen 5 2 (pc' := 11) (L' := [some (.ref 0), some (.int 0)]) (st' := []) rfl ?_
    have loop : ∀ q k d1, k + q = 5 → RA cash esc pd (fun b => if b < k then 0 else pt b) ow res (fun b => if b < k then (fun _ => 0) else wt b) T n se true d1 → fA d d1 → cW l x (e + 2) L m_A_reopen 11 [some (.ref 0), some (.int (nI k))] [] d1 (fun r d' => r = some (.int 1) ∧ RA cash esc pd (fun b => if b < 5 then 0 else pt b) ow res (fun b => if b < 5 then (fun _ => 0) else wt b) T n se false d' ∧ fA d d') := by
      intro q
      induction q with
      | zero =>
        intro k d1 hk hA hf
        have hk5 : k = 5 := by omega
        subst hk5
        refine am_go cd_A_reopen hc_A_reopen 7 2 (pc' := 13) (L' := [some (.ref 0), some (.int (nI 5))]) (st' := [.int 5, .int (nI 5)]) rfl ?_
        refine am_icmp_ge 27 (am_at hc_A_reopen 9 rfl) (by decide) (fun h => ?_) (fun h => absurd (nI_le (a := 5) (b := 5) (by omega) (by omega)) h)
        refine am_go cd_A_reopen hc_A_reopen 15 2 (pc' := 29) (L' := [some (.ref 0), some (.int (nI 5))]) (st' := [.int 0, .ref 0]) rfl ?_
        refine am_putI 0 10 k_r0 (am_at hc_A_reopen 17 rfl) rfl (by decide) rfl (by decide) k_ok0 (tw 85 rfl rfl) rfl rfl rfl rfl ?_
        refine am_go cd_A_reopen hc_A_reopen 18 1 (pc' := 33) (L' := [some (.ref 0), some (.int (nI 5))]) (st' := [.int 1]) rfl ?_
        exact am_iret (am_at hc_A_reopen 19 rfl) rfl rfl ⟨rfl, rfl, rfl, hA.cl (c := false), hf.tr (fA.u (by decide))⟩
      | succ q ih =>
        intro k d1 hk hA hf
        refine am_go cd_A_reopen hc_A_reopen 7 2 (pc' := 13) (L' := [some (.ref 0), some (.int (nI k))]) (st' := [.int 5, .int (nI k)]) rfl ?_
        refine am_icmp_ge 27 (am_at hc_A_reopen 9 rfl) (by decide) (fun h => absurd h (nI_ge (a := k) (b := 5) (by omega) (by omega))) (fun h => ?_)
        refine am_go cd_A_reopen hc_A_reopen 10 2 (pc' := 18) (L' := [some (.ref 0), some (.int (nI k))]) (st' := [.int (nI k), .ref 0]) rfl ?_
        refine cW.callV (st := []) [.int (nI k)] (am_at hc_A_reopen 12 rfl) g_A_dropBid (Or.inl (tw 126 rfl rfl)) (tw 128 rfl rfl) (tp 0 rfl rfl) 0 k_r0 rfl (by decide) rfl rfl rfl rfl (Nat.le_of_ble_eq_true rfl) (c_A_dropBid hA (by omega)) ?_
        rintro _ d2 ⟨rfl, hA2, hf2⟩
        show cW _ _ (e + 2) _ m_A_reopen 21 [some (.ref 0), some (.int (nI k))] [] _ _
        refine am_go cd_A_reopen hc_A_reopen 13 2 (pc' := 11) (L' := [some (.ref 0), some (.int (nI k + 1))]) (st' := []) rfl ?_
        rw [nI_1]
        refine ih (k + 1) d2 (by omega) ?_ (hf.tr hf2)
        have e1 : updw (fun b => if b < k then (fun _ => 0) else wt b) k (fun _ => 0) = (fun b => if b < (k + 1) then (fun _ => 0) else wt b) := by
          funext b; unfold updw; by_cases z : b = k; · simp [z]
          by_cases z2 : b < k
          · simp [z, z2, show b < k + 1 by omega]
          · simp [z, z2, show ¬ b < k + 1 by omega]
        have e2 : upd (fun b => if b < k then 0 else pt b) k 0 = (fun b => if b < (k + 1) then 0 else pt b) := by
          funext b; unfold upd; by_cases z : b = k; · simp [z]
          by_cases z2 : b < k
          · simp [z, z2, show b < k + 1 by omega]
          · simp [z, z2, show ¬ b < k + 1 by omega]
        rw [e1, e2] at hA2
        exact hA2
    exact loop 5 0 d rfl (by simpa using h) fA.rf
def subA (esc : Nat → Int32) (cl : Bool) (T : Nat → Nat) (n : Nat) (v : Int32) : Int32 := if opB cl v then (match pr_read T n with
  | .inl q => nI q
  | .inr r => if esc (cN v) < zI (r.2 63) then -3 else -1) else -2
def subW (wt : Nat → Nat → Int) (esc : Nat → Int32) (cl : Bool) (T : Nat → Nat) (n : Nat) (v : Int32) : Nat → Nat → Int := if opB cl v then (match pr_read T n with
  | .inl _ => wt
  | .inr r => if esc (cN v) < zI (r.2 63) then wt else updw wt (cN v) r.2) else wt
def subP (pt : Nat → Int32) (esc : Nat → Int32) (cl : Bool) (T : Nat → Nat) (n : Nat) (v : Int32) : Nat → Int32 := if opB cl v then (match pr_read T n with
  | .inl _ => pt
  | .inr r => if esc (cN v) < zI (r.2 63) then pt else upd pt (cN v) (nI r.1)) else pt
theorem pr_read_good (T : Nat → Nat) (n : Nat) : (∀ q, pr_read T n = .inl q → q ≤ n) ∧ ∀ c v, pr_read T n = .inr (c, v) → c ≤ 12 ∧ tb_ok v := by
  have hg := pr_bidk_good (T := T) 8 0 0 (Nat.zero_le n) (by decide)
  unfold pr_read
  generalize pr_bidk T n 8 0 0 = r at hg ⊢
  obtain ⟨q, oo⟩ := r
  cases oo with
  | none => exact ⟨fun q' z => by cases z; exact hg.1, fun c v z => by cases z⟩
  | some r =>
    dsimp only
    split
    · exact ⟨fun q' z => (by cases z), fun c v z => by cases z; exact hg.2 _ _ rfl⟩
    · exact ⟨fun q' z => by cases z; exact hg.1, fun c v z => by cases z⟩
set_option maxHeartbeats 4000000 in
theorem c_A_submit {l : Launch} {x : am_X} {e L : Nat} {d : am_D} {cash esc pd pt ow : Nat → Int32} {res : Nat → Int} {wt : Nat → Nat → Int} {T : Nat → Nat} {n : Nat} {se : Int32} {cl : Bool} (h : RA cash esc pd pt ow res wt T n se cl d) (v : Int32) : cM l x (e + 41) L m_A_submit [.ref 0, .int v] d (fun r d' => r = some (.int (subA esc cl T n v)) ∧ RA cash esc pd (subP pt esc cl T n v) ow res (subW wt esc cl T n v) T (if opB cl v then 0 else n) se cl d' ∧ fA d d') := by
  obtain ⟨h1, h2, h3, h4, h5, h6, h7, h8, h9, h10, h11⟩ := id h
  refine cM.go (by decide) (by simp [Value.category]) (Nat.le_of_ble_eq_true rfl) ?_
  refine am_go cd_A_submit hc_A_submit 0 1 (pc' := 1) (L' := [some (.ref 0), some (.int v), none]) (st' := [.ref 0]) rfl ?_
  refine am_getf 0 10 k_r0 (am_at hc_A_submit 1 rfl) rfl (by decide) rfl (by decide) k_ok0 (Or.inl (tw 85 rfl rfl)) (congrArg Value.int h10) ?_
  cases cl with
  | true =>
    simp only [bI_t]
    refine am_if_ne 14 (am_at hc_A_submit 2 rfl) (by decide) (fun q0 => ?_) (fun q0 => absurd q0 (by decide))
    have hno : ¬ opB true v := fun z => by cases z.1
    simp only [subA, subW, subP, if_neg hno]
    refine am_go cd_A_submit hc_A_submit 6 1 (pc' := 16) (L' := [some (.ref 0), some (.int v), none]) (st' := [.int (-2)]) rfl ?_
    exact am_iret (am_at hc_A_submit 7 rfl) rfl rfl ⟨rfl, rfl, rfl, h, fA.rf⟩
  | false =>
    simp only [bI_f]
    refine am_if_ne 14 (am_at hc_A_submit 2 rfl) (by decide) (fun q0 => absurd rfl q0) (fun q0 => ?_)
    refine am_go cd_A_submit hc_A_submit 3 1 (pc' := 8) (L' := [some (.ref 0), some (.int v), none]) (st' := [.int v]) rfl ?_
    refine cW.callS1 11 [.int (if isB v then 1 else 0)] (st := []) [.int v] (am_at hc_A_submit 4 rfl) g_A_isBidder (Or.inl (tw 113 rfl rfl)) (tw 114 rfl rfl) rfl rfl (Nat.le_of_ble_eq_true rfl) (c_isB v) rfl rfl ?_
    by_cases hb : isB v
    · simp only [if_pos hb]
      refine am_if_ne 17 (am_at hc_A_submit 5 rfl) (by decide) (fun q1 => ?_) (fun q1 => absurd q1 (by decide))
      have hok : opB false v := ⟨rfl, hb⟩
      simp only [subA, subW, subP, if_pos hok]
      obtain ⟨b, hb5, rfl⟩ := isB_of hb
      simp only [nI_cl (show b < 1000000 by omega)]
      refine am_go cd_A_submit hc_A_submit 8 1 (pc' := 18) (L' := [some (.ref 0), some (.int (nI b)), none]) (st' := [.ref 0]) rfl ?_
      refine am_getf 0 7 k_r0 (am_at hc_A_submit 9 rfl) rfl (by decide) rfl (by decide) k_ok0 (Or.inl (tw 82 rfl rfl)) rfl ?_
      refine cW.callV (st := []) [] (am_at hc_A_submit 10 rfl) g_B_read (Or.inl (tw 156 rfl rfl)) (tw 157 rfl rfl) (tw 158 rfl rfl) 1 k_r1 rfl (by decide) rfl rfl rfl rfl (Nat.le_of_ble_eq_true rfl) (c_B_read h8) ?_
      rintro _ d1 ⟨rfl, hF, hv⟩
      show cW _ _ (e + 41) _ m_A_submit 24 [some (.ref 0), some (.int (nI b)), none] [.int (pr_ans (pr_read T n))] _ _
      have hA1 : RA cash esc pd pt ow res wt T n se false d1 := h.off (fun j _ => congrFun (hF.1 0 (by decide) (by decide) (by omega) (by omega)) j) (fun a ha => hF.1 a (by omega) (by omega) (by omega) (by omega)) (hF.2 1 (by decide) (by decide) (by decide))
      have hf1 : fA d d1 := fun a ha => hF.1 a (by omega) (by omega) (by omega) (by omega)
      refine am_go cd_A_submit hc_A_submit 11 2 (pc' := 26) (L' := [some (.ref 0), some (.int (nI b)), some (.int (pr_ans (pr_read T n)))]) (st' := [.ref 0]) rfl ?_
      refine am_getf 0 7 k_r0 (am_at hc_A_submit 13 rfl) rfl (by decide) rfl (by decide) k_ok0 (Or.inl (tw 82 rfl rfl)) rfl ?_
      refine cW.callV1 32 [] (st := []) [] (am_at hc_A_submit 14 rfl) g_B_empty (Or.inl (tw 226 rfl rfl)) (tw 227 rfl rfl) (tw 228 rfl rfl) 1 k_r1 rfl (by decide) rfl rfl rfl rfl (Nat.le_of_ble_eq_true rfl) c_B_empty rfl rfl ?_
      have hA2 := hA1.n0
      have hf2 : fA d (am_u d1 13 1 0) := hf1.tr (fA.u (by decide))
      obtain ⟨gd1, gd2⟩ := pr_read_good T n
      have hn40 := h8.2.1
      refine am_go cd_A_submit hc_A_submit 15 2 (pc' := 34) (L' := [some (.ref 0), some (.int (nI b)), some (.int (pr_ans (pr_read T n)))]) (st' := [.int (-1), .int (pr_ans (pr_read T n))]) rfl ?_
      generalize hR : pr_read T n = R at hv gd1 gd2 ⊢
      cases R with
      | inl q =>
        have hq := gd1 q rfl
        show cW _ _ _ _ m_A_submit 34 [some (.ref 0), some (.int (nI b)), some (.int (nI q))] [.int (-1), .int (nI q)] _ _
        refine am_icmp_eq 39 (am_at hc_A_submit 17 rfl) (by decide) (fun q3 => absurd q3 (fun z => absurd (show nI q < 0 by rw [z]; decide) (nI_pos (by omega)))) (fun q3 => ?_)
        refine am_go cd_A_submit hc_A_submit 18 1 (pc' := 38) (L' := [some (.ref 0), some (.int (nI b)), some (.int (nI q))]) (st' := [.int (nI q)]) rfl ?_
        exact am_iret (am_at hc_A_submit 19 rfl) rfl rfl ⟨rfl, rfl, rfl, hA2, hf2⟩
      | inr r =>
        obtain ⟨c, tb⟩ := r
        obtain ⟨g1, g2⟩ := gd2 c tb rfl
        obtain ⟨v1, v2⟩ := hv c tb rfl
        show cW _ _ _ _ m_A_submit 34 [some (.ref 0), some (.int (nI b)), some (.int (-1))] [.int (-1), .int (-1)] _ _
        refine am_icmp_eq 39 (am_at hc_A_submit 17 rfl) (by decide) (fun q3 => ?_) (fun q3 => absurd rfl q3)
        refine am_go cd_A_submit hc_A_submit 20 1 (pc' := 40) (L' := [some (.ref 0), some (.int (nI b)), some (.int (-1))]) (st' := [.ref 0]) rfl ?_
        refine am_getf 0 7 k_r0 (am_at hc_A_submit 21 rfl) rfl (by decide) rfl (by decide) k_ok0 (Or.inl (tw 82 rfl rfl)) rfl ?_
        refine am_getf 1 5 k_r1 (am_at hc_A_submit 22 rfl) rfl (by decide) rfl (by decide) k_ok1 (Or.inr ⟨_, tn 32 rfl rfl⟩) rfl ?_
        refine am_go cd_A_submit hc_A_submit 23 1 (pc' := 48) (L' := [some (.ref 0), some (.int (nI b)), some (.int (-1))]) (st' := [.int 63, .ref 15]) rfl ?_
        refine am_iaload (63) (am_at hc_A_submit 24 rfl) rfl (Or.inl (by decide)) rfl (Nat.le_of_ble_eq_true rfl) (Nat.le_of_ble_eq_true rfl) ?_
        rw [show am_u d1 13 1 0 15 63 = zI (tb 63) from (congrFun (am_u_ne 15 (by decide)) 63).trans (v2 63 (by decide))]
        refine am_go cd_A_submit hc_A_submit 25 1 (pc' := 50) (L' := [some (.ref 0), some (.int (nI b)), some (.int (-1))]) (st' := [.ref 0, .int (zI (tb 63))]) rfl ?_
        refine am_getf 0 1 k_r0 (am_at hc_A_submit 26 rfl) rfl (by decide) rfl (by decide) k_ok0 (Or.inl (tw 76 rfl rfl)) rfl ?_
        refine am_go cd_A_submit hc_A_submit 27 1 (pc' := 54) (L' := [some (.ref 0), some (.int (nI b)), some (.int (-1))]) (st' := [.int (nI b), .ref 2, .int (zI (tb 63))]) rfl ?_
        refine am_iaload (b) (am_at hc_A_submit 28 rfl) rfl (Or.inl (by decide)) rfl (by show b < 5; omega) (Nat.le_of_ble_eq_true rfl) ?_
        rw [show am_u d1 13 1 0 2 b = esc b from hA2.2.1 b hb5]
        refine am_icmp_le 61 (am_at hc_A_submit 29 rfl) (by decide) (fun q4 => ?_) (fun q4 => ?_)
        · have hno : ¬ esc b < zI (tb 63) := Int32.not_lt.mpr q4
          simp only [if_neg hno]
          have hsh := SH_w L b hb5
          refine am_go cd_A_submit hc_A_submit 32 1 (pc' := 62) (L' := [some (.ref 0), some (.int (nI b)), some (.int (-1))]) (st' := [.ref 0]) rfl ?_
          refine am_getf 0 7 k_r0 (am_at hc_A_submit 33 rfl) rfl (by decide) rfl (by decide) k_ok0 (Or.inl (tw 82 rfl rfl)) rfl ?_
          refine am_getf 1 5 k_r1 (am_at hc_A_submit 34 rfl) rfl (by decide) rfl (by decide) k_ok1 (Or.inr ⟨_, tn 32 rfl rfl⟩) rfl ?_
          refine am_go cd_A_submit hc_A_submit 35 2 (pc' := 70) (L' := [some (.ref 0), some (.int (nI b)), some (.int (-1))]) (st' := [.ref 0, .int 0, .ref 15]) rfl ?_
          refine am_getf 0 6 k_r0 (am_at hc_A_submit 37 rfl) rfl (by decide) rfl (by decide) k_ok0 (Or.inl (tw 81 rfl rfl)) rfl ?_
          refine am_go cd_A_submit hc_A_submit 38 1 (pc' := 74) (L' := [some (.ref 0), some (.int (nI b)), some (.int (-1))]) (st' := [.int (nI b), .ref 7, .int 0, .ref 15]) rfl ?_
          refine am_aaload (b) (8 + b) (am_at hc_A_submit 39 rfl) rfl (by decide) rfl (by show b < 5; omega) (Nat.le_of_ble_eq_true rfl) (if_pos hb5) ?_
          refine am_go cd_A_submit hc_A_submit 40 2 (pc' := 78) (L' := [some (.ref 0), some (.int (nI b)), some (.int (-1))]) (st' := [.int 64, .int 0, .ref (8 + b), .int 0, .ref 15]) rfl ?_
          refine am_copy 64 (am_at hc_A_submit 42 rfl) (tw 230 rfl rfl) (tw 220 rfl rfl) (tw 219 rfl rfl) (tw 7 rfl rfl) rfl (by rw [hsh]) (by decide) (by omega) rfl (Nat.le_of_ble_eq_true rfl) (by rw [hsh]; decide) (by decide) (Nat.le_of_ble_eq_true rfl) ?_
          rw [am_cp_tb]
          refine am_go cd_A_submit hc_A_submit 43 1 (pc' := 82) (L' := [some (.ref 0), some (.int (nI b)), some (.int (-1))]) (st' := [.ref 0]) rfl ?_
          refine am_getf 0 5 k_r0 (am_at hc_A_submit 44 rfl) rfl (by decide) rfl (by decide) k_ok0 (Or.inl (tw 80 rfl rfl)) rfl ?_
          refine am_go cd_A_submit hc_A_submit 45 2 (pc' := 87) (L' := [some (.ref 0), some (.int (nI b)), some (.int (-1))]) (st' := [.ref 0, .int (nI b), .ref 6]) rfl ?_
          refine am_getf 0 7 k_r0 (am_at hc_A_submit 47 rfl) rfl (by decide) rfl (by decide) k_ok0 (Or.inl (tw 82 rfl rfl)) rfl ?_
          refine am_getf 1 4 k_r1 (am_at hc_A_submit 48 rfl) rfl (by decide) rfl (by decide) k_ok1 (Or.inr ⟨_, tn 30 rfl rfl⟩) (congrArg Value.int ((congrFun (am_tb_ne (by omega)) 4).trans ((am_u_o (by decide)).trans v1))) ?_
          refine am_iastore (b) (am_at hc_A_submit 49 rfl) rfl (by decide) rfl (by show b < 5; omega) (Nat.le_of_ble_eq_true rfl) ?_
          refine am_go cd_A_submit hc_A_submit 50 1 (pc' := 95) (L' := [some (.ref 0), some (.int (nI b)), some (.int (-1))]) (st' := [.int (-1)]) rfl ?_
          exact am_iret (am_at hc_A_submit 51 rfl) rfl rfl ⟨rfl, rfl, rfl, (hA2.wt hb5 g2 (fun s hs => (congrFun (am_u_ne 15 (by decide)) s).trans (v2 s hs))).pt, (hf2.tr (fA.t (by omega))).tr (fA.u (by decide))⟩
        · have hyes : esc b < zI (tb 63) := Int32.not_le.mp q4
          simp only [if_pos hyes]
          refine am_go cd_A_submit hc_A_submit 30 1 (pc' := 60) (L' := [some (.ref 0), some (.int (nI b)), some (.int (-1))]) (st' := [.int (-3)]) rfl ?_
          exact am_iret (am_at hc_A_submit 31 rfl) rfl rfl ⟨rfl, rfl, rfl, hA2, hf2⟩
    · simp only [if_neg hb]
      refine am_if_ne 17 (am_at hc_A_submit 5 rfl) (by decide) (fun q1 => absurd rfl q1) (fun q1 => ?_)
      have hno : ¬ opB false v := fun z => hb z.2
      simp only [subA, subW, subP, if_neg hno]
      refine am_go cd_A_submit hc_A_submit 6 1 (pc' := 16) (L' := [some (.ref 0), some (.int v), none]) (st' := [.int (-2)]) rfl ?_
      exact am_iret (am_at hc_A_submit 7 rfl) rfl rfl ⟨rfl, rfl, rfl, h, fA.rf⟩
def wf (wt : Nat → Nat → Int) (res : Nat → Int) (lo : Int) : Int := (gs wt res lo 5 63 + 46655) / 46656
theorem gs63 {wt : Nat → Nat → Int} {res : Nat → Int} (hwt : ∀ b, b < 5 → tb_ok (wt b)) (hres : ∀ j, j < 6 → 0 ≤ res j ∧ res j ≤ 999) (lo : Int) : 0 ≤ gs wt res lo 5 63 ∧ gs wt res lo 5 63 ≤ 279656064 := by
  have := gs_b hwt hres lo 5 (by decide) 63 (by decide)
  have e : pcn 63 = 6 := rfl
  rw [e] at this; omega
set_option maxHeartbeats 4000000 in
theorem c_A_welfare {l : Launch} {x : am_X} {e L : Nat} {d : am_D} {cash esc pd pt ow : Nat → Int32} {res : Nat → Int} {wt : Nat → Nat → Int} {T : Nat → Nat} {n : Nat} {se : Int32} {cl : Bool} (h : RA cash esc pd pt ow res wt T n se cl d) (v : Int32) : cM l x (e + 3) L m_A_welfare [.ref 0, .int v] d (fun r d' => r = some (.int (if v = -1 ∨ isB v then zI (wf wt res v.toInt) else -2)) ∧ RA cash esc pd pt ow res wt T n se cl d' ∧ fA d d') := by
  obtain ⟨h1, h2, h3, h4, h5, h6, h7, h8, h9, h10, h11⟩ := id h
  refine cM.go (by decide) (by simp [Value.category]) (Nat.le_of_ble_eq_true rfl) ?_
  have hwt : ∀ b, b < 5 → tb_ok (wt b) := fun b hb => (h7 b hb).1
  have hres : ∀ j, j < 6 → 0 ≤ res j ∧ res j ≤ 999 := fun j hj => (h6 j hj).2
  have main : -1 ≤ v.toInt → v.toInt ≤ 4 → cW l x (e + 3) L m_A_welfare 15 [some (.ref 0), some (.int v)] [] d (fun r d' => r = some (.int (zI (wf wt res v.toInt))) ∧ RA cash esc pd pt ow res wt T n se cl d' ∧ fA d d') := by
    intro g1 g2
    generalize hz : v.toInt = z at g1 g2 ⊢
    have hv : v = zI z := by rw [← hz]; exact zI_of v
    subst hv
    refine am_go cd_A_welfare hc_A_welfare 8 1 (pc' := 16) (L' := [some (.ref 0), some (.int (zI z))]) (st' := [.ref 0]) rfl ?_
    refine am_getf 0 8 k_r0 (am_at hc_A_welfare 9 rfl) rfl (by decide) rfl (by decide) k_ok0 (Or.inl (tw 83 rfl rfl)) rfl ?_
    refine am_go cd_A_welfare hc_A_welfare 10 1 (pc' := 20) (L' := [some (.ref 0), some (.int (zI z))]) (st' := [.ref 0, .ref 36]) rfl ?_
    refine am_getf 0 6 k_r0 (am_at hc_A_welfare 11 rfl) rfl (by decide) rfl (by decide) k_ok0 (Or.inl (tw 81 rfl rfl)) rfl ?_
    refine am_go cd_A_welfare hc_A_welfare 12 1 (pc' := 24) (L' := [some (.ref 0), some (.int (zI z))]) (st' := [.ref 0, .ref 7, .ref 36]) rfl ?_
    refine am_getf 0 2 k_r0 (am_at hc_A_welfare 13 rfl) rfl (by decide) rfl (by decide) k_ok0 (Or.inl (tw 77 rfl rfl)) rfl ?_
    refine am_go cd_A_welfare hc_A_welfare 14 1 (pc' := 28) (L' := [some (.ref 0), some (.int (zI z))]) (st' := [.int (zI z), .ref 3, .ref 7, .ref 36]) rfl ?_
    refine cW.callV (st := []) [.ref 7, .ref 3, .int (zI z)] (am_at hc_A_welfare 15 rfl) g_S_greatestScore (Or.inl (tw 243 rfl rfl)) (tw 244 rfl rfl) (tw 245 rfl rfl) 2 k_r2 rfl (by decide) rfl rfl rfl rfl (Nat.le_of_ble_eq_true rfl) (c_S_greatestScore wt res (z) (by omega) (by omega) (fun b hb s hs => ((h).2.2.2.2.2.2.1 b hb).2 s hs) (fun b hb => ((h).2.2.2.2.2.2.1 b hb).1) (fun j hj => ((h).2.2.2.2.2.1 j hj).1) (fun j hj => ((h).2.2.2.2.2.1 j hj).2) (h).2.2.2.2.2.2.2.2.2.2) ?_
    rintro _ d1 ⟨rfl, ho⟩
    show cW _ _ (e + 3) _ m_A_welfare 31 [some (.ref 0), some (.int (zI z))] [.int (zI (gs wt res (z) 5 63))] _ _
    have hb := gs63 hwt hres z
    refine cW.callS1 34 [.int (zI ((gs wt res z 5 63 + 46655) / 46656))] (st := []) [.int (zI (gs wt res (z) 5 63))] (am_at hc_A_welfare 16 rfl) g_S_welfareIn (Or.inl (tw 253 rfl rfl)) (tw 254 rfl rfl) rfl rfl (Nat.le_of_ble_eq_true rfl) (c_S_welfareIn (gs wt res z 5 63) (by omega) (by omega)) rfl rfl ?_
    exact am_iret (am_at hc_A_welfare 17 rfl) rfl rfl ⟨rfl, rfl, rfl, h.off (fun j _ => congrFun (ho 0 (by decide) (by decide)) j) (fun a ha => ho a (by omega) (by omega)) (congrFun (ho 13 (by decide) (by decide)) 1), fun a ha => ho a (by omega) (by omega)⟩
  refine am_go cd_A_welfare hc_A_welfare 0 2 (pc' := 2) (L' := [some (.ref 0), some (.int v)]) (st' := [.int (-1), .int v]) rfl ?_
  refine am_icmp_eq 15 (am_at hc_A_welfare 2 rfl) (by decide) (fun q1 => ?_) (fun q1 => ?_)
  · have hok : v = -1 ∨ isB v := Or.inl q1
    simp only [if_pos hok]
    have e1 : v.toInt = -1 := by rw [q1]; rfl
    exact main (by omega) (by omega)
  · skip
    refine am_go cd_A_welfare hc_A_welfare 3 1 (pc' := 6) (L' := [some (.ref 0), some (.int v)]) (st' := [.int v]) rfl ?_
    refine cW.callS1 9 [.int (if isB v then 1 else 0)] (st := []) [.int v] (am_at hc_A_welfare 4 rfl) g_A_isBidder (Or.inl (tw 113 rfl rfl)) (tw 114 rfl rfl) rfl rfl (Nat.le_of_ble_eq_true rfl) (c_isB v) rfl rfl ?_
    by_cases hb : isB v
    · simp only [if_pos hb]
      have hok : v = -1 ∨ isB v := Or.inr hb
      simp only [if_pos hok]
      refine am_if_ne 15 (am_at hc_A_welfare 5 rfl) (by decide) (fun q2 => ?_) (fun q2 => absurd q2 (by decide))
      have e1 : 0 ≤ v.toInt := by have := Int32.le_iff_toInt_le.mp hb.1; simpa using this
      have e2 : v.toInt < 5 := by have := Int32.lt_iff_toInt_lt.mp hb.2; exact this
      exact main (by omega) (by omega)
    · simp only [if_neg hb]
      have hno : ¬ (v = -1 ∨ isB v) := fun z => z.elim q1 hb
      simp only [if_neg hno]
      refine am_if_ne 15 (am_at hc_A_welfare 5 rfl) (by decide) (fun q2 => absurd rfl q2) (fun q2 => ?_)
      refine am_go cd_A_welfare hc_A_welfare 6 1 (pc' := 14) (L' := [some (.ref 0), some (.int v)]) (st' := [.int (-2)]) rfl ?_
      exact am_iret (am_at hc_A_welfare 7 rfl) rfl rfl ⟨rfl, rfl, rfl, h, fA.rf⟩
