set_option maxHeartbeats 4000000 in
theorem c_M_welfare {l : Launch} {x : am_X} {e L : Nat} {d : am_D} {cash esc pd pt ow : Nat → Int32} {res : Nat → Int} {wt : Nat → Nat → Int} {T : Nat → Nat} {n : Nat} {se : Int32} {cl : Bool} (h : RM cash esc pd pt ow res wt T n se cl d) (v : Int32) : cM l x (e + 2) L m_M_welfare [.ref 40, .int v] d (fun r d' => r = some (.int (if v = -1 ∨ isB v then zI (wf wt res v.toInt) else -2)) ∧ RM cash esc pd pt ow res wt T n se cl d' ∧ fM d d') := by
  obtain ⟨h1, h2, h3, h4, h5, h6, h7, h8, h9, h10⟩ := id h
  have hwt : ∀ b, b < 5 → tb_ok (wt b) := fun b hb => (h7 b hb).1
  have hres : ∀ j, j < 6 → 0 ≤ res j ∧ res j ≤ 999 := fun j hj => (h6 j hj).2
  refine cM.go (by decide) (by simp [Value.category]) (Nat.le_of_ble_eq_true rfl) ?_
  have main : -1 ≤ v.toInt → v.toInt ≤ 4 → cW l x (e + 2) L m_M_welfare 15 [some (.ref 40), some (.int v), none] [] d (fun r d' => r = some (.int (zI (wf wt res v.toInt))) ∧ RM cash esc pd pt ow res wt T n se cl d' ∧ fM d d') := by
    intro g1 g2
    generalize hz : v.toInt = z at g1 g2 ⊢
    have hv : v = zI z := by rw [← hz]; exact zI_of v
    subst hv
    have hbe := best_eq hwt hres z
    refine am_go cd_M_welfare hc_M_welfare 8 2 (pc' := 17) (L' := [some (.ref 40), some (.int (zI z)), none]) (st' := [.int (zI z), .ref 40]) rfl ?_
    refine cW.callV (st := []) [.int (zI z)] (am_at hc_M_welfare 10 rfl) g_M_bestOf (Or.inl (tw 445 rfl rfl)) (tw 447 rfl rfl) (tp 28 rfl rfl) 3 k_r3 rfl (by decide) rfl rfl rfl rfl (Nat.le_of_ble_eq_true rfl) (c_M_bestOf h g1 g2) ?_
    rintro _ d1 ⟨rfl, hR, hf⟩
    show cW _ _ (e + 2) _ m_M_welfare 20 [some (.ref 40), some (.int (zI z)), none] [.int (nI (bo wt res z 46656).2)] _ _
    refine am_go cd_M_welfare hc_M_welfare 11 4 (pc' := 24) (L' := [some (.ref 40), some (.int (zI z)), some (.int (nI (bo wt res z 46656).2))]) (st' := [.int (zI z), .int (nI (bo wt res z 46656).2), .ref 40]) rfl ?_
    refine cW.callV (st := []) [.int (nI (bo wt res z 46656).2), .int (zI z)] (am_at hc_M_welfare 15 rfl) g_M_welfareOf (Or.inl (tw 450 rfl rfl)) (tw 452 rfl rfl) (tp 29 rfl rfl) 3 k_r3 rfl (by decide) rfl rfl rfl rfl (Nat.le_of_ble_eq_true rfl) (c_M_welfareOf hR hbe.2.2 g1 g2) ?_
    rintro _ d2 ⟨rfl, hR2, hf2, -⟩
    show cW _ _ (e + 2) _ m_M_welfare 27 [some (.ref 40), some (.int (zI z)), some (.int (nI (bo wt res z 46656).2))] [.int (zI (wof wt res z (bo wt res z 46656).2))] _ _
    exact am_iret (am_at hc_M_welfare 16 rfl) rfl rfl ⟨rfl, rfl, by rw [hbe.1], hR2, hf.tr hf2⟩
  refine am_go cd_M_welfare hc_M_welfare 0 2 (pc' := 2) (L' := [some (.ref 40), some (.int v), none]) (st' := [.int (-1), .int v]) rfl ?_
  refine am_icmp_eq 15 (am_at hc_M_welfare 2 rfl) (by decide) (fun q1 => ?_) (fun q1 => ?_)
  · have hok : v = -1 ∨ isB v := Or.inl q1
    simp only [if_pos hok]
    have e1 : v.toInt = -1 := by rw [q1]; rfl
    exact main (by omega) (by omega)
  · skip
    refine am_go cd_M_welfare hc_M_welfare 3 1 (pc' := 6) (L' := [some (.ref 40), some (.int v), none]) (st' := [.int v]) rfl ?_
    refine cW.callS1 9 [.int (if isB v then 1 else 0)] (st := []) [.int v] (am_at hc_M_welfare 4 rfl) g_M_bidder (Or.inl (tw 368 rfl rfl)) (tw 369 rfl rfl) rfl rfl (Nat.le_of_ble_eq_true rfl) (c_mB v) rfl rfl ?_
    by_cases hb : isB v
    · simp only [if_pos hb]
      have hok : v = -1 ∨ isB v := Or.inr hb
      simp only [if_pos hok]
      refine am_if_ne 15 (am_at hc_M_welfare 5 rfl) (by decide) (fun q2 => ?_) (fun q2 => absurd q2 (by decide))
      have e1 : 0 ≤ v.toInt := by have := Int32.le_iff_toInt_le.mp hb.1; simpa using this
      have e2 : v.toInt < 5 := by have := Int32.lt_iff_toInt_lt.mp hb.2; exact this
      exact main (by omega) (by omega)
    · simp only [if_neg hb]
      have hno : ¬ (v = -1 ∨ isB v) := fun z => z.elim q1 hb
      simp only [if_neg hno]
      refine am_if_ne 15 (am_at hc_M_welfare 5 rfl) (by decide) (fun q2 => absurd rfl q2) (fun q2 => ?_)
      refine am_go cd_M_welfare hc_M_welfare 6 1 (pc' := 14) (L' := [some (.ref 40), some (.int v), none]) (st' := [.int (-2)]) rfl ?_
      exact am_iret (am_at hc_M_welfare 7 rfl) rfl rfl ⟨rfl, rfl, rfl, h, fM.rf⟩
set_option maxHeartbeats 4000000 in
theorem c_M_close {l : Launch} {x : am_X} {e L : Nat} {d : am_D} {cash esc pd pt ow : Nat → Int32} {res : Nat → Int} {wt : Nat → Nat → Int} {T : Nat → Nat} {n : Nat} {se : Int32} {cl : Bool} (h : RM cash esc pd pt ow res wt T n se cl d) : cM l x (e + 3) L m_M_close [.ref 40] d (fun r d' => r = some (.int (if cl = false then zI (wf wt res (-1)) else -2)) ∧ RM (if cl = false then fun b => if b < 5 then cash b + (esc b - bpay wt res b) else cash b else cash) (if cl = false then fun b => if b < 5 then 0 else esc b else esc) (if cl = false then fun b => if b < 5 then bpay wt res b else pd b else pd) pt (if cl = false then bow wt res else ow) res wt T n (if cl = false then pays (bpay wt res) se 5 else se) true d' ∧ fM d d') := by
  obtain ⟨h1, h2, h3, h4, h5, h6, h7, h8, h9, h10⟩ := id h
  have hwt : ∀ b, b < 5 → tb_ok (wt b) := fun b hb => (h7 b hb).1
  have hres : ∀ j, j < 6 → 0 ≤ res j ∧ res j ≤ 999 := fun j hj => (h6 j hj).2
  refine cM.go (by decide) (by simp [Value.category]) (Nat.le_of_ble_eq_true rfl) ?_
  refine am_go cd_M_close hc_M_close 0 1 (pc' := 1) (L' := [some (.ref 40), none, none, none, none]) (st' := [.ref 40]) rfl ?_
  refine am_getf 3 0 k_r3 (am_at hc_M_close 1 rfl) rfl (by decide) rfl (by decide) k_ok3 (Or.inl (tw 306 rfl rfl)) (congrArg Value.int h10) ?_
  cases cl with
  | true =>
    simp only [bI_t]
    simp only [Bool.true_eq_false, if_false]
    refine am_if_eq 10 (am_at hc_M_close 2 rfl) (by decide) (fun q0 => absurd q0 (by decide)) (fun q0 => ?_)
    refine am_go cd_M_close hc_M_close 3 1 (pc' := 9) (L' := [some (.ref 40), none, none, none, none]) (st' := [.int (-2)]) rfl ?_
    exact am_iret (am_at hc_M_close 4 rfl) rfl rfl ⟨rfl, rfl, rfl, h, fM.rf⟩
  | false =>
    simp only [bI_f]
    simp only [if_true]
    refine am_if_eq 10 (am_at hc_M_close 2 rfl) (by decide) (fun q0 => ?_) (fun q0 => absurd rfl q0)
    refine am_go cd_M_close hc_M_close 5 2 (pc' := 12) (L' := [some (.ref 40), none, none, none, none]) (st' := [.int 1, .ref 40]) rfl ?_
    refine am_putI 3 0 k_r3 (am_at hc_M_close 7 rfl) rfl (by decide) rfl (by decide) k_ok3 (tw 306 rfl rfl) rfl rfl rfl rfl ?_
    have hR0 : RM cash esc pd pt ow res wt T n se true (am_u d 40 0 1) := h.cl (c := true)
    have hf0 : fM d (am_u d 40 0 1) := fM.u (by decide)
    generalize am_u d 40 0 1 = d0 at hR0 hf0 ⊢
    have hbe := best_eq hwt hres (-1)
    have hbs := best_bst hwt hres
    rw [hbs] at hbe
    refine am_go cd_M_close hc_M_close 8 2 (pc' := 17) (L' := [some (.ref 40), none, none, none, none]) (st' := [.int (-1), .ref 40]) rfl ?_
    refine cW.callV (st := []) [.int (-1)] (am_at hc_M_close 10 rfl) g_M_bestOf (Or.inl (tw 445 rfl rfl)) (tw 447 rfl rfl) (tp 28 rfl rfl) 3 k_r3 rfl (by decide) rfl rfl rfl rfl (Nat.le_of_ble_eq_true rfl) (c_M_bestOf hR0 (lo := -1) (by decide) (by decide)) ?_
    rintro _ d1 ⟨rfl, hR1, hf1⟩
    rw [hbs]
    show cW _ _ (e + 3) _ m_M_close 20 [some (.ref 40), none, none, none, none] [.int (nI (bst wt res))] _ _
    refine am_go cd_M_close hc_M_close 11 4 (pc' := 24) (L' := [some (.ref 40), some (.int (nI (bst wt res))), none, none, none]) (st' := [.int (-1), .int (nI (bst wt res)), .ref 40]) rfl ?_
    refine cW.callV (st := []) [.int (nI (bst wt res)), .int (-1)] (am_at hc_M_close 15 rfl) g_M_welfareOf (Or.inl (tw 450 rfl rfl)) (tw 452 rfl rfl) (tp 29 rfl rfl) 3 k_r3 rfl (by decide) rfl rfl rfl rfl (Nat.le_of_ble_eq_true rfl) (c_M_welfareOf hR1 hbe.2.2 (lo := -1) (by decide) (by decide)) ?_
    rintro _ d2 ⟨rfl, hR2, hf2, -⟩
    rw [hbe.1]
    show cW _ _ (e + 3) _ m_M_close 27 [some (.ref 40), some (.int (nI (bst wt res))), none, none, none] [.int (zI (wf wt res (-1)))] _ _
    refine am_go cd_M_close hc_M_close 16 3 (pc' := 30) (L' := [some (.ref 40), some (.int (nI (bst wt res))), some (.int (zI (wf wt res (-1)))), some (.int 0), none]) (st' := []) rfl ?_
    have loop3 : ∀ q k d3, k + q = 5 → RM (fun b => if b < k then cash b + (esc b - bpay wt res b) else cash b) (fun b => if b < k then 0 else esc b) (fun b => if b < 5 then bpay wt res b else pd b) pt (bow wt res) res wt T n (pays (bpay wt res) se k) true d3 → fM d d3 → cW l x (e + 3) L m_M_close 119 [some (.ref 40), some (.int (nI (bst wt res))), some (.int (zI (wf wt res (-1)))), none, some (.int (nI k))] [] d3 (fun r d' => r = some (.int (zI (wf wt res (-1)))) ∧ RM (fun b => if b < 5 then cash b + (esc b - bpay wt res b) else cash b) (fun b => if b < 5 then 0 else esc b) (fun b => if b < 5 then bpay wt res b else pd b) pt (bow wt res) res wt T n (pays (bpay wt res) se 5) true d' ∧ fM d d') := by
      intro q
      induction q with
      | zero =>
        intro k d3 hk hA3 hf3
        have hk5 : k = 5 := by omega
        subst hk5
        refine am_go cd_M_close hc_M_close 75 2 (pc' := 122) (L' := [some (.ref 40), some (.int (nI (bst wt res))), some (.int (zI (wf wt res (-1)))), none, some (.int (nI 5))]) (st' := [.int 5, .int (nI 5)]) rfl ?_
        refine am_icmp_ge 180 (am_at hc_M_close 77 rfl) (by decide) (fun q1 => ?_) (fun q1 => absurd (nI_le (a := 5) (b := 5) (by omega) (by omega)) q1)
        refine am_go cd_M_close hc_M_close 110 1 (pc' := 181) (L' := [some (.ref 40), some (.int (nI (bst wt res))), some (.int (zI (wf wt res (-1)))), none, some (.int (nI 5))]) (st' := [.int (zI (wf wt res (-1)))]) rfl ?_
        exact am_iret (am_at hc_M_close 111 rfl) rfl rfl ⟨rfl, rfl, rfl, hA3, hf3⟩
      | succ q ih =>
        intro k d3 hk hA3 hf3
        refine am_go cd_M_close hc_M_close 75 2 (pc' := 122) (L' := [some (.ref 40), some (.int (nI (bst wt res))), some (.int (zI (wf wt res (-1)))), none, some (.int (nI k))]) (st' := [.int 5, .int (nI k)]) rfl ?_
        refine am_icmp_ge 180 (am_at hc_M_close 77 rfl) (by decide) (fun q1 => absurd q1 (nI_ge (a := k) (b := 5) (by omega) (by omega))) (fun q1 => ?_)
        have hp5 : d3 52 k = bpay wt res k := (hA3.2.2.1 k (by omega)).trans (if_pos (by omega))
        have hc5 : d3 41 k = cash k := (hA3.1 k (by omega)).trans (if_neg (by omega))
        have he5 : d3 42 k = esc k := (hA3.2.1 k (by omega)).trans (if_neg (by omega))
        refine am_go cd_M_close hc_M_close 78 2 (pc' := 127) (L' := [some (.ref 40), some (.int (nI (bst wt res))), some (.int (zI (wf wt res (-1)))), none, some (.int (nI k))]) (st' := [.ref 40, .ref 40]) rfl ?_
        refine am_getf 3 3 k_r3 (am_at hc_M_close 80 rfl) rfl (by decide) rfl (by decide) k_ok3 (Or.inl (tw 309 rfl rfl)) (congrArg Value.int hA3.2.2.2.2.2.2.2.2.1) ?_
        refine am_go cd_M_close hc_M_close 81 1 (pc' := 131) (L' := [some (.ref 40), some (.int (nI (bst wt res))), some (.int (zI (wf wt res (-1)))), none, some (.int (nI k))]) (st' := [.ref 40, .int (pays (bpay wt res) se k), .ref 40]) rfl ?_
        refine am_getf 3 18 k_r3 (am_at hc_M_close 82 rfl) rfl (by decide) rfl (by decide) k_ok3 (Or.inl (tw 324 rfl rfl)) rfl ?_
        refine am_go cd_M_close hc_M_close 83 1 (pc' := 136) (L' := [some (.ref 40), some (.int (nI (bst wt res))), some (.int (zI (wf wt res (-1)))), none, some (.int (nI k))]) (st' := [.int (nI k), .ref 52, .int (pays (bpay wt res) se k), .ref 40]) rfl ?_
        refine am_iaload (k) (am_at hc_M_close 84 rfl) rfl (Or.inl (by decide)) rfl (by show k < 5; omega) (Nat.le_of_ble_eq_true rfl) ?_
        rw [show d3 52 k = bpay wt res k from hp5]
        refine am_go cd_M_close hc_M_close 85 1 (pc' := 138) (L' := [some (.ref 40), some (.int (nI (bst wt res))), some (.int (zI (wf wt res (-1)))), none, some (.int (nI k))]) (st' := [.int (pays (bpay wt res) se k + bpay wt res k), .ref 40]) rfl ?_
        refine am_putI 3 3 k_r3 (am_at hc_M_close 86 rfl) rfl (by decide) rfl (by decide) k_ok3 (tw 309 rfl rfl) rfl rfl rfl rfl ?_
        have hA4 := hA3.se (v := pays (bpay wt res) se k + bpay wt res k)
        generalize hd4 : am_u d3 40 3 (pays (bpay wt res) se k + bpay wt res k) = d4 at hA4 ⊢
        have hf4 : fM d d4 := by rw [← hd4]; exact hf3.tr (fM.u (by decide))
        have k52 : d4 52 = d3 52 := by rw [← hd4]; exact am_u_ne 52 (by decide)
        have k41 : d4 41 = d3 41 := by rw [← hd4]; exact am_u_ne 41 (by decide)
        have k42 : d4 42 = d3 42 := by rw [← hd4]; exact am_u_ne 42 (by decide)
        refine am_go cd_M_close hc_M_close 87 1 (pc' := 142) (L' := [some (.ref 40), some (.int (nI (bst wt res))), some (.int (zI (wf wt res (-1)))), none, some (.int (nI k))]) (st' := [.ref 40]) rfl ?_
        refine am_getf 3 1 k_r3 (am_at hc_M_close 88 rfl) rfl (by decide) rfl (by decide) k_ok3 (Or.inl (tw 307 rfl rfl)) rfl ?_
        refine am_go cd_M_close hc_M_close 89 2 (pc' := 148) (L' := [some (.ref 40), some (.int (nI (bst wt res))), some (.int (zI (wf wt res (-1)))), none, some (.int (nI k))]) (st' := [.int (nI k), .ref 41, .int (nI k), .ref 41]) rfl ?_
        refine am_iaload (k) (am_at hc_M_close 91 rfl) rfl (Or.inl (by decide)) rfl (by show k < 5; omega) (Nat.le_of_ble_eq_true rfl) ?_
        rw [show d4 41 k = cash k from by rw [k41]; exact hc5]
        refine am_go cd_M_close hc_M_close 92 1 (pc' := 150) (L' := [some (.ref 40), some (.int (nI (bst wt res))), some (.int (zI (wf wt res (-1)))), none, some (.int (nI k))]) (st' := [.ref 40, .int (cash k), .int (nI k), .ref 41]) rfl ?_
        refine am_getf 3 2 k_r3 (am_at hc_M_close 93 rfl) rfl (by decide) rfl (by decide) k_ok3 (Or.inl (tw 308 rfl rfl)) rfl ?_
        refine am_go cd_M_close hc_M_close 94 1 (pc' := 155) (L' := [some (.ref 40), some (.int (nI (bst wt res))), some (.int (zI (wf wt res (-1)))), none, some (.int (nI k))]) (st' := [.int (nI k), .ref 42, .int (cash k), .int (nI k), .ref 41]) rfl ?_
        refine am_iaload (k) (am_at hc_M_close 95 rfl) rfl (Or.inl (by decide)) rfl (by show k < 5; omega) (Nat.le_of_ble_eq_true rfl) ?_
        rw [show d4 42 k = esc k from by rw [k42]; exact he5]
        refine am_go cd_M_close hc_M_close 96 1 (pc' := 157) (L' := [some (.ref 40), some (.int (nI (bst wt res))), some (.int (zI (wf wt res (-1)))), none, some (.int (nI k))]) (st' := [.ref 40, .int (esc k), .int (cash k), .int (nI k), .ref 41]) rfl ?_
        refine am_getf 3 18 k_r3 (am_at hc_M_close 97 rfl) rfl (by decide) rfl (by decide) k_ok3 (Or.inl (tw 324 rfl rfl)) rfl ?_
        refine am_go cd_M_close hc_M_close 98 1 (pc' := 162) (L' := [some (.ref 40), some (.int (nI (bst wt res))), some (.int (zI (wf wt res (-1)))), none, some (.int (nI k))]) (st' := [.int (nI k), .ref 52, .int (esc k), .int (cash k), .int (nI k), .ref 41]) rfl ?_
        refine am_iaload (k) (am_at hc_M_close 99 rfl) rfl (Or.inl (by decide)) rfl (by show k < 5; omega) (Nat.le_of_ble_eq_true rfl) ?_
        rw [show d4 52 k = bpay wt res k from by rw [k52]; exact hp5]
        refine am_go cd_M_close hc_M_close 100 2 (pc' := 165) (L' := [some (.ref 40), some (.int (nI (bst wt res))), some (.int (zI (wf wt res (-1)))), none, some (.int (nI k))]) (st' := [.int (cash k + (esc k - bpay wt res k)), .int (nI k), .ref 41]) rfl ?_
        refine am_iastore (k) (am_at hc_M_close 102 rfl) rfl (by decide) rfl (by show k < 5; omega) (Nat.le_of_ble_eq_true rfl) ?_
        have hA5 := hA4.cash (k := k) (v := cash k + (esc k - bpay wt res k))
        refine am_go cd_M_close hc_M_close 103 1 (pc' := 167) (L' := [some (.ref 40), some (.int (nI (bst wt res))), some (.int (zI (wf wt res (-1)))), none, some (.int (nI k))]) (st' := [.ref 40]) rfl ?_
        refine am_getf 3 2 k_r3 (am_at hc_M_close 104 rfl) rfl (by decide) rfl (by decide) k_ok3 (Or.inl (tw 308 rfl rfl)) rfl ?_
        refine am_go cd_M_close hc_M_close 105 2 (pc' := 173) (L' := [some (.ref 40), some (.int (nI (bst wt res))), some (.int (zI (wf wt res (-1)))), none, some (.int (nI k))]) (st' := [.int 0, .int (nI k), .ref 42]) rfl ?_
        refine am_iastore (k) (am_at hc_M_close 107 rfl) rfl (by decide) rfl (by show k < 5; omega) (Nat.le_of_ble_eq_true rfl) ?_
        have hA6 := hA5.esc (k := k) (v := 0)
        refine am_go cd_M_close hc_M_close 108 2 (pc' := 119) (L' := [some (.ref 40), some (.int (nI (bst wt res))), some (.int (zI (wf wt res (-1)))), none, some (.int (nI k + 1))]) (st' := []) rfl ?_
        rw [nI_1]
        refine ih (k + 1) _ (by omega) ?_ ((hf4.tr (fM.u (by decide))).tr (fM.u (by decide)))
        have e1 : upd (fun b => if b < k then cash b + (esc b - bpay wt res b) else cash b) k (cash k + (esc k - bpay wt res k)) = (fun b => if b < (k + 1) then cash b + (esc b - bpay wt res b) else cash b) := by
          funext b; unfold upd; by_cases z : b = k; · simp [z]
          by_cases z2 : b < k
          · simp [z, z2, show b < k + 1 by omega]
          · simp [z, z2, show ¬ b < k + 1 by omega]
        have e2 : upd (fun b => if b < k then 0 else esc b) k 0 = (fun b => if b < (k + 1) then 0 else esc b) := by
          funext b; unfold upd; by_cases z : b = k; · simp [z]
          by_cases z2 : b < k
          · simp [z, z2, show b < k + 1 by omega]
          · simp [z, z2, show ¬ b < k + 1 by omega]
        rw [e1, e2] at hA6
        exact hA6
    have loop2 : ∀ k, k ≤ 6 → ∀ d3, RM cash esc (fun b => if b < 5 then bpay wt res b else pd b) pt (fun i => if k ≤ i ∧ i < 6 then bow wt res i else ow i) res wt T n se true d3 → fM d d3 → cW l x (e + 3) L m_M_close 87 [some (.ref 40), some (.int (nI (bst wt res))), some (.int (zI (wf wt res (-1)))), some (.int (nI (bst wt res / 6 ^ (6 - k)))), some (.int (nI k - 1))] [] d3 (fun r d' => r = some (.int (zI (wf wt res (-1)))) ∧ RM (fun b => if b < 5 then cash b + (esc b - bpay wt res b) else cash b) (fun b => if b < 5 then 0 else esc b) (fun b => if b < 5 then bpay wt res b else pd b) pt (bow wt res) res wt T n (pays (bpay wt res) se 5) true d' ∧ fM d d') := by
      intro k
      induction k with
      | zero =>
        intro hk d3 hA3 hf3
        refine am_go cd_M_close hc_M_close 56 1 (pc' := 89) (L' := [some (.ref 40), some (.int (nI (bst wt res))), some (.int (zI (wf wt res (-1)))), some (.int (nI (bst wt res / 6 ^ (6 - 0)))), some (.int (nI 0 - 1))]) (st' := [.int (nI 0 - 1)]) rfl ?_
        refine am_if_lt 116 (am_at hc_M_close 57 rfl) (by decide) (fun q1 => ?_) (fun q1 => absurd (by decide) q1)
        refine am_go cd_M_close hc_M_close 73 2 (pc' := 119) (L' := [some (.ref 40), some (.int (nI (bst wt res))), some (.int (zI (wf wt res (-1)))), some (.int (nI (bst wt res / 6 ^ (6 - 0)))), some (.int 0)]) (st' := []) rfl ?_
        refine am_weak (L' := [some (.ref 40), some (.int (nI (bst wt res))), some (.int (zI (wf wt res (-1)))), none, some (.int 0)]) ⟨rfl, rfl, rfl, rfl, trivial⟩ ?_
        refine loop3 5 0 d3 rfl ?_ hf3
        simp only [Nat.not_lt_zero, if_false]
        obtain ⟨g1, g2, g3, g4, g5, g6⟩ := hA3
        exact ⟨g1, g2, g3, g4, fun j hj => (g5 j hj).trans (if_pos ⟨by omega, hj⟩), g6⟩
      | succ j ih =>
        intro hk d3 hA3 hf3
        rw [nI_pred]
        have hq : bst wt res / 6 ^ (6 - (j + 1)) < 46656 := Nat.lt_of_le_of_lt (Nat.div_le_self _ _) hbe.2.2
        rw [show 6 - (j + 1) = 5 - j by omega] at hq ⊢
        refine am_go cd_M_close hc_M_close 56 1 (pc' := 89) (L' := [some (.ref 40), some (.int (nI (bst wt res))), some (.int (zI (wf wt res (-1)))), some (.int (nI (bst wt res / 6 ^ (5 - j)))), some (.int (nI j))]) (st' := [.int (nI j)]) rfl ?_
        refine am_if_lt 116 (am_at hc_M_close 57 rfl) (by decide) (fun q1 => absurd q1 (nI_pos (by omega))) (fun q1 => ?_)
        refine am_go cd_M_close hc_M_close 58 1 (pc' := 93) (L' := [some (.ref 40), some (.int (nI (bst wt res))), some (.int (zI (wf wt res (-1)))), some (.int (nI (bst wt res / 6 ^ (5 - j)))), some (.int (nI j))]) (st' := [.ref 40]) rfl ?_
        refine am_getf 3 17 k_r3 (am_at hc_M_close 59 rfl) rfl (by decide) rfl (by decide) k_ok3 (Or.inl (tw 323 rfl rfl)) rfl ?_
        refine am_go cd_M_close hc_M_close 60 3 (pc' := 101) (L' := [some (.ref 40), some (.int (nI (bst wt res))), some (.int (zI (wf wt res (-1)))), some (.int (nI (bst wt res / 6 ^ (5 - j)))), some (.int (nI j))]) (st' := [.int 6, .int (nI (bst wt res / 6 ^ (5 - j))), .int (nI j), .ref 51]) rfl ?_
        refine am_irem (am_at hc_M_close 63 rfl) (by decide) ?_
        rw [show nI (bst wt res / 6 ^ (5 - j)) - nI (bst wt res / 6 ^ (5 - j)) / 6 * 6 = nI (bst wt res / 6 ^ (5 - j) % 6) from pk_rem (d := 6) (by omega) (by decide) (by decide)]
        refine am_go cd_M_close hc_M_close 64 2 (pc' := 104) (L' := [some (.ref 40), some (.int (nI (bst wt res))), some (.int (zI (wf wt res (-1)))), some (.int (nI (bst wt res / 6 ^ (5 - j)))), some (.int (nI j))]) (st' := [.int (nI (bst wt res / 6 ^ (5 - j) % 6) - 1), .int (nI j), .ref 51]) rfl ?_
        rw [show nI (bst wt res / 6 ^ (5 - j) % 6) - 1 = bow wt res j from by rw [nI_zI]; exact zI_sub _ 1]
        refine am_iastore (j) (am_at hc_M_close 66 rfl) rfl (by decide) rfl (by show j < 6; omega) (Nat.le_of_ble_eq_true rfl) ?_
        have hA4 := hA3.ow (k := j) (v := bow wt res j)
        refine am_go cd_M_close hc_M_close 67 2 (pc' := 108) (L' := [some (.ref 40), some (.int (nI (bst wt res))), some (.int (zI (wf wt res (-1)))), some (.int (nI (bst wt res / 6 ^ (5 - j)))), some (.int (nI j))]) (st' := [.int 6, .int (nI (bst wt res / 6 ^ (5 - j)))]) rfl ?_
        refine am_idiv (am_at hc_M_close 69 rfl) (by decide) ?_
        rw [show nI (bst wt res / 6 ^ (5 - j)) / 6 = nI (bst wt res / 6 ^ (6 - j)) from by rw [show (6 : Int32) = nI 6 from rfl, pk_div (by omega) (by decide) (by decide), Nat.div_div_eq_div_mul, ← Nat.pow_succ, show (5 - j).succ = 6 - j by omega]]
        refine am_go cd_M_close hc_M_close 70 3 (pc' := 87) (L' := [some (.ref 40), some (.int (nI (bst wt res))), some (.int (zI (wf wt res (-1)))), some (.int (nI (bst wt res / 6 ^ (6 - j)))), some (.int (nI j + (-1)))]) (st' := []) rfl ?_
        rw [i_dec]
        refine ih (by omega) _ ?_ (hf3.tr (fM.u (by decide)))
        have e1 : upd (fun i => if (j + 1) ≤ i ∧ i < 6 then bow wt res i else ow i) j (bow wt res j) = (fun i => if j ≤ i ∧ i < 6 then bow wt res i else ow i) := by
          funext b; unfold upd; dsimp only; by_cases z : b = j
          · subst z; rw [if_pos rfl, if_pos ⟨Nat.le_refl _, by omega⟩]
          · rw [if_neg z]; by_cases z2 : j ≤ b ∧ b < 6
            · rw [if_pos (by omega), if_pos z2]
            · rw [if_neg (by omega), if_neg z2]
        rw [e1] at hA4
        exact hA4
    have loop1 : ∀ q k d3, k + q = 5 → RM cash esc (fun b => if b < k then bpay wt res b else pd b) pt ow res wt T n se true d3 → fM d d3 → cW l x (e + 3) L m_M_close 30 [some (.ref 40), some (.int (nI (bst wt res))), some (.int (zI (wf wt res (-1)))), some (.int (nI k)), none] [] d3 (fun r d' => r = some (.int (zI (wf wt res (-1)))) ∧ RM (fun b => if b < 5 then cash b + (esc b - bpay wt res b) else cash b) (fun b => if b < 5 then 0 else esc b) (fun b => if b < 5 then bpay wt res b else pd b) pt (bow wt res) res wt T n (pays (bpay wt res) se 5) true d' ∧ fM d d') := by
      intro q
      induction q with
      | zero =>
        intro k d3 hk hA3 hf3
        have hk5 : k = 5 := by omega
        subst hk5
        refine am_go cd_M_close hc_M_close 19 2 (pc' := 32) (L' := [some (.ref 40), some (.int (nI (bst wt res))), some (.int (zI (wf wt res (-1)))), some (.int (nI 5)), none]) (st' := [.int 5, .int (nI 5)]) rfl ?_
        refine am_icmp_ge 82 (am_at hc_M_close 21 rfl) (by decide) (fun q1 => ?_) (fun q1 => absurd (nI_le (a := 5) (b := 5) (by omega) (by omega)) q1)
        refine am_go cd_M_close hc_M_close 52 4 (pc' := 87) (L' := [some (.ref 40), some (.int (nI (bst wt res))), some (.int (zI (wf wt res (-1)))), some (.int (nI (bst wt res))), some (.int 5)]) (st' := []) rfl ?_
        have e1 : (fun i => if 6 ≤ i ∧ i < 6 then bow wt res i else ow i) = ow := by funext j; rw [if_neg (by omega)]
        have h0 := loop2 6 (Nat.le_refl _) d3 (by rw [e1]; exact hA3) hf3
        rw [show 6 - 6 = 0 from rfl, Nat.pow_zero, Nat.div_one] at h0
        exact h0
      | succ q ih =>
        intro k d3 hk hA3 hf3
        refine am_go cd_M_close hc_M_close 19 2 (pc' := 32) (L' := [some (.ref 40), some (.int (nI (bst wt res))), some (.int (zI (wf wt res (-1)))), some (.int (nI k)), none]) (st' := [.int 5, .int (nI k)]) rfl ?_
        refine am_icmp_ge 82 (am_at hc_M_close 21 rfl) (by decide) (fun q1 => absurd q1 (nI_ge (a := k) (b := 5) (by omega) (by omega))) (fun q1 => ?_)
        refine am_go cd_M_close hc_M_close 22 2 (pc' := 37) (L' := [some (.ref 40), some (.int (nI (bst wt res))), some (.int (zI (wf wt res (-1)))), some (.int (nI k)), none]) (st' := [.int (nI k), .ref 40]) rfl ?_
        have hkB : nI k = -1 ∨ isB (nI k) := Or.inr ⟨nI_pos' (by omega), nI_lt (a := k) (b := 5) (by omega) (by omega)⟩
        have hkz : (nI k).toInt = (k : Int) := nI_toInt (by omega)
        refine cW.callV (st := []) [.int (nI k)] (am_at hc_M_close 24 rfl) g_M_welfare (Or.inl (tw 458 rfl rfl)) (tw 442 rfl rfl) (tw 443 rfl rfl) 3 k_r3 rfl (by decide) rfl rfl rfl rfl (Nat.le_of_ble_eq_true rfl) (c_M_welfare hA3 (nI k)) ?_
        rintro _ d4 ⟨rfl, hA4, hf4⟩
        rw [if_pos hkB, hkz]
        show cW _ _ (e + 3) _ m_M_close 40 [some (.ref 40), some (.int (nI (bst wt res))), some (.int (zI (wf wt res (-1)))), some (.int (nI k)), none] [.int (zI (wf wt res k))] _ _
        refine am_go cd_M_close hc_M_close 25 4 (pc' := 45) (L' := [some (.ref 40), some (.int (nI (bst wt res))), some (.int (zI (wf wt res (-1)))), some (.int (nI k)), some (.int (zI (wf wt res k)))]) (st' := [.int (-1), .int (nI (bst wt res)), .ref 40]) rfl ?_
        refine cW.callV (st := []) [.int (nI (bst wt res)), .int (-1)] (am_at hc_M_close 29 rfl) g_M_welfareOf (Or.inl (tw 450 rfl rfl)) (tw 452 rfl rfl) (tp 29 rfl rfl) 3 k_r3 rfl (by decide) rfl rfl rfl rfl (Nat.le_of_ble_eq_true rfl) (c_M_welfareOf hA4 hbe.2.2 (lo := -1) (by decide) (by decide)) ?_
        rintro _ d5 ⟨rfl, hA5, hf5, hg⟩
        rw [hbe.1]
        show cW _ _ (e + 3) _ m_M_close 48 [some (.ref 40), some (.int (nI (bst wt res))), some (.int (zI (wf wt res (-1)))), some (.int (nI k)), some (.int (zI (wf wt res k)))] [.int (zI (wf wt res (-1)))] _ _
        have hgl := gbr_lt (bst wt res) k 6 (by decide)
        refine am_go cd_M_close hc_M_close 30 2 (pc' := 50) (L' := [some (.ref 40), some (.int (nI (bst wt res))), some (.int (zI (wf wt res (-1)))), some (.int (nI k)), some (.int (zI (wf wt res k)))]) (st' := [.ref 40]) rfl ?_
        refine am_getf 3 18 k_r3 (am_at hc_M_close 32 rfl) rfl (by decide) rfl (by decide) k_ok3 (Or.inl (tw 324 rfl rfl)) rfl ?_
        refine am_go cd_M_close hc_M_close 33 4 (pc' := 58) (L' := [some (.ref 40), some (.int (nI (bst wt res))), some (.int (zI (wf wt res (-1)))), some (.int (nI k)), some (.int (zI (wf wt res k)))]) (st' := [.int (zI (wf wt res k) - zI (wf wt res (-1))), .int (nI k), .ref 52]) rfl ?_
        rw [show zI (wf wt res k) - zI (wf wt res (-1)) = zI (wf wt res k - wf wt res (-1)) from zI_sub _ _]
        refine am_go cd_M_close hc_M_close 37 1 (pc' := 59) (L' := [some (.ref 40), some (.int (nI (bst wt res))), some (.int (zI (wf wt res (-1)))), some (.int (nI k)), some (.int (zI (wf wt res k)))]) (st' := [.ref 40, .int (zI (wf wt res k - wf wt res (-1))), .int (nI k), .ref 52]) rfl ?_
        refine am_getf 3 7 k_r3 (am_at hc_M_close 38 rfl) rfl (by decide) rfl (by decide) k_ok3 (Or.inl (tw 313 rfl rfl)) rfl ?_
        refine am_go cd_M_close hc_M_close 39 4 (pc' := 67) (L' := [some (.ref 40), some (.int (nI (bst wt res))), some (.int (zI (wf wt res (-1)))), some (.int (nI k)), some (.int (zI (wf wt res k)))]) (st' := [.ref 40, .int (64 * nI k), .ref 45, .int (zI (wf wt res k - wf wt res (-1))), .int (nI k), .ref 52]) rfl ?_
        refine am_getf 3 16 k_r3 (am_at hc_M_close 43 rfl) rfl (by decide) rfl (by decide) k_ok3 (Or.inl (tw 322 rfl rfl)) rfl ?_
        refine am_go cd_M_close hc_M_close 44 1 (pc' := 71) (L' := [some (.ref 40), some (.int (nI (bst wt res))), some (.int (zI (wf wt res (-1)))), some (.int (nI k)), some (.int (zI (wf wt res k)))]) (st' := [.int (nI k), .ref 50, .int (64 * nI k), .ref 45, .int (zI (wf wt res k - wf wt res (-1))), .int (nI k), .ref 52]) rfl ?_
        refine am_iaload (k) (am_at hc_M_close 45 rfl) rfl (Or.inl (by decide)) rfl (by show k < 5; omega) (Nat.le_of_ble_eq_true rfl) ?_
        rw [show d5 50 k = nI (gbr (bst wt res) k 6) from hg k (by omega)]
        refine am_go cd_M_close hc_M_close 46 1 (pc' := 73) (L' := [some (.ref 40), some (.int (nI (bst wt res))), some (.int (zI (wf wt res (-1)))), some (.int (nI k)), some (.int (zI (wf wt res k)))]) (st' := [.int ((64 * nI k) + nI (gbr (bst wt res) k 6)), .ref 45, .int (zI (wf wt res k - wf wt res (-1))), .int (nI k), .ref 52]) rfl ?_
        refine am_iaload (64 * k + gbr (bst wt res) k 6) (am_at hc_M_close 47 rfl) rfl (Or.inl (by decide)) (by rw [← nI_add, ← pk_mul]; rfl) (by show 64 * k + gbr (bst wt res) k 6 < 320; omega) (Nat.le_of_ble_eq_true rfl) ?_
        rw [show d5 45 (64 * k + gbr (bst wt res) k 6) = zI (wt k (gbr (bst wt res) k 6)) from (hA5.2.2.2.2.2.2.1 k (by omega)).2 _ hgl]
        refine am_go cd_M_close hc_M_close 48 1 (pc' := 75) (L' := [some (.ref 40), some (.int (nI (bst wt res))), some (.int (zI (wf wt res (-1)))), some (.int (nI k)), some (.int (zI (wf wt res k)))]) (st' := [.int (zI (wf wt res k - wf wt res (-1)) + zI (wt k (gbr (bst wt res) k 6))), .int (nI k), .ref 52]) rfl ?_
        rw [show zI (wf wt res k - wf wt res (-1)) + zI (wt k (gbr (bst wt res) k 6)) = bpay wt res k from by rw [zI_add]; unfold bpay payb; rw [sto_bow wt res (by omega)]]
        refine am_iastore (k) (am_at hc_M_close 49 rfl) rfl (by decide) rfl (by show k < 5; omega) (Nat.le_of_ble_eq_true rfl) ?_
        have hA6 := hA5.pd (k := k) (v := bpay wt res k)
        refine am_go cd_M_close hc_M_close 50 2 (pc' := 30) (L' := [some (.ref 40), some (.int (nI (bst wt res))), some (.int (zI (wf wt res (-1)))), some (.int (nI k + 1)), some (.int (zI (wf wt res k)))]) (st' := []) rfl ?_
        refine am_weak (L' := [some (.ref 40), some (.int (nI (bst wt res))), some (.int (zI (wf wt res (-1)))), some (.int (nI k + 1)), none]) ⟨rfl, rfl, rfl, rfl, trivial⟩ ?_
        rw [nI_1]
        refine ih (k + 1) _ (by omega) ?_ (((hf3.tr hf4).tr hf5).tr (fM.u (by decide)))
        have e1 : upd (fun b => if b < k then bpay wt res b else pd b) k (bpay wt res k) = (fun b => if b < (k + 1) then bpay wt res b else pd b) := by
          funext b; unfold upd; by_cases z : b = k; · simp [z]
          by_cases z2 : b < k
          · simp [z, z2, show b < k + 1 by omega]
          · simp [z, z2, show ¬ b < k + 1 by omega]
        rw [e1] at hA6
        exact hA6
    refine loop1 5 0 d2 rfl ?_ ((hf0.tr hf1).tr hf2)
    simp only [Nat.not_lt_zero, if_false]
    exact hR2
