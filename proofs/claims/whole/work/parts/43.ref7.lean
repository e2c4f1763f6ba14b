/-- what one turn of the reference's reader does, for any claim P of its state; v the table it must end with -/
def rdR (T : Nat → Nat) (n : Nat) (v : Tb) (P : Nat → List Tb → List Nat → Prop) : Prop :=
  (∀ p ts ws q u r m, pr_dg T n p = true → pr_num T n 3 p 0 = (q, u) → pr_dg T n q = false → pr_let T n 6 q 0 = (r, m) → m ≠ 0 → pr_lt T n r = false → ts.length < 13 → P r (pr_bun u m :: ts) ws → P p ts ws) ∧
  (∀ p ts ws, p < n → T p = 40 → ws.length < 40 → P (p + 1) ts (40 :: ws) → P p ts ws) ∧
  (∀ p t ts ws q u, p < n → T p = 60 → pr_num T n 3 (p + 1) 0 = (q, u) → pr_dg T n q = false → P q ((fun s => min (t s) u) :: ts) ws → P p (t :: ts) ws) ∧
  (∀ p ts ws ts' ws' c, p < n → T p = 41 → Red true ts ws ts' (c :: ws') → P (p + 1) ts' ws' → P p ts ws) ∧
  (∀ p ts ws ts' ws', p < n → (T p = 43 ∨ T p = 94) → Red (decide (T p = 94)) ts ws ts' ws' → ws'.length < 40 → P (p + 1) ts' (T p :: ws') → P p ts ws) ∧
  (∀ ts ws t, Red true ts ws [t] [] → (∀ s, s < 64 → t s = v s) → P n ts ws)
set_option maxRecDepth 100000 in
set_option maxHeartbeats 4000000 in
theorem c_M_read {l : Launch} {x : am_X} {e L : Nat} {d : am_D} {T : Nat → Nat} {n : Nat} (hr : tm d T n) {v : Tb} (hP : ∀ P, rdR T n v P → P 0 [] []) : cM l x (e + 3) L m_M_read [.ref 40] d (fun r d' => r = none ∧ rmF d d' ∧ ∀ s, s < 64 → d' 47 s = zI (v s)) := by
  have hn := hr.2.1
  let P : Nat → List Tb → List Nat → Prop := fun p ts ws => ∀ d', rmF d d' → d' 40 14 = nI p → rep d' ts ws → cW l x (e + 3) L m_M_read 15 [some (.ref 40), none, none, none] [] d' (fun r d' => r = none ∧ rmF d d' ∧ ∀ s, s < 64 → d' 47 s = zI (v s))
  have r1 : ∀ p ts ws q u r m, pr_dg T n p = true → pr_num T n 3 p 0 = (q, u) → pr_dg T n q = false → pr_let T n 6 q 0 = (r, m) → m ≠ 0 → pr_lt T n r = false → ts.length < 13 → P r (pr_bun u m :: ts) ws → P p ts ws := by
    intro p ts ws q u r m hdg hN hq hLt hm hrl hl kk d1 hf hat hp
    have ht := hf.tm hr
    have hp13 := hp.1.2.1
    have hw40 := hp.2.2.1
    have hpn := (pr_dg_lt hdg).1
    refine am_go cd_M_read hc_M_read 9 1 (pc' := 16) (L' := [some (.ref 40), none, none, none]) (st' := [.ref 40]) rfl ?_
    refine am_getf 3 14 k_r3 (am_at hc_M_read 10 rfl) rfl (by decide) rfl (by decide) k_ok3 (Or.inl (tw 320 rfl rfl)) (congrArg Value.int hat) ?_
    refine am_go cd_M_read hc_M_read 11 1 (pc' := 20) (L' := [some (.ref 40), none, none, none]) (st' := [.ref 40, .int (nI p)]) rfl ?_
    refine am_getf 3 5 k_r3 (am_at hc_M_read 12 rfl) rfl (by decide) rfl (by decide) k_ok3 (Or.inl (tw 311 rfl rfl)) (congrArg Value.int ht.1) ?_
    refine am_icmp_ge 192 (am_at hc_M_read 13 rfl) (by decide) (fun q0 => absurd q0 (nI_ge (by omega) (by omega))) (fun q0 => ?_)
    refine am_go cd_M_read hc_M_read 14 1 (pc' := 27) (L' := [some (.ref 40), none, none, none]) (st' := [.ref 40]) rfl ?_
    refine am_getf 3 6 k_r3 (am_at hc_M_read 15 rfl) rfl (by decide) rfl (by decide) k_ok3 (Or.inl (tw 312 rfl rfl)) rfl ?_
    refine am_go cd_M_read hc_M_read 16 1 (pc' := 31) (L' := [some (.ref 40), none, none, none]) (st' := [.ref 40, .ref 44]) rfl ?_
    refine am_getf 3 14 k_r3 (am_at hc_M_read 17 rfl) rfl (by decide) rfl (by decide) k_ok3 (Or.inl (tw 320 rfl rfl)) (congrArg Value.int hat) ?_
    refine am_iaload (p) (am_at hc_M_read 18 rfl) rfl (Or.inl (by decide)) rfl (by show p < 40; omega) (Nat.le_of_ble_eq_true rfl) ?_
    rw [show d1 44 p = nI (T p) from (ht.2.2 p hpn).1]
    refine am_go cd_M_read hc_M_read 19 3 (pc' := 38) (L' := [some (.ref 40), some (.int (nI (T p))), none, none]) (st' := [.ref 40, .ref 40]) rfl ?_
    refine am_getf 3 14 k_r3 (am_at hc_M_read 22 rfl) rfl (by decide) rfl (by decide) k_ok3 (Or.inl (tw 320 rfl rfl)) (congrArg Value.int hat) ?_
    refine cW.callV1 44 [.int (bI (pr_dg T n p))] (st := []) [.int (nI p)] (am_at hc_M_read 23 rfl) g_M_digit (Or.inl (tw 401 rfl rfl)) (tw 403 rfl rfl) (tp 20 rfl rfl) 3 k_r3 rfl (by decide) rfl rfl rfl rfl (Nat.le_of_ble_eq_true rfl) (c_M_digit ht (by omega)) rfl rfl ?_
    rw [hdg]
    simp only [bI_t]
    refine am_if_eq 54 (am_at hc_M_read 24 rfl) (by decide) (fun q1 => absurd q1 (by decide)) (fun q1 => ?_)
    refine am_go cd_M_read hc_M_read 25 1 (pc' := 48) (L' := [some (.ref 40), some (.int (nI (T p))), none, none]) (st' := [.ref 40]) rfl ?_
    refine cW.callV1 51 [] (st := []) [] (am_at hc_M_read 26 rfl) g_M_bundle (Or.inl (tw 413 rfl rfl)) (tw 415 rfl rfl) (tp 23 rfl rfl) 3 k_r3 rfl (by decide) rfl rfl rfl rfl (Nat.le_of_ble_eq_true rfl) (c_M_bundle ht hat (by omega) hN hq hLt hrl hp.1.1 hl) rfl rfl ?_
    refine am_go cd_M_read hc_M_read 27 1 (pc' := 189) (L' := [some (.ref 40), some (.int (nI (T p))), none, none]) (st' := []) rfl ?_
    refine am_go cd_M_read hc_M_read 103 1 (pc' := 15) (L' := [some (.ref 40), some (.int (nI (T p))), none, none]) (st' := []) rfl ?_
    refine am_weak (L' := [some (.ref 40), none, none, none]) ⟨rfl, trivial⟩ ?_
    have hu : u ≤ 999 := by have := pr_num_999 T n p; rw [hN] at this; exact this
    refine kk _ (((hf.trans (rmF.f (by decide))).trans rmF.r).trans (rmF.f (by decide))) ?_ ⟨⟨am_u_i, hl, ⟨tb_bun hu hm, fun s hs => ?_⟩, ?_⟩, ?_, hw40, ?_⟩
    · rw [am_u_o (by decide), am_tr_ne (by decide)]; exact am_u_i
    · rw [am_u_ne 47 (by decide)]; exact am_tr_in hs
    · exact hp.1.2.2.to (fun j hj => by rw [am_u_ne 47 (by decide), am_tr_out (Or.inl hj), am_u_ne 47 (by decide)])
    · rw [am_u_o (by decide), am_tr_ne (by decide), am_u_o (by decide)]; exact hp.2.1
    · exact hp.2.2.2.to (fun j hj => by rw [am_u_ne 49 (by decide), am_tr_ne (by decide), am_u_ne 49 (by decide)])
  have r2 : ∀ p ts ws, p < n → T p = 40 → ws.length < 40 → P (p + 1) ts (40 :: ws) → P p ts ws := by
    intro p ts ws hpn hT hl kk d1 hf hat hp
    have ht := hf.tm hr
    have hp13 := hp.1.2.1
    have hw40 := hp.2.2.1
    refine am_go cd_M_read hc_M_read 9 1 (pc' := 16) (L' := [some (.ref 40), none, none, none]) (st' := [.ref 40]) rfl ?_
    refine am_getf 3 14 k_r3 (am_at hc_M_read 10 rfl) rfl (by decide) rfl (by decide) k_ok3 (Or.inl (tw 320 rfl rfl)) (congrArg Value.int hat) ?_
    refine am_go cd_M_read hc_M_read 11 1 (pc' := 20) (L' := [some (.ref 40), none, none, none]) (st' := [.ref 40, .int (nI p)]) rfl ?_
    refine am_getf 3 5 k_r3 (am_at hc_M_read 12 rfl) rfl (by decide) rfl (by decide) k_ok3 (Or.inl (tw 311 rfl rfl)) (congrArg Value.int ht.1) ?_
    refine am_icmp_ge 192 (am_at hc_M_read 13 rfl) (by decide) (fun q0 => absurd q0 (nI_ge (by omega) (by omega))) (fun q0 => ?_)
    refine am_go cd_M_read hc_M_read 14 1 (pc' := 27) (L' := [some (.ref 40), none, none, none]) (st' := [.ref 40]) rfl ?_
    refine am_getf 3 6 k_r3 (am_at hc_M_read 15 rfl) rfl (by decide) rfl (by decide) k_ok3 (Or.inl (tw 312 rfl rfl)) rfl ?_
    refine am_go cd_M_read hc_M_read 16 1 (pc' := 31) (L' := [some (.ref 40), none, none, none]) (st' := [.ref 40, .ref 44]) rfl ?_
    refine am_getf 3 14 k_r3 (am_at hc_M_read 17 rfl) rfl (by decide) rfl (by decide) k_ok3 (Or.inl (tw 320 rfl rfl)) (congrArg Value.int hat) ?_
    refine am_iaload (p) (am_at hc_M_read 18 rfl) rfl (Or.inl (by decide)) rfl (by show p < 40; omega) (Nat.le_of_ble_eq_true rfl) ?_
    rw [show d1 44 p = nI (T p) from (ht.2.2 p hpn).1]
    refine am_go cd_M_read hc_M_read 19 3 (pc' := 38) (L' := [some (.ref 40), some (.int (nI (T p))), none, none]) (st' := [.ref 40, .ref 40]) rfl ?_
    refine am_getf 3 14 k_r3 (am_at hc_M_read 22 rfl) rfl (by decide) rfl (by decide) k_ok3 (Or.inl (tw 320 rfl rfl)) (congrArg Value.int hat) ?_
    refine cW.callV1 44 [.int (bI (pr_dg T n p))] (st := []) [.int (nI p)] (am_at hc_M_read 23 rfl) g_M_digit (Or.inl (tw 401 rfl rfl)) (tw 403 rfl rfl) (tp 20 rfl rfl) 3 k_r3 rfl (by decide) rfl rfl rfl rfl (Nat.le_of_ble_eq_true rfl) (c_M_digit ht (by omega)) rfl rfl ?_
    have hdg : pr_dg T n p = false := decide_eq_false (fun z => by omega)
    rw [hdg]
    simp only [bI_f]
    refine am_if_eq 54 (am_at hc_M_read 24 rfl) (by decide) (fun q1 => ?_) (fun q1 => absurd rfl q1)
    refine am_go cd_M_read hc_M_read 28 2 (pc' := 56) (L' := [some (.ref 40), some (.int (nI (T p))), none, none]) (st' := [.ref 40, .ref 40]) rfl ?_
    refine am_getf 3 14 k_r3 (am_at hc_M_read 30 rfl) rfl (by decide) rfl (by decide) k_ok3 (Or.inl (tw 320 rfl rfl)) (congrArg Value.int hat) ?_
    refine am_go cd_M_read hc_M_read 31 2 (pc' := 61) (L' := [some (.ref 40), some (.int (nI (T p))), none, none]) (st' := [.int (nI p + 1), .ref 40]) rfl ?_
    rw [show nI p + 1 = nI (p + 1) from nI_1 _]
    refine am_putI 3 14 k_r3 (am_at hc_M_read 33 rfl) rfl (by decide) rfl (by decide) k_ok3 (tw 320 rfl rfl) rfl rfl rfl rfl ?_
    have ht1 : tm (am_u d1 40 14 (nI (p + 1))) T n := ht.u (by decide) (by decide)
    have hp1 : rep (am_u d1 40 14 (nI (p + 1))) ts ws := hp.at
    have hf1 : rmF d (am_u d1 40 14 (nI (p + 1))) := hf.trans (rmF.f (by decide))
    have hat1 : am_u d1 40 14 (nI (p + 1)) 40 14 = nI (p + 1) := am_u_i
    generalize am_u d1 40 14 (nI (p + 1)) = d2 at ht1 hp1 hf1 hat1 ⊢
    refine am_go cd_M_read hc_M_read 34 2 (pc' := 67) (L' := [some (.ref 40), some (.int (nI (T p))), none, none]) (st' := [.int 40, .int (nI (T p))]) rfl ?_
    refine am_icmp_ne 78 (am_at hc_M_read 36 rfl) (by decide) (fun q2 => absurd (by rw [hT]; rfl) q2) (fun q2 => ?_)
    refine am_go cd_M_read hc_M_read 37 2 (pc' := 72) (L' := [some (.ref 40), some (.int (nI (T p))), none, none]) (st' := [.int (nI (T p)), .ref 40]) rfl ?_
    rw [hT]
    refine cW.callV1 75 [] (st := []) [.int (nI 40)] (am_at hc_M_read 39 rfl) g_M_hold (Or.inl (tw 421 rfl rfl)) (tw 423 rfl rfl) (tp 25 rfl rfl) 3 k_r3 rfl (by decide) rfl rfl rfl rfl (Nat.le_of_ble_eq_true rfl) (c_M_hold (c := 40) hp1.2.1 hl) rfl rfl ?_
    refine am_go cd_M_read hc_M_read 40 1 (pc' := 189) (L' := [some (.ref 40), some (.int (nI 40)), none, none]) (st' := []) rfl ?_
    refine am_go cd_M_read hc_M_read 103 1 (pc' := 15) (L' := [some (.ref 40), some (.int (nI 40)), none, none]) (st' := []) rfl ?_
    refine am_weak (L' := [some (.ref 40), none, none, none]) ⟨rfl, trivial⟩ ?_
    have hpw : rep (am_u (am_u d2 49 ws.length (nI 40)) 40 13 (nI (ws.length + 1))) ts (40 :: ws) := ⟨⟨(am_u_o (by decide)).trans ((congrFun (am_u_ne 40 (by decide)) 10).trans hp1.1.1), hp1.1.2.1, hp1.1.2.2.to (fun j _ => by rw [am_u_ne 47 (by decide), am_u_ne 47 (by decide)])⟩, am_u_i, by simp only [List.length_cons]; omega, ⟨by rw [am_u_ne 49 (by decide)]; exact am_u_i, by omega⟩, hp1.2.2.2.to (fun j hj => by rw [am_u_ne 49 (by decide)]; exact am_u_o (fun z => by omega))⟩
    exact kk _ ((hf1.trans rmF.w).trans (rmF.f (by decide))) ((am_u_o (by decide)).trans ((congrFun (am_u_ne 40 (by decide)) 14).trans hat1)) hpw
  have r3 : ∀ p t ts ws q u, p < n → T p = 60 → pr_num T n 3 (p + 1) 0 = (q, u) → pr_dg T n q = false → P q ((fun s => min (t s) u) :: ts) ws → P p (t :: ts) ws := by
    intro p t ts ws q u hpn hT hN hq kk d1 hf hat hp
    have ht := hf.tm hr
    have hp13 := hp.1.2.1
    have hw40 := hp.2.2.1
    simp only [List.length_cons] at hp13
    refine am_go cd_M_read hc_M_read 9 1 (pc' := 16) (L' := [some (.ref 40), none, none, none]) (st' := [.ref 40]) rfl ?_
    refine am_getf 3 14 k_r3 (am_at hc_M_read 10 rfl) rfl (by decide) rfl (by decide) k_ok3 (Or.inl (tw 320 rfl rfl)) (congrArg Value.int hat) ?_
    refine am_go cd_M_read hc_M_read 11 1 (pc' := 20) (L' := [some (.ref 40), none, none, none]) (st' := [.ref 40, .int (nI p)]) rfl ?_
    refine am_getf 3 5 k_r3 (am_at hc_M_read 12 rfl) rfl (by decide) rfl (by decide) k_ok3 (Or.inl (tw 311 rfl rfl)) (congrArg Value.int ht.1) ?_
    refine am_icmp_ge 192 (am_at hc_M_read 13 rfl) (by decide) (fun q0 => absurd q0 (nI_ge (by omega) (by omega))) (fun q0 => ?_)
    refine am_go cd_M_read hc_M_read 14 1 (pc' := 27) (L' := [some (.ref 40), none, none, none]) (st' := [.ref 40]) rfl ?_
    refine am_getf 3 6 k_r3 (am_at hc_M_read 15 rfl) rfl (by decide) rfl (by decide) k_ok3 (Or.inl (tw 312 rfl rfl)) rfl ?_
    refine am_go cd_M_read hc_M_read 16 1 (pc' := 31) (L' := [some (.ref 40), none, none, none]) (st' := [.ref 40, .ref 44]) rfl ?_
    refine am_getf 3 14 k_r3 (am_at hc_M_read 17 rfl) rfl (by decide) rfl (by decide) k_ok3 (Or.inl (tw 320 rfl rfl)) (congrArg Value.int hat) ?_
    refine am_iaload (p) (am_at hc_M_read 18 rfl) rfl (Or.inl (by decide)) rfl (by show p < 40; omega) (Nat.le_of_ble_eq_true rfl) ?_
    rw [show d1 44 p = nI (T p) from (ht.2.2 p hpn).1]
    refine am_go cd_M_read hc_M_read 19 3 (pc' := 38) (L' := [some (.ref 40), some (.int (nI (T p))), none, none]) (st' := [.ref 40, .ref 40]) rfl ?_
    refine am_getf 3 14 k_r3 (am_at hc_M_read 22 rfl) rfl (by decide) rfl (by decide) k_ok3 (Or.inl (tw 320 rfl rfl)) (congrArg Value.int hat) ?_
    refine cW.callV1 44 [.int (bI (pr_dg T n p))] (st := []) [.int (nI p)] (am_at hc_M_read 23 rfl) g_M_digit (Or.inl (tw 401 rfl rfl)) (tw 403 rfl rfl) (tp 20 rfl rfl) 3 k_r3 rfl (by decide) rfl rfl rfl rfl (Nat.le_of_ble_eq_true rfl) (c_M_digit ht (by omega)) rfl rfl ?_
    have hdg : pr_dg T n p = false := decide_eq_false (fun z => by omega)
    rw [hdg]
    simp only [bI_f]
    refine am_if_eq 54 (am_at hc_M_read 24 rfl) (by decide) (fun q1 => ?_) (fun q1 => absurd rfl q1)
    refine am_go cd_M_read hc_M_read 28 2 (pc' := 56) (L' := [some (.ref 40), some (.int (nI (T p))), none, none]) (st' := [.ref 40, .ref 40]) rfl ?_
    refine am_getf 3 14 k_r3 (am_at hc_M_read 30 rfl) rfl (by decide) rfl (by decide) k_ok3 (Or.inl (tw 320 rfl rfl)) (congrArg Value.int hat) ?_
    refine am_go cd_M_read hc_M_read 31 2 (pc' := 61) (L' := [some (.ref 40), some (.int (nI (T p))), none, none]) (st' := [.int (nI p + 1), .ref 40]) rfl ?_
    rw [show nI p + 1 = nI (p + 1) from nI_1 _]
    refine am_putI 3 14 k_r3 (am_at hc_M_read 33 rfl) rfl (by decide) rfl (by decide) k_ok3 (tw 320 rfl rfl) rfl rfl rfl rfl ?_
    have ht1 : tm (am_u d1 40 14 (nI (p + 1))) T n := ht.u (by decide) (by decide)
    have hp1 : rep (am_u d1 40 14 (nI (p + 1))) (t :: ts) ws := hp.at
    have hf1 : rmF d (am_u d1 40 14 (nI (p + 1))) := hf.trans (rmF.f (by decide))
    have hat1 : am_u d1 40 14 (nI (p + 1)) 40 14 = nI (p + 1) := am_u_i
    generalize am_u d1 40 14 (nI (p + 1)) = d2 at ht1 hp1 hf1 hat1 ⊢
    refine am_go cd_M_read hc_M_read 34 2 (pc' := 67) (L' := [some (.ref 40), some (.int (nI (T p))), none, none]) (st' := [.int 40, .int (nI (T p))]) rfl ?_
    refine am_icmp_ne 78 (am_at hc_M_read 36 rfl) (by decide) (fun q2 => ?_) (fun q2 => absurd ((nI_eq (b := 40) (by omega) (by decide)).mp q2) (by omega))
    refine am_go cd_M_read hc_M_read 41 2 (pc' := 81) (L' := [some (.ref 40), some (.int (nI (T p))), none, none]) (st' := [.int 60, .int (nI (T p))]) rfl ?_
    refine am_icmp_ne 145 (am_at hc_M_read 43 rfl) (by decide) (fun q3 => absurd (by rw [hT]; rfl) q3) (fun q3 => ?_)
    refine am_go cd_M_read hc_M_read 44 1 (pc' := 85) (L' := [some (.ref 40), some (.int (nI (T p))), none, none]) (st' := [.ref 40]) rfl ?_
    refine cW.callV1 88 [.int (nI u)] (st := []) [] (am_at hc_M_read 45 rfl) g_M_number (Or.inl (tw 417 rfl rfl)) (tw 419 rfl rfl) (tp 24 rfl rfl) 3 k_r3 rfl (by decide) rfl rfl rfl rfl (Nat.le_of_ble_eq_true rfl) (c_M_number ht1 hat1 (by omega) hN hq) rfl rfl ?_
    refine am_go cd_M_read hc_M_read 46 3 (pc' := 92) (L' := [some (.ref 40), some (.int (nI (T p))), some (.int (nI u)), none]) (st' := [.ref 40, .int 64]) rfl ?_
    have hk0 : am_u d2 40 14 (nI q) 40 10 = nI (ts.length + 1) := (am_u_o (by decide)).trans hp1.1.1
    have hat3 : am_u d2 40 14 (nI q) 40 14 = nI q := am_u_i
    have hp3 : rep (am_u d2 40 14 (nI q)) (t :: ts) ws := hp1.at
    have hf3 : rmF d (am_u d2 40 14 (nI q)) := hf1.trans (rmF.f (by decide))
    generalize am_u d2 40 14 (nI q) = D at hk0 hat3 hp3 hf3 ⊢
    generalize hkk : ts.length = k at hk0 hp13
    have hu : u ≤ 999 := by have := pr_num_999 T n (p + 1); rw [hN] at this; exact this
    have hrow : ∀ s, s < 64 → D 47 (64 * k + s) = zI (t s) := by rw [← hkk]; exact hp3.1.2.2.1.2
    have tok := hp3.1.2.2.1.1
    refine am_getf 3 10 k_r3 (am_at hc_M_read 49 rfl) rfl (by decide) rfl (by decide) k_ok3 (Or.inl (tw 316 rfl rfl)) (congrArg Value.int hk0) ?_
    refine am_go cd_M_read hc_M_read 50 2 (pc' := 97) (L' := [some (.ref 40), some (.int (nI (T p))), some (.int (nI u)), none]) (st' := [.int (nI (k + 1) - 1), .int 64]) rfl ?_
    rw [show nI (k + 1) - 1 = nI k from nI_pred k]
    refine am_go cd_M_read hc_M_read 52 1 (pc' := 98) (L' := [some (.ref 40), some (.int (nI (T p))), some (.int (nI u)), none]) (st' := [.int (64 * nI k)]) rfl ?_
    rw [show 64 * nI k = nI (64 * k) from pk_mul 64 k]
    refine am_go cd_M_read hc_M_read 53 1 (pc' := 99) (L' := [some (.ref 40), some (.int (nI (T p))), some (.int (nI u)), some (.int (nI (64 * k)))]) (st' := []) rfl ?_
    have loop : ∀ j s, s + j = 64 → cW l x (e + 3) L m_M_read 99 [some (.ref 40), some (.int (nI (T p))), some (.int (nI u)), some (.int (nI (64 * k + s)))] [] (am_tr D 47 (64 * k) s (fun s => zI (min (t s) (u : Int)))) (fun r d' => r = none ∧ rmF d d' ∧ ∀ s, s < 64 → d' 47 s = zI (v s)) := by
      intro j
      induction j with
      | zero =>
        intro s hs
        have hs64 : s = 64 := by omega
        subst hs64
        refine am_go cd_M_read hc_M_read 54 3 (pc' := 103) (L' := [some (.ref 40), some (.int (nI (T p))), some (.int (nI u)), some (.int (nI (64 * k + 64)))]) (st' := [.ref 40, .int 64, .int (nI (64 * k + 64))]) rfl ?_
        refine am_getf 3 10 k_r3 (am_at hc_M_read 57 rfl) rfl (by decide) rfl (by decide) k_ok3 (Or.inl (tw 316 rfl rfl)) (congrArg Value.int ((congrFun (am_tr_ne (by decide)) 10).trans hk0)) ?_
        refine am_go cd_M_read hc_M_read 58 1 (pc' := 107) (L' := [some (.ref 40), some (.int (nI (T p))), some (.int (nI u)), some (.int (nI (64 * k + 64)))]) (st' := [.int (64 * nI (k + 1)), .int (nI (64 * k + 64))]) rfl ?_
        rw [show 64 * nI (k + 1) = nI (64 * (k + 1)) from pk_mul 64 (k + 1)]
        refine am_icmp_ge 142 (am_at hc_M_read 59 rfl) (by decide) (fun q4 => ?_) (fun q4 => absurd (nI_le (by omega) (by omega)) q4)
        refine am_go cd_M_read hc_M_read 78 1 (pc' := 189) (L' := [some (.ref 40), some (.int (nI (T p))), some (.int (nI u)), some (.int (nI (64 * k + 64)))]) (st' := []) rfl ?_
        refine am_go cd_M_read hc_M_read 103 1 (pc' := 15) (L' := [some (.ref 40), some (.int (nI (T p))), some (.int (nI u)), some (.int (nI (64 * k + 64)))]) (st' := []) rfl ?_
        refine am_weak (L' := [some (.ref 40), none, none, none]) ⟨rfl, trivial⟩ ?_
        refine kk _ (hf3.trans rmF.r) ((congrFun (am_tr_ne (by decide)) 14).trans hat3) ⟨⟨?_, ?_, ⟨tb_min tok, fun s hs => ?_⟩, ?_⟩, ?_, hw40, ?_⟩
        · rw [am_tr_ne (by decide)]; exact hp3.1.1
        · exact hp3.1.2.1
        · rw [hkk]; exact am_tr_in hs
        · exact hp3.1.2.2.2.to (fun j hj => am_tr_out (Or.inl (by omega)))
        · rw [am_tr_ne (by decide)]; exact hp3.2.1
        · exact hp3.2.2.2.to (fun j hj => congrFun (am_tr_ne (by decide)) j)
      | succ j ih =>
        intro s hs
        have bt := tok.b (s := s) (by omega)
        have hrs : am_tr D 47 (64 * k) s (fun s => zI (min (t s) (u : Int))) 47 (64 * k + s) = zI (t s) := (am_tr_out (Or.inr (Nat.le_refl _))).trans (hrow s (by omega))
        refine am_go cd_M_read hc_M_read 54 3 (pc' := 103) (L' := [some (.ref 40), some (.int (nI (T p))), some (.int (nI u)), some (.int (nI (64 * k + s)))]) (st' := [.ref 40, .int 64, .int (nI (64 * k + s))]) rfl ?_
        refine am_getf 3 10 k_r3 (am_at hc_M_read 57 rfl) rfl (by decide) rfl (by decide) k_ok3 (Or.inl (tw 316 rfl rfl)) (congrArg Value.int ((congrFun (am_tr_ne (by decide)) 10).trans hk0)) ?_
        refine am_go cd_M_read hc_M_read 58 1 (pc' := 107) (L' := [some (.ref 40), some (.int (nI (T p))), some (.int (nI u)), some (.int (nI (64 * k + s)))]) (st' := [.int (64 * nI (k + 1)), .int (nI (64 * k + s))]) rfl ?_
        rw [show 64 * nI (k + 1) = nI (64 * (k + 1)) from pk_mul 64 (k + 1)]
        refine am_icmp_ge 142 (am_at hc_M_read 59 rfl) (by decide) (fun q4 => absurd q4 (nI_ge (by omega) (by omega))) (fun q4 => ?_)
        refine am_go cd_M_read hc_M_read 60 1 (pc' := 111) (L' := [some (.ref 40), some (.int (nI (T p))), some (.int (nI u)), some (.int (nI (64 * k + s)))]) (st' := [.ref 40]) rfl ?_
        refine am_getf 3 9 k_r3 (am_at hc_M_read 61 rfl) rfl (by decide) rfl (by decide) k_ok3 (Or.inl (tw 315 rfl rfl)) rfl ?_
        refine am_go cd_M_read hc_M_read 62 2 (pc' := 116) (L' := [some (.ref 40), some (.int (nI (T p))), some (.int (nI u)), some (.int (nI (64 * k + s)))]) (st' := [.ref 40, .int (nI (64 * k + s)), .ref 47]) rfl ?_
        refine am_getf 3 9 k_r3 (am_at hc_M_read 64 rfl) rfl (by decide) rfl (by decide) k_ok3 (Or.inl (tw 315 rfl rfl)) rfl ?_
        refine am_go cd_M_read hc_M_read 65 1 (pc' := 120) (L' := [some (.ref 40), some (.int (nI (T p))), some (.int (nI u)), some (.int (nI (64 * k + s)))]) (st' := [.int (nI (64 * k + s)), .ref 47, .int (nI (64 * k + s)), .ref 47]) rfl ?_
        refine am_iaload (64 * k + s) (am_at hc_M_read 66 rfl) rfl (Or.inl (by decide)) rfl (by show 64 * k + s < 832; omega) (Nat.le_of_ble_eq_true rfl) ?_
        rw [show am_tr D 47 (64 * k) s (fun s => zI (min (t s) (u : Int))) 47 (64 * k + s) = zI (t s) from hrs]
        refine am_go cd_M_read hc_M_read 67 1 (pc' := 122) (L' := [some (.ref 40), some (.int (nI (T p))), some (.int (nI u)), some (.int (nI (64 * k + s)))]) (st' := [.int (nI u), .int (zI (t s)), .int (nI (64 * k + s)), .ref 47]) rfl ?_
        rw [nI_zI u]
        refine am_icmp_le 129 (am_at hc_M_read 68 rfl) (by decide) (fun q5 => ?_) (fun q5 => ?_)
        · have z := (zI_le (by omega) (by omega) (by omega) (by omega)).mp q5
          refine am_go cd_M_read hc_M_read 71 1 (pc' := 130) (L' := [some (.ref 40), some (.int (nI (T p))), some (.int (zI u)), some (.int (nI (64 * k + s)))]) (st' := [.ref 40, .int (nI (64 * k + s)), .ref 47]) rfl ?_
          refine am_getf 3 9 k_r3 (am_at hc_M_read 72 rfl) rfl (by decide) rfl (by decide) k_ok3 (Or.inl (tw 315 rfl rfl)) rfl ?_
          refine am_go cd_M_read hc_M_read 73 1 (pc' := 134) (L' := [some (.ref 40), some (.int (nI (T p))), some (.int (zI u)), some (.int (nI (64 * k + s)))]) (st' := [.int (nI (64 * k + s)), .ref 47, .int (nI (64 * k + s)), .ref 47]) rfl ?_
          refine am_iaload (64 * k + s) (am_at hc_M_read 74 rfl) rfl (Or.inl (by decide)) rfl (by show 64 * k + s < 832; omega) (Nat.le_of_ble_eq_true rfl) ?_
          rw [show am_tr D 47 (64 * k) s (fun s => zI (min (t s) (u : Int))) 47 (64 * k + s) = zI (t s) from hrs]
          refine am_congrS (st' := [.int ((fun s => zI (min (t s) (u : Int))) s), .int (nI (64 * k + s)), .ref 47]) (by show [_, _, _] = [_, _, _]; rw [show (fun s => zI (min (t s) (u : Int))) s = zI (t s) from congrArg zI (Int.min_eq_left z)]) ?_
          refine am_iastore (64 * k + s) (am_at hc_M_read 75 rfl) rfl (by decide) rfl (by show 64 * k + s < 832; omega) (Nat.le_of_ble_eq_true rfl) ?_
          rw [am_tr_s D 47 (64 * k) s (fun s => zI (min (t s) (u : Int)))]
          refine am_go cd_M_read hc_M_read 76 2 (pc' := 99) (L' := [some (.ref 40), some (.int (nI (T p))), some (.int (zI u)), some (.int (nI (64 * k + s) + 1))]) (st' := []) rfl ?_
          rw [nI_1, ← nI_zI u]
          exact ih (s + 1) (by omega)
        · have z : ¬ t s ≤ u := fun z => q5 ((zI_le (by omega) (by omega) (by omega) (by omega)).mpr z)
          refine am_go cd_M_read hc_M_read 69 2 (pc' := 135) (L' := [some (.ref 40), some (.int (nI (T p))), some (.int (zI u)), some (.int (nI (64 * k + s)))]) (st' := [.int (zI u), .int (nI (64 * k + s)), .ref 47]) rfl ?_
          refine am_congrS (st' := [.int ((fun s => zI (min (t s) (u : Int))) s), .int (nI (64 * k + s)), .ref 47]) (by show [_, _, _] = [_, _, _]; rw [show (fun s => zI (min (t s) (u : Int))) s = zI u from congrArg zI (Int.min_eq_right (by omega))]) ?_
          refine am_iastore (64 * k + s) (am_at hc_M_read 75 rfl) rfl (by decide) rfl (by show 64 * k + s < 832; omega) (Nat.le_of_ble_eq_true rfl) ?_
          rw [am_tr_s D 47 (64 * k) s (fun s => zI (min (t s) (u : Int)))]
          refine am_go cd_M_read hc_M_read 76 2 (pc' := 99) (L' := [some (.ref 40), some (.int (nI (T p))), some (.int (zI u)), some (.int (nI (64 * k + s) + 1))]) (st' := []) rfl ?_
          rw [nI_1, ← nI_zI u]
          exact ih (s + 1) (by omega)
    have h0 := loop 64 0 rfl
    rw [am_tr_0] at h0
    exact h0
  have r4 : ∀ p ts ws ts' ws' c, p < n → T p = 41 → Red true ts ws ts' (c :: ws') → P (p + 1) ts' ws' → P p ts ws := by
    intro p ts ws ts' ws' c hpn hT hR kk d1 hf hat hp
    have ht := hf.tm hr
    have hp13 := hp.1.2.1
    have hw40 := hp.2.2.1
    refine am_go cd_M_read hc_M_read 9 1 (pc' := 16) (L' := [some (.ref 40), none, none, none]) (st' := [.ref 40]) rfl ?_
    refine am_getf 3 14 k_r3 (am_at hc_M_read 10 rfl) rfl (by decide) rfl (by decide) k_ok3 (Or.inl (tw 320 rfl rfl)) (congrArg Value.int hat) ?_
    refine am_go cd_M_read hc_M_read 11 1 (pc' := 20) (L' := [some (.ref 40), none, none, none]) (st' := [.ref 40, .int (nI p)]) rfl ?_
    refine am_getf 3 5 k_r3 (am_at hc_M_read 12 rfl) rfl (by decide) rfl (by decide) k_ok3 (Or.inl (tw 311 rfl rfl)) (congrArg Value.int ht.1) ?_
    refine am_icmp_ge 192 (am_at hc_M_read 13 rfl) (by decide) (fun q0 => absurd q0 (nI_ge (by omega) (by omega))) (fun q0 => ?_)
    refine am_go cd_M_read hc_M_read 14 1 (pc' := 27) (L' := [some (.ref 40), none, none, none]) (st' := [.ref 40]) rfl ?_
    refine am_getf 3 6 k_r3 (am_at hc_M_read 15 rfl) rfl (by decide) rfl (by decide) k_ok3 (Or.inl (tw 312 rfl rfl)) rfl ?_
    refine am_go cd_M_read hc_M_read 16 1 (pc' := 31) (L' := [some (.ref 40), none, none, none]) (st' := [.ref 40, .ref 44]) rfl ?_
    refine am_getf 3 14 k_r3 (am_at hc_M_read 17 rfl) rfl (by decide) rfl (by decide) k_ok3 (Or.inl (tw 320 rfl rfl)) (congrArg Value.int hat) ?_
    refine am_iaload (p) (am_at hc_M_read 18 rfl) rfl (Or.inl (by decide)) rfl (by show p < 40; omega) (Nat.le_of_ble_eq_true rfl) ?_
    rw [show d1 44 p = nI (T p) from (ht.2.2 p hpn).1]
    refine am_go cd_M_read hc_M_read 19 3 (pc' := 38) (L' := [some (.ref 40), some (.int (nI (T p))), none, none]) (st' := [.ref 40, .ref 40]) rfl ?_
    refine am_getf 3 14 k_r3 (am_at hc_M_read 22 rfl) rfl (by decide) rfl (by decide) k_ok3 (Or.inl (tw 320 rfl rfl)) (congrArg Value.int hat) ?_
    refine cW.callV1 44 [.int (bI (pr_dg T n p))] (st := []) [.int (nI p)] (am_at hc_M_read 23 rfl) g_M_digit (Or.inl (tw 401 rfl rfl)) (tw 403 rfl rfl) (tp 20 rfl rfl) 3 k_r3 rfl (by decide) rfl rfl rfl rfl (Nat.le_of_ble_eq_true rfl) (c_M_digit ht (by omega)) rfl rfl ?_
    have hdg : pr_dg T n p = false := decide_eq_false (fun z => by omega)
    rw [hdg]
    simp only [bI_f]
    refine am_if_eq 54 (am_at hc_M_read 24 rfl) (by decide) (fun q1 => ?_) (fun q1 => absurd rfl q1)
    refine am_go cd_M_read hc_M_read 28 2 (pc' := 56) (L' := [some (.ref 40), some (.int (nI (T p))), none, none]) (st' := [.ref 40, .ref 40]) rfl ?_
    refine am_getf 3 14 k_r3 (am_at hc_M_read 30 rfl) rfl (by decide) rfl (by decide) k_ok3 (Or.inl (tw 320 rfl rfl)) (congrArg Value.int hat) ?_
    refine am_go cd_M_read hc_M_read 31 2 (pc' := 61) (L' := [some (.ref 40), some (.int (nI (T p))), none, none]) (st' := [.int (nI p + 1), .ref 40]) rfl ?_
    rw [show nI p + 1 = nI (p + 1) from nI_1 _]
    refine am_putI 3 14 k_r3 (am_at hc_M_read 33 rfl) rfl (by decide) rfl (by decide) k_ok3 (tw 320 rfl rfl) rfl rfl rfl rfl ?_
    have ht1 : tm (am_u d1 40 14 (nI (p + 1))) T n := ht.u (by decide) (by decide)
    have hp1 : rep (am_u d1 40 14 (nI (p + 1))) ts ws := hp.at
    have hf1 : rmF d (am_u d1 40 14 (nI (p + 1))) := hf.trans (rmF.f (by decide))
    have hat1 : am_u d1 40 14 (nI (p + 1)) 40 14 = nI (p + 1) := am_u_i
    generalize am_u d1 40 14 (nI (p + 1)) = d2 at ht1 hp1 hf1 hat1 ⊢
    refine am_go cd_M_read hc_M_read 34 2 (pc' := 67) (L' := [some (.ref 40), some (.int (nI (T p))), none, none]) (st' := [.int 40, .int (nI (T p))]) rfl ?_
    refine am_icmp_ne 78 (am_at hc_M_read 36 rfl) (by decide) (fun q2 => ?_) (fun q2 => absurd ((nI_eq (b := 40) (by omega) (by decide)).mp q2) (by omega))
    refine am_go cd_M_read hc_M_read 41 2 (pc' := 81) (L' := [some (.ref 40), some (.int (nI (T p))), none, none]) (st' := [.int 60, .int (nI (T p))]) rfl ?_
    refine am_icmp_ne 145 (am_at hc_M_read 43 rfl) (by decide) (fun q3 => ?_) (fun q3 => absurd ((nI_eq (b := 60) (by omega) (by decide)).mp q3) (by omega))
    refine am_go cd_M_read hc_M_read 79 2 (pc' := 148) (L' := [some (.ref 40), some (.int (nI (T p))), none, none]) (st' := [.int 41, .int (nI (T p))]) rfl ?_
    refine am_icmp_ne 169 (am_at hc_M_read 81 rfl) (by decide) (fun q4 => absurd (by rw [hT]; rfl) q4) (fun q4 => ?_)
    refine am_go cd_M_read hc_M_read 82 2 (pc' := 153) (L' := [some (.ref 40), some (.int (nI (T p))), none, none]) (st' := [.int 1, .ref 40]) rfl ?_
    rw [show (1 : Int32) = bI true from rfl]
    refine cW.callV (st := []) [.int (bI true)] (am_at hc_M_read 84 rfl) g_M_reduce (Or.inl (tw 425 rfl rfl)) (tw 427 rfl rfl) (tp 26 rfl rfl) 3 k_r3 rfl (by decide) rfl rfl rfl rfl (Nat.le_of_ble_eq_true rfl) (c_M_reduce (e := e + 1) hR hp1) ?_
    rintro _ d3 ⟨rfl, hf3, hp3, hat3⟩
    show cW _ _ (e + 3) _ m_M_read 156 [some (.ref 40), some (.int (nI (T p))), none, none] [] _ _
    refine am_go cd_M_read hc_M_read 85 2 (pc' := 158) (L' := [some (.ref 40), some (.int (nI (T p))), none, none]) (st' := [.ref 40, .ref 40]) rfl ?_
    refine am_getf 3 13 k_r3 (am_at hc_M_read 87 rfl) rfl (by decide) rfl (by decide) k_ok3 (Or.inl (tw 319 rfl rfl)) (congrArg Value.int hp3.2.1) ?_
    refine am_go cd_M_read hc_M_read 88 2 (pc' := 163) (L' := [some (.ref 40), some (.int (nI (T p))), none, none]) (st' := [.int (nI (ws'.length + 1) - 1), .ref 40]) rfl ?_
    rw [show nI (ws'.length + 1) - 1 = nI ws'.length from nI_pred _]
    refine am_putI 3 13 k_r3 (am_at hc_M_read 90 rfl) rfl (by decide) rfl (by decide) k_ok3 (tw 319 rfl rfl) rfl rfl rfl rfl ?_
    refine am_go cd_M_read hc_M_read 91 1 (pc' := 189) (L' := [some (.ref 40), some (.int (nI (T p))), none, none]) (st' := []) rfl ?_
    refine am_go cd_M_read hc_M_read 103 1 (pc' := 15) (L' := [some (.ref 40), some (.int (nI (T p))), none, none]) (st' := []) rfl ?_
    refine am_weak (L' := [some (.ref 40), none, none, none]) ⟨rfl, trivial⟩ ?_
    have hl4 := hp3.2.2.1
    simp only [List.length_cons] at hl4
    exact kk _ ((hf1.trans hf3).trans (rmF.f (by decide))) ((am_u_o (by decide)).trans (hat3.trans hat1)) ⟨⟨(am_u_o (by decide)).trans hp3.1.1, hp3.1.2.1, hp3.1.2.2.to (fun j _ => congrFun (am_u_ne 47 (by decide)) j)⟩, am_u_i, by omega, hp3.2.2.2.2.to (fun j _ => congrFun (am_u_ne 49 (by decide)) j)⟩
  have r5 : ∀ p ts ws ts' ws', p < n → (T p = 43 ∨ T p = 94) → Red (decide (T p = 94)) ts ws ts' ws' → ws'.length < 40 → P (p + 1) ts' (T p :: ws') → P p ts ws := by
    intro p ts ws ts' ws' hpn hT hR hl kk d1 hf hat hp
    have ht := hf.tm hr
    have hp13 := hp.1.2.1
    have hw40 := hp.2.2.1
    refine am_go cd_M_read hc_M_read 9 1 (pc' := 16) (L' := [some (.ref 40), none, none, none]) (st' := [.ref 40]) rfl ?_
    refine am_getf 3 14 k_r3 (am_at hc_M_read 10 rfl) rfl (by decide) rfl (by decide) k_ok3 (Or.inl (tw 320 rfl rfl)) (congrArg Value.int hat) ?_
    refine am_go cd_M_read hc_M_read 11 1 (pc' := 20) (L' := [some (.ref 40), none, none, none]) (st' := [.ref 40, .int (nI p)]) rfl ?_
    refine am_getf 3 5 k_r3 (am_at hc_M_read 12 rfl) rfl (by decide) rfl (by decide) k_ok3 (Or.inl (tw 311 rfl rfl)) (congrArg Value.int ht.1) ?_
    refine am_icmp_ge 192 (am_at hc_M_read 13 rfl) (by decide) (fun q0 => absurd q0 (nI_ge (by omega) (by omega))) (fun q0 => ?_)
    refine am_go cd_M_read hc_M_read 14 1 (pc' := 27) (L' := [some (.ref 40), none, none, none]) (st' := [.ref 40]) rfl ?_
    refine am_getf 3 6 k_r3 (am_at hc_M_read 15 rfl) rfl (by decide) rfl (by decide) k_ok3 (Or.inl (tw 312 rfl rfl)) rfl ?_
    refine am_go cd_M_read hc_M_read 16 1 (pc' := 31) (L' := [some (.ref 40), none, none, none]) (st' := [.ref 40, .ref 44]) rfl ?_
    refine am_getf 3 14 k_r3 (am_at hc_M_read 17 rfl) rfl (by decide) rfl (by decide) k_ok3 (Or.inl (tw 320 rfl rfl)) (congrArg Value.int hat) ?_
    refine am_iaload (p) (am_at hc_M_read 18 rfl) rfl (Or.inl (by decide)) rfl (by show p < 40; omega) (Nat.le_of_ble_eq_true rfl) ?_
    rw [show d1 44 p = nI (T p) from (ht.2.2 p hpn).1]
    refine am_go cd_M_read hc_M_read 19 3 (pc' := 38) (L' := [some (.ref 40), some (.int (nI (T p))), none, none]) (st' := [.ref 40, .ref 40]) rfl ?_
    refine am_getf 3 14 k_r3 (am_at hc_M_read 22 rfl) rfl (by decide) rfl (by decide) k_ok3 (Or.inl (tw 320 rfl rfl)) (congrArg Value.int hat) ?_
    refine cW.callV1 44 [.int (bI (pr_dg T n p))] (st := []) [.int (nI p)] (am_at hc_M_read 23 rfl) g_M_digit (Or.inl (tw 401 rfl rfl)) (tw 403 rfl rfl) (tp 20 rfl rfl) 3 k_r3 rfl (by decide) rfl rfl rfl rfl (Nat.le_of_ble_eq_true rfl) (c_M_digit ht (by omega)) rfl rfl ?_
    have hdg : pr_dg T n p = false := decide_eq_false (fun z => by omega)
    rw [hdg]
    simp only [bI_f]
    refine am_if_eq 54 (am_at hc_M_read 24 rfl) (by decide) (fun q1 => ?_) (fun q1 => absurd rfl q1)
    refine am_go cd_M_read hc_M_read 28 2 (pc' := 56) (L' := [some (.ref 40), some (.int (nI (T p))), none, none]) (st' := [.ref 40, .ref 40]) rfl ?_
    refine am_getf 3 14 k_r3 (am_at hc_M_read 30 rfl) rfl (by decide) rfl (by decide) k_ok3 (Or.inl (tw 320 rfl rfl)) (congrArg Value.int hat) ?_
    refine am_go cd_M_read hc_M_read 31 2 (pc' := 61) (L' := [some (.ref 40), some (.int (nI (T p))), none, none]) (st' := [.int (nI p + 1), .ref 40]) rfl ?_
    rw [show nI p + 1 = nI (p + 1) from nI_1 _]
    refine am_putI 3 14 k_r3 (am_at hc_M_read 33 rfl) rfl (by decide) rfl (by decide) k_ok3 (tw 320 rfl rfl) rfl rfl rfl rfl ?_
    have ht1 : tm (am_u d1 40 14 (nI (p + 1))) T n := ht.u (by decide) (by decide)
    have hp1 : rep (am_u d1 40 14 (nI (p + 1))) ts ws := hp.at
    have hf1 : rmF d (am_u d1 40 14 (nI (p + 1))) := hf.trans (rmF.f (by decide))
    have hat1 : am_u d1 40 14 (nI (p + 1)) 40 14 = nI (p + 1) := am_u_i
    generalize am_u d1 40 14 (nI (p + 1)) = d2 at ht1 hp1 hf1 hat1 ⊢
    refine am_go cd_M_read hc_M_read 34 2 (pc' := 67) (L' := [some (.ref 40), some (.int (nI (T p))), none, none]) (st' := [.int 40, .int (nI (T p))]) rfl ?_
    refine am_icmp_ne 78 (am_at hc_M_read 36 rfl) (by decide) (fun q2 => ?_) (fun q2 => absurd ((nI_eq (b := 40) (by omega) (by decide)).mp q2) (by omega))
    refine am_go cd_M_read hc_M_read 41 2 (pc' := 81) (L' := [some (.ref 40), some (.int (nI (T p))), none, none]) (st' := [.int 60, .int (nI (T p))]) rfl ?_
    refine am_icmp_ne 145 (am_at hc_M_read 43 rfl) (by decide) (fun q3 => ?_) (fun q3 => absurd ((nI_eq (b := 60) (by omega) (by decide)).mp q3) (by omega))
    refine am_go cd_M_read hc_M_read 79 2 (pc' := 148) (L' := [some (.ref 40), some (.int (nI (T p))), none, none]) (st' := [.int 41, .int (nI (T p))]) rfl ?_
    refine am_icmp_ne 169 (am_at hc_M_read 81 rfl) (by decide) (fun q4 => ?_) (fun q4 => absurd ((nI_eq (b := 41) (by omega) (by decide)).mp q4) (by omega))
    have hT2 : T p < 128 := by omega
    have tail : cW l x (e + 3) L m_M_read 181 [some (.ref 40), some (.int (nI (T p))), none, none] [.int (bI (decide (T p = 94))), .ref 40] d2 (fun r d' => r = none ∧ rmF d d' ∧ ∀ s, s < 64 → d' 47 s = zI (v s)) := by
      refine cW.callV (st := []) [.int (bI (decide (T p = 94)))] (am_at hc_M_read 99 rfl) g_M_reduce (Or.inl (tw 425 rfl rfl)) (tw 427 rfl rfl) (tp 26 rfl rfl) 3 k_r3 rfl (by decide) rfl rfl rfl rfl (Nat.le_of_ble_eq_true rfl) (c_M_reduce (e := e + 1) hR hp1) ?_
      rintro _ d3 ⟨rfl, hf3, hp3, hat3⟩
      show cW _ _ (e + 3) _ m_M_read 184 [some (.ref 40), some (.int (nI (T p))), none, none] [] _ _
      refine am_go cd_M_read hc_M_read 100 2 (pc' := 186) (L' := [some (.ref 40), some (.int (nI (T p))), none, none]) (st' := [.int (nI (T p)), .ref 40]) rfl ?_
      refine cW.callV1 189 [] (st := []) [.int (nI (T p))] (am_at hc_M_read 102 rfl) g_M_hold (Or.inl (tw 421 rfl rfl)) (tw 423 rfl rfl) (tp 25 rfl rfl) 3 k_r3 rfl (by decide) rfl rfl rfl rfl (Nat.le_of_ble_eq_true rfl) (c_M_hold hp3.2.1 hl) rfl rfl ?_
      refine am_go cd_M_read hc_M_read 103 1 (pc' := 15) (L' := [some (.ref 40), some (.int (nI (T p))), none, none]) (st' := []) rfl ?_
      refine am_weak (L' := [some (.ref 40), none, none, none]) ⟨rfl, trivial⟩ ?_
      have hpw : rep (am_u (am_u d3 49 ws'.length (nI (T p))) 40 13 (nI (ws'.length + 1))) ts' (T p :: ws') := ⟨⟨(am_u_o (by decide)).trans ((congrFun (am_u_ne 40 (by decide)) 10).trans hp3.1.1), hp3.1.2.1, hp3.1.2.2.to (fun j _ => by rw [am_u_ne 47 (by decide), am_u_ne 47 (by decide)])⟩, am_u_i, by simp only [List.length_cons]; omega, ⟨by rw [am_u_ne 49 (by decide)]; exact am_u_i, by omega⟩, hp3.2.2.2.to (fun j hj => by rw [am_u_ne 49 (by decide)]; exact am_u_o (fun z => by omega))⟩
      exact kk _ (((hf1.trans hf3).trans rmF.w).trans (rmF.f (by decide))) ((am_u_o (by decide)).trans ((congrFun (am_u_ne 40 (by decide)) 14).trans (hat3.trans hat1))) hpw
    refine am_go cd_M_read hc_M_read 92 3 (pc' := 173) (L' := [some (.ref 40), some (.int (nI (T p))), none, none]) (st' := [.int 94, .int (nI (T p)), .ref 40]) rfl ?_
    refine am_icmp_ne 180 (am_at hc_M_read 95 rfl) (by decide) (fun q5 => ?_) (fun q5 => ?_)
    · have z : ¬ T p = 94 := fun z => q5 (by rw [z]; rfl)
      refine am_go cd_M_read hc_M_read 98 1 (pc' := 181) (L' := [some (.ref 40), some (.int (nI (T p))), none, none]) (st' := [.int 0, .ref 40]) rfl ?_
      have h0 := tail
      rw [decide_eq_false z] at h0
      exact h0
    · have z : T p = 94 := (nI_eq (b := 94) (by omega) (by decide)).mp q5
      refine am_go cd_M_read hc_M_read 96 2 (pc' := 181) (L' := [some (.ref 40), some (.int (nI (T p))), none, none]) (st' := [.int 1, .ref 40]) rfl ?_
      have h0 := tail
      rw [decide_eq_true z] at h0
      exact h0
  have r6 : ∀ ts ws t, Red true ts ws [t] [] → (∀ s, s < 64 → t s = v s) → P n ts ws := by
    intro ts ws t hR hv d1 hf hat hp
    have ht := hf.tm hr
    have hp13 := hp.1.2.1
    have hw40 := hp.2.2.1
    refine am_go cd_M_read hc_M_read 9 1 (pc' := 16) (L' := [some (.ref 40), none, none, none]) (st' := [.ref 40]) rfl ?_
    refine am_getf 3 14 k_r3 (am_at hc_M_read 10 rfl) rfl (by decide) rfl (by decide) k_ok3 (Or.inl (tw 320 rfl rfl)) (congrArg Value.int hat) ?_
    refine am_go cd_M_read hc_M_read 11 1 (pc' := 20) (L' := [some (.ref 40), none, none, none]) (st' := [.ref 40, .int (nI n)]) rfl ?_
    refine am_getf 3 5 k_r3 (am_at hc_M_read 12 rfl) rfl (by decide) rfl (by decide) k_ok3 (Or.inl (tw 311 rfl rfl)) (congrArg Value.int ht.1) ?_
    refine am_icmp_ge 192 (am_at hc_M_read 13 rfl) (by decide) (fun q0 => ?_) (fun q0 => absurd (nI_le (by omega) (by omega)) q0)
    refine am_go cd_M_read hc_M_read 104 2 (pc' := 194) (L' := [some (.ref 40), none, none, none]) (st' := [.int 1, .ref 40]) rfl ?_
    refine cW.callV (st := []) [.int (bI true)] (am_at hc_M_read 106 rfl) g_M_reduce (Or.inl (tw 425 rfl rfl)) (tw 427 rfl rfl) (tp 26 rfl rfl) 3 k_r3 rfl (by decide) rfl rfl rfl rfl (Nat.le_of_ble_eq_true rfl) (c_M_reduce (all := true) (e := e + 1) hR hp) ?_
    rintro _ d3 ⟨rfl, hf3, hp3, hat3⟩
    show cW _ _ (e + 3) _ m_M_read 197 [some (.ref 40), none, none, none] [] _ _
    exact am_vret (am_at hc_M_read 107 rfl) rfl ⟨rfl, rfl, rfl, hf.trans hf3, fun s hs => by have := hp3.1.2.2.1.2 s hs; rw [hv s hs] at this; simpa using this⟩
  have h0 := hP P ⟨r1, r2, r3, r4, r5, r6⟩
  refine cM.go (by decide) (by simp [Value.category]) (Nat.le_of_ble_eq_true rfl) ?_
  refine am_go cd_M_read hc_M_read 0 2 (pc' := 2) (L' := [some (.ref 40), none, none, none]) (st' := [.int 0, .ref 40]) rfl ?_
  refine am_putI 3 10 k_r3 (am_at hc_M_read 2 rfl) rfl (by decide) rfl (by decide) k_ok3 (tw 316 rfl rfl) rfl rfl rfl rfl ?_
  refine am_go cd_M_read hc_M_read 3 2 (pc' := 7) (L' := [some (.ref 40), none, none, none]) (st' := [.int 0, .ref 40]) rfl ?_
  refine am_putI 3 13 k_r3 (am_at hc_M_read 5 rfl) rfl (by decide) rfl (by decide) k_ok3 (tw 319 rfl rfl) rfl rfl rfl rfl ?_
  refine am_go cd_M_read hc_M_read 6 2 (pc' := 12) (L' := [some (.ref 40), none, none, none]) (st' := [.int 0, .ref 40]) rfl ?_
  refine am_putI 3 14 k_r3 (am_at hc_M_read 8 rfl) rfl (by decide) rfl (by decide) k_ok3 (tw 320 rfl rfl) rfl rfl rfl rfl ?_
  exact h0 _ (((rmF.f (by decide)).trans (rmF.f (by decide))).trans (rmF.f (by decide))) am_u_i ⟨⟨by rw [am_u_o (by decide), am_u_o (by decide)]; exact am_u_i, by decide, trivial⟩, by rw [am_u_o (by decide)]; exact am_u_i, by decide, trivial⟩
