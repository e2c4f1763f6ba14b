set_option maxRecDepth 100000 in
set_option maxHeartbeats 4000000 in
theorem c_M_submit {l : Launch} {x : am_X} {e L : Nat} {d : am_D} {cash esc pd pt ow : Nat → Int32} {res : Nat → Int} {wt : Nat → Nat → Int} {T : Nat → Nat} {n : Nat} {se : Int32} {cl : Bool} (h : RM cash esc pd pt ow res wt T n se cl d) (v : Int32) : cM l x (e + 4) L m_M_submit [.ref 40, .int v] d (fun r d' => r = some (.int (subA esc cl T n v)) ∧ RM cash esc pd (subP pt esc cl T n v) ow res (subW wt esc cl T n v) T (if opB cl v then 0 else n) se cl d' ∧ fM d d') := by
  obtain ⟨h1, h2, h3, h4, h5, h6, h7, h8, h9, h10⟩ := id h
  refine cM.go (by decide) (by simp [Value.category]) (Nat.le_of_ble_eq_true rfl) ?_
  refine am_go cd_M_submit hc_M_submit 0 1 (pc' := 1) (L' := [some (.ref 40), some (.int v), none, none]) (st' := [.ref 40]) rfl ?_
  refine am_getf 3 0 k_r3 (am_at hc_M_submit 1 rfl) rfl (by decide) rfl (by decide) k_ok3 (Or.inl (tw 306 rfl rfl)) (congrArg Value.int h10) ?_
  cases cl with
  | true =>
    simp only [bI_t]
    refine am_if_ne 14 (am_at hc_M_submit 2 rfl) (by decide) (fun q0 => ?_) (fun q0 => absurd q0 (by decide))
    have hno : ¬ opB true v := fun z => by cases z.1
    simp only [subA, subW, subP, if_neg hno]
    refine am_go cd_M_submit hc_M_submit 6 1 (pc' := 16) (L' := [some (.ref 40), some (.int v), none, none]) (st' := [.int (-2)]) rfl ?_
    exact am_iret (am_at hc_M_submit 7 rfl) rfl rfl ⟨rfl, rfl, rfl, h, fM.rf⟩
  | false =>
    simp only [bI_f]
    refine am_if_ne 14 (am_at hc_M_submit 2 rfl) (by decide) (fun q0 => absurd rfl q0) (fun q0 => ?_)
    refine am_go cd_M_submit hc_M_submit 3 1 (pc' := 8) (L' := [some (.ref 40), some (.int v), none, none]) (st' := [.int v]) rfl ?_
    refine cW.callS1 11 [.int (if isB v then 1 else 0)] (st := []) [.int v] (am_at hc_M_submit 4 rfl) g_M_bidder (Or.inl (tw 368 rfl rfl)) (tw 369 rfl rfl) rfl rfl (Nat.le_of_ble_eq_true rfl) (c_mB v) rfl rfl ?_
    by_cases hb : isB v
    · simp only [if_pos hb]
      refine am_if_ne 17 (am_at hc_M_submit 5 rfl) (by decide) (fun q1 => ?_) (fun q1 => absurd q1 (by decide))
      have hok : opB false v := ⟨rfl, hb⟩
      simp only [subA, subW, subP, if_pos hok]
      obtain ⟨b, hb5, rfl⟩ := isB_of hb
      simp only [nI_cl (show b < 1000000 by omega)]
      have htm : tm d T n := h8
      have hn40 := h8.2.1
      refine am_go cd_M_submit hc_M_submit 8 1 (pc' := 18) (L' := [some (.ref 40), some (.int (nI b)), none, none]) (st' := [.ref 40]) rfl ?_
      refine cW.callV (st := []) [] (am_at hc_M_submit 9 rfl) g_M_fault (Or.inl (tw 397 rfl rfl)) (tw 399 rfl rfl) (tp 19 rfl rfl) 3 k_r3 rfl (by decide) rfl rfl rfl rfl (Nat.le_of_ble_eq_true rfl) (c_M_fault (e := e + 2) htm) ?_
      rintro _ d1 ⟨rfl, vf, hd1, hvf⟩
      show cW _ _ (e + 4) _ m_M_submit 21 [some (.ref 40), some (.int (nI b)), none, none] [.int (zI (au_run T n n 0 0 0 0 0).1)] _ _
      obtain ⟨a1, a2⟩ := au_read T n
      obtain ⟨gd1, gd2⟩ := pr_read_good T n
      have hR1 : RM cash esc pd pt ow res wt T n se false d1 := by rw [hd1]; exact h.off (fun j hj => am_u_o (fun z => by omega)) (fun a ha => am_u_ne a (by omega))
      have hf1 : fM d d1 := by rw [hd1]; exact fM.u (by decide)
      have hv15 : d1 40 15 = vf := by rw [hd1]; exact am_u_i
      have hall := fun (c : Nat) (tb : Tb) hh => rd_all (T := T) (n := n) (c := c) (v := tb) hn40 hh
      generalize hRR : pr_read T n = RR at a1 a2 gd1 gd2 hall ⊢
      cases RR with
      | inl q =>
        have hq := gd1 q rfl
        have ea := a1 q rfl
        rw [ea, ← nI_zI]
        refine am_go cd_M_submit hc_M_submit 10 2 (pc' := 23) (L' := [some (.ref 40), some (.int (nI b)), some (.int (nI q)), none]) (st' := [.int (nI q)]) rfl ?_
        refine am_if_ge 30 (am_at hc_M_submit 12 rfl) (by decide) (fun q3 => ?_) (fun q3 => absurd (by first | exact nI_pos (by omega) | exact Int32.not_lt.mp (nI_pos (by omega))) q3)
        refine am_go cd_M_submit hc_M_submit 15 2 (pc' := 32) (L' := [some (.ref 40), some (.int (nI b)), some (.int (nI q)), none]) (st' := [.int 0, .ref 40]) rfl ?_
        refine am_putI 3 5 k_r3 (am_at hc_M_submit 17 rfl) rfl (by decide) rfl (by decide) k_ok3 (tw 311 rfl rfl) rfl rfl rfl rfl ?_
        refine am_go cd_M_submit hc_M_submit 18 1 (pc' := 36) (L' := [some (.ref 40), some (.int (nI b)), some (.int (nI q)), none]) (st' := [.int (nI q)]) rfl ?_
        refine am_if_lt 41 (am_at hc_M_submit 19 rfl) (by decide) (fun q4 => absurd q4 (nI_pos (by omega))) (fun q4 => ?_)
        refine am_go cd_M_submit hc_M_submit 20 1 (pc' := 40) (L' := [some (.ref 40), some (.int (nI b)), some (.int (nI q)), none]) (st' := [.int (nI q)]) rfl ?_
        exact am_iret (am_at hc_M_submit 21 rfl) rfl rfl ⟨rfl, rfl, rfl, hR1.n0, hf1.tr (fM.u (by decide))⟩
      | inr r =>
        obtain ⟨c, tb⟩ := r
        obtain ⟨g1, g2⟩ := gd2 c tb rfl
        have ea := a2 c tb rfl
        rw [ea] at hvf ⊢
        have hvc : vf = nI c := hvf rfl
        show cW _ _ (e + 4) _ m_M_submit 21 [some (.ref 40), some (.int (nI b)), none, none] [.int (-1)] _ _
        refine am_go cd_M_submit hc_M_submit 10 2 (pc' := 23) (L' := [some (.ref 40), some (.int (nI b)), some (.int (-1)), none]) (st' := [.int (-1)]) rfl ?_
        refine am_if_ge 30 (am_at hc_M_submit 12 rfl) (by decide) (fun q3 => absurd q3 (by decide)) (fun q3 => ?_)
        refine am_go cd_M_submit hc_M_submit 13 1 (pc' := 27) (L' := [some (.ref 40), some (.int (nI b)), some (.int (-1)), none]) (st' := [.ref 40]) rfl ?_
        refine cW.callV (st := []) [] (am_at hc_M_submit 14 rfl) g_M_read (Or.inl (tw 409 rfl rfl)) (tw 411 rfl rfl) (tp 22 rfl rfl) 3 k_r3 rfl (by decide) rfl rfl rfl rfl (Nat.le_of_ble_eq_true rfl) (c_M_read (hR1.2.2.2.2.2.2.2.1) (hall c tb rfl)) ?_
        rintro _ d2 ⟨rfl, hF, htb⟩
        show cW _ _ (e + 4) _ m_M_submit 30 [some (.ref 40), some (.int (nI b)), some (.int (-1)), none] [] _ _
        have hR2 : RM cash esc pd pt ow res wt T n se false d2 := hR1.off (fun j hj => hF.2 j (by omega) (by omega) (by omega)) (fun a ha => hF.1 a (by omega) (by omega) (by omega) (by omega))
        have hf2 : fM d d2 := hf1.tr (fun a ha => hF.1 a (by omega) (by omega) (by omega) (by omega))
        have hc15 : d2 40 15 = nI c := ((hF.2 15 (by decide) (by decide) (by decide)).trans hv15).trans hvc
        refine am_go cd_M_submit hc_M_submit 15 2 (pc' := 32) (L' := [some (.ref 40), some (.int (nI b)), some (.int (-1)), none]) (st' := [.int 0, .ref 40]) rfl ?_
        refine am_putI 3 5 k_r3 (am_at hc_M_submit 17 rfl) rfl (by decide) rfl (by decide) k_ok3 (tw 311 rfl rfl) rfl rfl rfl rfl ?_
        have hR3 := hR2.n0
        have hf3 : fM d (am_u d2 40 5 0) := hf2.tr (fM.u (by decide))
        have htb3 : ∀ s, s < 64 → am_u d2 40 5 0 47 s = zI (tb s) := fun s hs => by rw [am_u_ne 47 (by decide)]; exact htb s hs
        have hc3 : am_u d2 40 5 0 40 15 = nI c := (am_u_o (by decide)).trans hc15
        generalize am_u d2 40 5 0 = d3 at hR3 hf3 htb3 hc3 ⊢
        refine am_go cd_M_submit hc_M_submit 18 1 (pc' := 36) (L' := [some (.ref 40), some (.int (nI b)), some (.int (-1)), none]) (st' := [.int (-1)]) rfl ?_
        refine am_if_lt 41 (am_at hc_M_submit 19 rfl) (by decide) (fun q4 => ?_) (fun q4 => absurd (by decide) q4)
        refine am_go cd_M_submit hc_M_submit 22 1 (pc' := 42) (L' := [some (.ref 40), some (.int (nI b)), some (.int (-1)), none]) (st' := [.ref 40]) rfl ?_
        refine am_getf 3 9 k_r3 (am_at hc_M_submit 23 rfl) rfl (by decide) rfl (by decide) k_ok3 (Or.inl (tw 315 rfl rfl)) rfl ?_
        refine am_go cd_M_submit hc_M_submit 24 1 (pc' := 47) (L' := [some (.ref 40), some (.int (nI b)), some (.int (-1)), none]) (st' := [.int 63, .ref 47]) rfl ?_
        refine am_iaload (63) (am_at hc_M_submit 25 rfl) rfl (Or.inl (by decide)) rfl (Nat.le_of_ble_eq_true rfl) (Nat.le_of_ble_eq_true rfl) ?_
        rw [show d3 47 63 = zI (tb 63) from htb3 63 (by decide)]
        refine am_go cd_M_submit hc_M_submit 26 1 (pc' := 49) (L' := [some (.ref 40), some (.int (nI b)), some (.int (-1)), none]) (st' := [.ref 40, .int (zI (tb 63))]) rfl ?_
        refine am_getf 3 2 k_r3 (am_at hc_M_submit 27 rfl) rfl (by decide) rfl (by decide) k_ok3 (Or.inl (tw 308 rfl rfl)) rfl ?_
        refine am_go cd_M_submit hc_M_submit 28 1 (pc' := 53) (L' := [some (.ref 40), some (.int (nI b)), some (.int (-1)), none]) (st' := [.int (nI b), .ref 42, .int (zI (tb 63))]) rfl ?_
        refine am_iaload (b) (am_at hc_M_submit 29 rfl) rfl (Or.inl (by decide)) rfl (by show b < 5; omega) (Nat.le_of_ble_eq_true rfl) ?_
        rw [show d3 42 b = esc b from hR3.2.1 b hb5]
        refine am_icmp_le 60 (am_at hc_M_submit 30 rfl) (by decide) (fun q5 => ?_) (fun q5 => ?_)
        · have hno : ¬ esc b < zI (tb 63) := Int32.not_lt.mpr q5
          simp only [if_neg hno]
          refine am_go cd_M_submit hc_M_submit 33 2 (pc' := 62) (L' := [some (.ref 40), some (.int (nI b)), some (.int (-1)), some (.int 0)]) (st' := []) rfl ?_
          have loop : ∀ q j, j + q = 64 → cW l x (e + 4) L m_M_submit 62 [some (.ref 40), some (.int (nI b)), some (.int (-1)), some (.int (nI j))] [] (am_sg d3 45 (64 * b) j (fun s => zI (tb s))) (fun r d' => r = some (.int (-1)) ∧ RM cash esc pd (upd pt b (nI c)) ow res (updw wt b tb) T 0 se false d' ∧ fM d d') := by
            intro q
            induction q with
            | zero =>
              intro j hj
              have hj64 : j = 64 := by omega
              subst hj64
              refine am_go cd_M_submit hc_M_submit 35 2 (pc' := 65) (L' := [some (.ref 40), some (.int (nI b)), some (.int (-1)), some (.int (nI 64))]) (st' := [.int 64, .int (nI 64)]) rfl ?_
              refine am_icmp_ge 91 (am_at hc_M_submit 37 rfl) (by decide) (fun q6 => ?_) (fun q6 => absurd (nI_le (a := 64) (b := 64) (by omega) (by omega)) q6)
              refine am_go cd_M_submit hc_M_submit 52 1 (pc' := 92) (L' := [some (.ref 40), some (.int (nI b)), some (.int (-1)), some (.int (nI 64))]) (st' := [.ref 40]) rfl ?_
              refine am_getf 3 8 k_r3 (am_at hc_M_submit 53 rfl) rfl (by decide) rfl (by decide) k_ok3 (Or.inl (tw 314 rfl rfl)) rfl ?_
              refine am_go cd_M_submit hc_M_submit 54 2 (pc' := 97) (L' := [some (.ref 40), some (.int (nI b)), some (.int (-1)), some (.int (nI 64))]) (st' := [.ref 40, .int (nI b), .ref 46]) rfl ?_
              refine am_getf 3 15 k_r3 (am_at hc_M_submit 56 rfl) rfl (by decide) rfl (by decide) k_ok3 (Or.inl (tw 321 rfl rfl)) (congrArg Value.int ((congrFun (am_sg_ne (by decide)) 15).trans hc3)) ?_
              refine am_iastore (b) (am_at hc_M_submit 57 rfl) rfl (by decide) rfl (by show b < 5; omega) (Nat.le_of_ble_eq_true rfl) ?_
              refine am_go cd_M_submit hc_M_submit 58 1 (pc' := 102) (L' := [some (.ref 40), some (.int (nI b)), some (.int (-1)), some (.int (nI 64))]) (st' := [.int (-1)]) rfl ?_
              exact am_iret (am_at hc_M_submit 59 rfl) rfl rfl ⟨rfl, rfl, rfl, (hR3.wt hb5 g2 (fun s _ => rfl)).pt, (hf3.tr (fM.s (by decide))).tr (fM.u (by decide))⟩
            | succ q ih =>
              intro j hj
              refine am_go cd_M_submit hc_M_submit 35 2 (pc' := 65) (L' := [some (.ref 40), some (.int (nI b)), some (.int (-1)), some (.int (nI j))]) (st' := [.int 64, .int (nI j)]) rfl ?_
              refine am_icmp_ge 91 (am_at hc_M_submit 37 rfl) (by decide) (fun q6 => absurd q6 (nI_ge (a := j) (b := 64) (by omega) (by omega))) (fun q6 => ?_)
              refine am_go cd_M_submit hc_M_submit 38 1 (pc' := 69) (L' := [some (.ref 40), some (.int (nI b)), some (.int (-1)), some (.int (nI j))]) (st' := [.ref 40]) rfl ?_
              refine am_getf 3 7 k_r3 (am_at hc_M_submit 39 rfl) rfl (by decide) rfl (by decide) k_ok3 (Or.inl (tw 313 rfl rfl)) rfl ?_
              refine am_go cd_M_submit hc_M_submit 40 3 (pc' := 76) (L' := [some (.ref 40), some (.int (nI b)), some (.int (-1)), some (.int (nI j))]) (st' := [.int (64 * nI b), .ref 45]) rfl ?_
              rw [show 64 * nI b = nI (64 * b) from pk_mul 64 b]
              refine am_go cd_M_submit hc_M_submit 43 2 (pc' := 78) (L' := [some (.ref 40), some (.int (nI b)), some (.int (-1)), some (.int (nI j))]) (st' := [.int (nI (64 * b) + nI j), .ref 45]) rfl ?_
              rw [show nI (64 * b) + nI j = nI (64 * b + j) from nI_add _ _]
              refine am_go cd_M_submit hc_M_submit 45 1 (pc' := 79) (L' := [some (.ref 40), some (.int (nI b)), some (.int (-1)), some (.int (nI j))]) (st' := [.ref 40, .int (nI (64 * b + j)), .ref 45]) rfl ?_
              refine am_getf 3 9 k_r3 (am_at hc_M_submit 46 rfl) rfl (by decide) rfl (by decide) k_ok3 (Or.inl (tw 315 rfl rfl)) rfl ?_
              refine am_go cd_M_submit hc_M_submit 47 1 (pc' := 83) (L' := [some (.ref 40), some (.int (nI b)), some (.int (-1)), some (.int (nI j))]) (st' := [.int (nI j), .ref 47, .int (nI (64 * b + j)), .ref 45]) rfl ?_
              refine am_iaload (j) (am_at hc_M_submit 48 rfl) rfl (Or.inl (by decide)) rfl (by show j < 832; omega) (Nat.le_of_ble_eq_true rfl) ?_
              rw [show am_sg d3 45 (64 * b) j (fun s => zI (tb s)) 47 j = (fun s => zI (tb s)) j from (congrFun (am_sg_ne (by decide)) j).trans (htb3 j (by omega))]
              refine am_iastore (64 * b + j) (am_at hc_M_submit 49 rfl) rfl (by decide) rfl (by show 64 * b + j < 320; omega) (Nat.le_of_ble_eq_true rfl) ?_
              rw [am_sg_s d3 45 (64 * b) j (fun s => zI (tb s))]
              refine am_go cd_M_submit hc_M_submit 50 2 (pc' := 62) (L' := [some (.ref 40), some (.int (nI b)), some (.int (-1)), some (.int (nI j + 1))]) (st' := []) rfl ?_
              rw [nI_1]
              exact ih (j + 1) (by omega)
          have h0 := loop 64 0 rfl
          rw [am_sg_0] at h0
          exact h0
        · have hyes : esc b < zI (tb 63) := Int32.not_le.mp q5
          simp only [if_pos hyes]
          refine am_go cd_M_submit hc_M_submit 31 1 (pc' := 59) (L' := [some (.ref 40), some (.int (nI b)), some (.int (-1)), none]) (st' := [.int (-3)]) rfl ?_
          exact am_iret (am_at hc_M_submit 32 rfl) rfl rfl ⟨rfl, rfl, rfl, hR3, hf3⟩
    · simp only [if_neg hb]
      refine am_if_ne 17 (am_at hc_M_submit 5 rfl) (by decide) (fun q1 => absurd rfl q1) (fun q1 => ?_)
      have hno : ¬ opB false v := fun z => hb z.2
      simp only [subA, subW, subP, if_neg hno]
      refine am_go cd_M_submit hc_M_submit 6 1 (pc' := 16) (L' := [some (.ref 40), some (.int v), none, none]) (st' := [.int (-2)]) rfl ?_
      exact am_iret (am_at hc_M_submit 7 rfl) rfl rfl ⟨rfl, rfl, rfl, h, fM.rf⟩
