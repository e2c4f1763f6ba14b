set_option maxHeartbeats 4000000 in
theorem c_B_readAtom {l : Launch} {x : am_X} {L M : Nat} {T : Nat → Nat} {n k : Nat} {B : Option (Nat → Nat → pr_R)} (hn : n ≤ 40) (hB : pr_B n B) (hk : (B = none ∧ k = 8) ∨ ∃ f, B = some f ∧ k < 8 ∧ ∀ (e : Nat) (d : am_D) (p c : Nat), rd_ok d T n → d 13 2 = nI p → d 13 4 = nI c → p ≤ n → c ≤ 12 → cM l x (e + M + 3) L m_B_readBid [.ref 13, .int (nI (k + 1))] d (rdQ (k + 1) (k + 1) d (f p c))) (e : Nat) (d : am_D) (p c : Nat) (hr : rd_ok d T n) (hp : d 13 2 = nI p) (hc : d 13 4 = nI c) (hpn : p ≤ n) (hc12 : c ≤ 12) : cM l x (e + M + 4) L m_B_readAtom [.ref 13, .int (nI k)] d (rdQ (k + 1) (k + 1) d (pr_atom T n B p c)) := by
  refine cM.go (by decide) (by simp [Value.category]) (Nat.le_of_ble_eq_true rfl) ?_
  refine am_go cd_B_readAtom hc_B_readAtom 0 2 (pc' := 3) (L' := [some (.ref 13), some (.int (nI k))]) (st' := [.int 40, .ref 13]) rfl ?_
  refine cW.callV1 6 [.int (bI (pr_se T n p 40))] (st := []) [.int 40] (am_at hc_B_readAtom 2 rfl) g_B_sees (Or.inl (tw 177 rfl rfl)) (tw 179 rfl rfl) (tp 6 rfl rfl) 1 k_r1 rfl (by decide) rfl rfl rfl rfl (Nat.le_of_ble_eq_true rfl) (c_B_sees hr 40 (by decide) hp (by omega)) rfl rfl ?_
  cases hg : pr_se T n p 40 with
  | false =>
    have eA : pr_atom T n B p c = pr_bundle T n p c := by unfold pr_atom; rw [if_pos hg]
    rw [eA]
    simp only [bI_f]
    refine am_if_ne 36 (am_at hc_B_readAtom 3 rfl) (by decide) (fun h1 => absurd rfl h1) (fun h1 => ?_)
    refine am_go cd_B_readAtom hc_B_readAtom 4 1 (pc' := 10) (L' := [some (.ref 13), some (.int (nI k))]) (st' := [.ref 13]) rfl ?_
    refine cW.callV1 13 [.int (if 12 ≤ c then 0 else 1)] (st := []) [] (am_at hc_B_readAtom 5 rfl) g_B_beginPart (Or.inl (tw 181 rfl rfl)) (tw 183 rfl rfl) (tp 7 rfl rfl) 1 k_r1 rfl (by decide) rfl rfl rfl rfl (Nat.le_of_ble_eq_true rfl) (c_B_beginPart hc (by omega)) rfl rfl ?_
    by_cases h2 : 12 ≤ c
    · have eB : pr_bundle T n p c = (p, none) := by unfold pr_bundle; rw [if_pos h2]
      rw [eB]
      simp only [if_pos h2]
      refine am_if_eq 34 (am_at hc_B_readAtom 6 rfl) (by decide) (fun h3 => ?_) (fun h3 => absurd rfl h3)
      refine am_go cd_B_readAtom hc_B_readAtom 15 1 (pc' := 35) (L' := [some (.ref 13), some (.int (nI k))]) (st' := [.int 0]) rfl ?_
      exact am_iret (am_at hc_B_readAtom 16 rfl) rfl rfl ⟨rfl, rfl, rfl, hp, rdF.rf, fun _ _ z => by cases z⟩
    · simp only [if_neg h2]
      refine am_if_eq 34 (am_at hc_B_readAtom 6 rfl) (by decide) (fun h3 => absurd h3 (by decide)) (fun h3 => ?_)
      refine am_go cd_B_readAtom hc_B_readAtom 7 1 (pc' := 17) (L' := [some (.ref 13), some (.int (nI k))]) (st' := [.ref 13]) rfl ?_
      have hr1 : rd_ok (am_u d 13 4 (nI (c + 1))) T n := rd_ok_u hr (by decide)
      have hp1 : am_u d 13 4 (nI (c + 1)) 13 2 = nI p := (am_u_o (by decide)).trans hp
      refine cW.callV1 20 [.int (bI (pr_dg T n p))] (st := []) [] (am_at hc_B_readAtom 8 rfl) g_B_readNumber (Or.inl (tw 185 rfl rfl)) (tw 187 rfl rfl) (tp 8 rfl rfl) 1 k_r1 rfl (by decide) rfl rfl rfl rfl (Nat.le_of_ble_eq_true rfl) (c_B_readNumber hr1 hp1 (by omega)) rfl rfl ?_
      cases hg2 : pr_dg T n p with
      | false =>
        have eB : pr_bundle T n p c = (p, none) := by unfold pr_bundle; rw [if_neg h2, if_pos hg2]
        rw [eB]
        simp only [bI_f]
        refine am_if_eq 34 (am_at hc_B_readAtom 9 rfl) (by decide) (fun h4 => ?_) (fun h4 => absurd rfl h4)
        refine am_go cd_B_readAtom hc_B_readAtom 15 1 (pc' := 35) (L' := [some (.ref 13), some (.int (nI k))]) (st' := [.int 0]) rfl ?_
        exact am_iret (am_at hc_B_readAtom 16 rfl) rfl rfl ⟨rfl, rfl, rfl, hp1, rdF.u (by decide), fun _ _ z => by cases z⟩
      | true =>
        simp only [bI_t, if_true]
        refine am_if_eq 34 (am_at hc_B_readAtom 9 rfl) (by decide) (fun h4 => absurd h4 (by decide)) (fun h4 => ?_)
        refine am_go cd_B_readAtom hc_B_readAtom 10 1 (pc' := 24) (L' := [some (.ref 13), some (.int (nI k))]) (st' := [.ref 13]) rfl ?_
        have eB : pr_bundle T n p c = if (pr_let T n 6 (pr_num T n 3 p 0).1 0).2 = 0 then ((pr_let T n 6 (pr_num T n 3 p 0).1 0).1, none) else ((pr_let T n 6 (pr_num T n 3 p 0).1 0).1, some (c + 1, pr_bun (pr_num T n 3 p 0).2 (pr_let T n 6 (pr_num T n 3 p 0).1 0).2)) := by unfold pr_bundle; rw [if_neg h2, if_neg (by rw [hg2]; decide)]
        rw [eB]
        have hpn2 := pr_num_n T n 3 p 0 hpn
        generalize pr_num T n 3 p 0 = N3 at hpn2 ⊢
        refine cW.callV1 27 [.int (if (pr_let T n 6 N3.1 0).2 = 0 then 0 else 1)] (st := []) [] (am_at hc_B_readAtom 11 rfl) g_B_readLetters (Or.inl (tw 193 rfl rfl)) (tw 195 rfl rfl) (tp 10 rfl rfl) 1 k_r1 rfl (by decide) rfl rfl rfl rfl (Nat.le_of_ble_eq_true rfl) (c_B_readLetters (v := N3.2) (rnD_ok hr1 N3.1 (nI N3.2)) (rnD_2 _ _ _) (by omega) ((rnD_3 _ _ _).trans (nI_zI _))) rfl rfl ?_
        generalize pr_let T n 6 N3.1 0 = L6
        have hF : rdF (k + 1) (k + 1) d (am_tb (am_u (rnD (am_u d 13 4 (nI (c + 1))) N3.1 (nI N3.2)) 13 2 (nI L6.1)) 15 64 (fun s => zI (pr_bun N3.2 L6.2 s))) := (((rdF.u (by decide)).tr rdF.rn).tr (rdF.u (by decide))).tr rdF.t15
        have hP : am_tb (am_u (rnD (am_u d 13 4 (nI (c + 1))) N3.1 (nI N3.2)) 13 2 (nI L6.1)) 15 64 (fun s => zI (pr_bun N3.2 L6.2 s)) 13 2 = nI L6.1 := (congrFun (am_tb_ne (by decide)) 2).trans am_u_i
        by_cases h5 : L6.2 = 0
        · simp only [if_pos h5]
          refine am_if_eq 34 (am_at hc_B_readAtom 12 rfl) (by decide) (fun h6 => ?_) (fun h6 => absurd rfl h6)
          refine am_go cd_B_readAtom hc_B_readAtom 15 1 (pc' := 35) (L' := [some (.ref 13), some (.int (nI k))]) (st' := [.int 0]) rfl ?_
          exact am_iret (am_at hc_B_readAtom 16 rfl) rfl rfl ⟨rfl, rfl, rfl, hP, hF, fun _ _ z => by cases z⟩
        · simp only [if_neg h5]
          refine am_if_eq 34 (am_at hc_B_readAtom 12 rfl) (by decide) (fun h6 => absurd h6 (by decide)) (fun h6 => ?_)
          refine am_go cd_B_readAtom hc_B_readAtom 13 2 (pc' := 35) (L' := [some (.ref 13), some (.int (nI k))]) (st' := [.int 1]) rfl ?_
          refine am_iret (am_at hc_B_readAtom 16 rfl) rfl rfl ⟨rfl, rfl, rfl, hP, hF, ?_⟩
          intro c' v' z
          cases z
          refine ⟨(congrFun (am_tb_ne (by decide)) 4).trans ?_, fun s hs => am_tb_lt hs⟩
          unfold rnD
          rw [am_u_o (by decide), am_u_o (by decide), am_u_o (by decide), am_u_i]
  | true =>
    simp only [bI_t]
    refine am_if_ne 36 (am_at hc_B_readAtom 3 rfl) (by decide) (fun h1 => ?_) (fun h1 => absurd h1 (by decide))
    refine am_go cd_B_readAtom hc_B_readAtom 17 2 (pc' := 39) (L' := [some (.ref 13), some (.int (nI k))]) (st' := [.int 8, .int (nI k)]) rfl ?_
    have hp1 : p < n := (pr_se_lt hg).1
    rcases hk with ⟨hb, hk8⟩ | ⟨f, hb, hk8, hf⟩
    · subst hb
      have eA : pr_atom T n none p c = (p, none) := by unfold pr_atom; rw [if_neg (by rw [hg]; decide)]
      rw [eA]
      refine am_icmp_lt 44 (am_at hc_B_readAtom 19 rfl) (by decide) (fun h2 => absurd h2 (nI_nlt (a := k) (b := 8) (by omega) (by omega))) (fun h2 => ?_)
      refine am_go cd_B_readAtom hc_B_readAtom 20 1 (pc' := 43) (L' := [some (.ref 13), some (.int (nI k))]) (st' := [.int 0]) rfl ?_
      exact am_iret (am_at hc_B_readAtom 21 rfl) rfl rfl ⟨rfl, rfl, rfl, hp, rdF.rf, fun _ _ z => by cases z⟩
    · subst hb
      have eA : pr_atom T n (some f) p c = (match f (p + 1) c with | (q, none) => (q, none) | (q, some r) => if pr_se T n q 41 = true then (q + 1, some r) else (q, none)) := by unfold pr_atom; rw [if_neg (by rw [hg]; decide)] <;> rfl
      rw [eA]
      refine am_icmp_lt 44 (am_at hc_B_readAtom 19 rfl) (by decide) (fun h2 => ?_) (fun h2 => absurd (nI_lt (a := k) (b := 8) (by omega) (by omega)) h2)
      refine am_go cd_B_readAtom hc_B_readAtom 22 2 (pc' := 46) (L' := [some (.ref 13), some (.int (nI k))]) (st' := [.ref 13, .ref 13]) rfl ?_
      refine am_getf 1 2 k_r1 (am_at hc_B_readAtom 24 rfl) rfl (by decide) rfl (by decide) k_ok1 (Or.inl (tw 27 rfl rfl)) (congrArg Value.int hp) ?_
      refine am_go cd_B_readAtom hc_B_readAtom 25 2 (pc' := 51) (L' := [some (.ref 13), some (.int (nI k))]) (st' := [.int (nI p + 1), .ref 13]) rfl ?_
      rw [show nI p + 1 = nI (p + 1) from nI_1 _]
      refine am_putI 1 2 k_r1 (am_at hc_B_readAtom 27 rfl) rfl (by decide) rfl (by decide) k_ok1 (tw 27 rfl rfl) rfl rfl rfl rfl ?_
      refine am_go cd_B_readAtom hc_B_readAtom 28 4 (pc' := 58) (L' := [some (.ref 13), some (.int (nI k))]) (st' := [.int (nI k + 1), .ref 13]) rfl ?_
      rw [show nI k + 1 = nI (k + 1) from nI_1 _]
      have hgd := hB f rfl (p + 1) c hp1 hc12
      refine cW.callV (st := []) [.int (nI (k + 1))] (am_at hc_B_readAtom 32 rfl) g_B_readBid (Or.inl (tw 160 rfl rfl)) (tw 162 rfl rfl) (tp 2 rfl rfl) 1 k_r1 rfl (by decide) rfl rfl rfl rfl (Nat.le_of_ble_eq_true rfl) (hf e (am_u d 13 2 (nI (p + 1))) (p + 1) c (rd_ok_u hr (by decide)) am_u_i ((am_u_o (by decide)).trans hc) hp1 hc12) ?_
      rintro _ d2 ⟨rfl, hpl, hF, hv⟩
      show cW _ _ (e + M + 4) _ m_B_readAtom 61 [some (.ref 13), some (.int (nI k))] [.int (bI (f (p + 1) c).2.isSome)] _ _
      have hF2 : rdF (k + 1) (k + 1) d d2 := (rdF.u (by decide)).tr hF
      have hr2 := hF2.ok hr
      generalize f (p + 1) c = r at hpl hv hgd ⊢
      obtain ⟨q, oo⟩ := r
      cases oo with
      | none =>
        show cW _ _ _ _ m_B_readAtom 61 [some (.ref 13), some (.int (nI k))] [.int 0] _ _
        refine am_if_eq 73 (am_at hc_B_readAtom 33 rfl) (by decide) (fun h3 => ?_) (fun h3 => absurd rfl h3)
        refine am_go cd_B_readAtom hc_B_readAtom 38 1 (pc' := 74) (L' := [some (.ref 13), some (.int (nI k))]) (st' := [.int 0]) rfl ?_
        exact am_iret (am_at hc_B_readAtom 39 rfl) rfl rfl ⟨rfl, rfl, rfl, hpl, hF2, fun _ _ z => by cases z⟩
      | some r =>
        show cW _ _ _ _ m_B_readAtom 61 [some (.ref 13), some (.int (nI k))] [.int 1] _ _
        refine am_if_eq 73 (am_at hc_B_readAtom 33 rfl) (by decide) (fun h3 => absurd h3 (by decide)) (fun h3 => ?_)
        refine am_go cd_B_readAtom hc_B_readAtom 34 2 (pc' := 67) (L' := [some (.ref 13), some (.int (nI k))]) (st' := [.int 41, .ref 13]) rfl ?_
        have hqn : q ≤ n := hgd.1
        refine cW.callV1 70 [.int (bI (pr_se T n q 41))] (st := []) [.int 41] (am_at hc_B_readAtom 36 rfl) g_B_sees (Or.inl (tw 177 rfl rfl)) (tw 179 rfl rfl) (tp 6 rfl rfl) 1 k_r1 rfl (by decide) rfl rfl rfl rfl (Nat.le_of_ble_eq_true rfl) (c_B_sees hr2 41 (by decide) hpl (by dsimp only; omega)) rfl rfl ?_
        cases hg4 : pr_se T n q 41 with
        | false =>
          simp only [bI_f]
          refine am_if_ne 75 (am_at hc_B_readAtom 37 rfl) (by decide) (fun h5 => absurd rfl h5) (fun h5 => ?_)
          refine am_go cd_B_readAtom hc_B_readAtom 38 1 (pc' := 74) (L' := [some (.ref 13), some (.int (nI k))]) (st' := [.int 0]) rfl ?_
          refine am_iret (am_at hc_B_readAtom 39 rfl) rfl rfl ⟨rfl, rfl, ?_⟩
          rw [if_neg (by rw [hg4]; decide)]
          exact ⟨rfl, hpl, hF2, fun _ _ z => by cases z⟩
        | true =>
          simp only [bI_t]
          refine am_if_ne 75 (am_at hc_B_readAtom 37 rfl) (by decide) (fun h5 => ?_) (fun h5 => absurd h5 (by decide))
          refine am_go cd_B_readAtom hc_B_readAtom 40 2 (pc' := 77) (L' := [some (.ref 13), some (.int (nI k))]) (st' := [.ref 13, .ref 13]) rfl ?_
          refine am_getf 1 2 k_r1 (am_at hc_B_readAtom 42 rfl) rfl (by decide) rfl (by decide) k_ok1 (Or.inl (tw 27 rfl rfl)) (congrArg Value.int hpl) ?_
          refine am_go cd_B_readAtom hc_B_readAtom 43 2 (pc' := 82) (L' := [some (.ref 13), some (.int (nI k))]) (st' := [.int (nI q + 1), .ref 13]) rfl ?_
          rw [show nI q + 1 = nI (q + 1) from nI_1 _]
          refine am_putI 1 2 k_r1 (am_at hc_B_readAtom 45 rfl) rfl (by decide) rfl (by decide) k_ok1 (tw 27 rfl rfl) rfl rfl rfl rfl ?_
          refine am_go cd_B_readAtom hc_B_readAtom 46 1 (pc' := 86) (L' := [some (.ref 13), some (.int (nI k))]) (st' := [.int 1]) rfl ?_
          refine am_iret (am_at hc_B_readAtom 47 rfl) rfl rfl ⟨rfl, rfl, ?_⟩
          rw [if_pos hg4]
          refine ⟨rfl, am_u_i, hF2.tr (rdF.u (by decide)), fun c' v' z => ?_⟩
          cases z
          obtain ⟨z1, z2⟩ := hv _ _ rfl
          exact ⟨(am_u_o (by decide)).trans z1, fun s hs => (congrFun (am_u_ne 15 (by decide)) s).trans (z2 s hs)⟩
set_option maxHeartbeats 4000000 in
theorem c_B_readCapped {l : Launch} {x : am_X} {L M : Nat} {T : Nat → Nat} {n k : Nat} {B : Option (Nat → Nat → pr_R)} (hn : n ≤ 40) (hB : pr_B n B) (hA : ∀ (e : Nat) (d : am_D) (p c : Nat), rd_ok d T n → d 13 2 = nI p → d 13 4 = nI c → p ≤ n → c ≤ 12 → cM l x (e + M + 4) L m_B_readAtom [.ref 13, .int (nI k)] d (rdQ (k + 1) (k + 1) d (pr_atom T n B p c))) (e : Nat) (d : am_D) (p c : Nat) (hr : rd_ok d T n) (hp : d 13 2 = nI p) (hc : d 13 4 = nI c) (hpn : p ≤ n) (hc12 : c ≤ 12) : cM l x (e + M + 5) L m_B_readCapped [.ref 13, .int (nI k)] d (rdQ (k + 1) (k + 1) d (pr_cap T n B p c)) := by
  refine cM.go (by decide) (by simp [Value.category]) (Nat.le_of_ble_eq_true rfl) ?_
  have hgd := pr_atom_good (T := T) hB hpn hc12
  refine am_go cd_B_readCapped hc_B_readCapped 0 2 (pc' := 2) (L' := [some (.ref 13), some (.int (nI k)), none]) (st' := [.int (nI k), .ref 13]) rfl ?_
  refine cW.callV (st := []) [.int (nI k)] (am_at hc_B_readCapped 2 rfl) g_B_readAtom (Or.inl (tw 173 rfl rfl)) (tw 175 rfl rfl) (tp 5 rfl rfl) 1 k_r1 rfl (by decide) rfl rfl rfl rfl (Nat.le_of_ble_eq_true rfl) (hA e d p c hr hp hc hpn hc12) ?_
  rintro _ d2 ⟨rfl, hpl, hF, hv⟩
  show cW _ _ (e + M + 5) _ m_B_readCapped 5 [some (.ref 13), some (.int (nI k)), none] [.int (bI (pr_atom T n B p c).2.isSome)] _ _
  have hr2 := hF.ok hr
  have eC : pr_cap T n B p c = (match pr_atom T n B p c with | (q, none) => (q, none) | (q, some r) => pr_capl T n 13 q r.1 r.2) := rfl
  rw [eC]
  generalize pr_atom T n B p c = r at hpl hv hgd ⊢
  obtain ⟨q, oo⟩ := r
  cases oo with
  | none =>
    show cW _ _ _ _ m_B_readCapped 5 [some (.ref 13), some (.int (nI k)), none] [.int 0] _ _
    refine am_if_ne 10 (am_at hc_B_readCapped 3 rfl) (by decide) (fun h3 => absurd rfl h3) (fun h3 => ?_)
    refine am_go cd_B_readCapped hc_B_readCapped 4 1 (pc' := 9) (L' := [some (.ref 13), some (.int (nI k)), none]) (st' := [.int 0]) rfl ?_
    exact am_iret (am_at hc_B_readCapped 5 rfl) rfl rfl ⟨rfl, rfl, rfl, hpl, hF, fun _ _ z => by cases z⟩
  | some r =>
    show cW _ _ _ _ m_B_readCapped 5 [some (.ref 13), some (.int (nI k)), none] [.int 1] _ _
    refine am_if_ne 10 (am_at hc_B_readCapped 3 rfl) (by decide) (fun h3 => ?_) (fun h3 => absurd h3 (by decide))
    refine am_go cd_B_readCapped hc_B_readCapped 6 2 (pc' := 12) (L' := [some (.ref 13), some (.int (nI k)), some (.int 0)]) (st' := []) rfl ?_
    obtain ⟨c1, v1⟩ := r
    obtain ⟨g1, g2⟩ := hv _ _ rfl
    obtain ⟨y1, y2⟩ := hgd.2 _ _ rfl
    have loop : ∀ (F i : Nat) (d1 : am_D) (q1 c2 : Nat) (v2 : Nat → Int), i + F = 13 → rdF (k + 1) (k + 1) d d1 → d1 13 2 = nI q1 → d1 13 4 = nI c2 → q1 ≤ n → c2 ≤ 12 → tb_ok v2 → (∀ s, s < 64 → d1 15 s = zI (v2 s)) → cW l x (e + M + 5) L m_B_readCapped 12 [some (.ref 13), some (.int (nI k)), some (.int (nI i))] [] d1 (rdQ (k + 1) (k + 1) d (pr_capl T n F q1 c2 v2)) := by
      intro F
      induction F with
      | zero =>
        intro i d1 q1 c2 v2 hi hF1 hq1 hc2 hqn hc3 hv2 hv3
        unfold pr_capl
        refine am_go cd_B_readCapped hc_B_readCapped 8 2 (pc' := 15) (L' := [some (.ref 13), some (.int (nI k)), some (.int (nI i))]) (st' := [.int 12, .int (nI i)]) rfl ?_
        refine am_icmp_gt 55 (am_at hc_B_readCapped 10 rfl) (by decide) (fun h => ?_) (fun h => absurd (nI_lt (a := 12) (b := i) (by omega) (by omega)) h)
        refine am_go cd_B_readCapped hc_B_readCapped 29 1 (pc' := 56) (L' := [some (.ref 13), some (.int (nI k)), some (.int (nI i))]) (st' := [.int 0]) rfl ?_
        exact am_iret (am_at hc_B_readCapped 30 rfl) rfl rfl ⟨rfl, rfl, rfl, hq1, hF1, fun _ _ z => by cases z⟩
      | succ F ih =>
        intro i d1 q1 c2 v2 hi hF1 hq1 hc2 hqn hc3 hv2 hv3
        unfold pr_capl
        have hr3 := hF1.ok hr
        refine am_go cd_B_readCapped hc_B_readCapped 8 2 (pc' := 15) (L' := [some (.ref 13), some (.int (nI k)), some (.int (nI i))]) (st' := [.int 12, .int (nI i)]) rfl ?_
        refine am_icmp_gt 55 (am_at hc_B_readCapped 10 rfl) (by decide) (fun h => absurd h (nI_nlt (a := 12) (b := i) (by omega) (by omega))) (fun h => ?_)
        refine am_go cd_B_readCapped hc_B_readCapped 11 2 (pc' := 21) (L' := [some (.ref 13), some (.int (nI k)), some (.int (nI i))]) (st' := [.int 60, .ref 13]) rfl ?_
        refine cW.callV1 24 [.int (bI (pr_se T n q1 60))] (st := []) [.int 60] (am_at hc_B_readCapped 13 rfl) g_B_sees (Or.inl (tw 177 rfl rfl)) (tw 179 rfl rfl) (tp 6 rfl rfl) 1 k_r1 rfl (by decide) rfl rfl rfl rfl (Nat.le_of_ble_eq_true rfl) (c_B_sees hr3 60 (by decide) hq1 (by omega)) rfl rfl ?_
        cases hg : pr_se T n q1 60 with
        | false =>
          simp only [bI_f, if_true]
          refine am_if_ne 29 (am_at hc_B_readCapped 14 rfl) (by decide) (fun h4 => absurd rfl h4) (fun h4 => ?_)
          refine am_go cd_B_readCapped hc_B_readCapped 15 1 (pc' := 28) (L' := [some (.ref 13), some (.int (nI k)), some (.int (nI i))]) (st' := [.int 1]) rfl ?_
          exact am_iret (am_at hc_B_readCapped 16 rfl) rfl rfl ⟨rfl, rfl, rfl, hq1, hF1, fun _ _ z => by cases z; exact ⟨hc2, hv3⟩⟩
        | true =>
          rw [if_neg (show ¬ (true = false) by decide)]
          simp only [bI_t]
          refine am_if_ne 29 (am_at hc_B_readCapped 14 rfl) (by decide) (fun h4 => ?_) (fun h4 => absurd h4 (by decide))
          refine am_go cd_B_readCapped hc_B_readCapped 17 1 (pc' := 30) (L' := [some (.ref 13), some (.int (nI k)), some (.int (nI i))]) (st' := [.ref 13]) rfl ?_
          have hq2 : q1 < n := (pr_se_lt hg).1
          refine cW.callV1 33 [.int (if 12 ≤ c2 then 0 else 1)] (st := []) [] (am_at hc_B_readCapped 18 rfl) g_B_takeSign (Or.inl (tw 201 rfl rfl)) (tw 203 rfl rfl) (tp 12 rfl rfl) 1 k_r1 rfl (by decide) rfl rfl rfl rfl (Nat.le_of_ble_eq_true rfl) (c_B_takeSign hq1 hc2 (by omega)) rfl rfl ?_
          by_cases h2 : 12 ≤ c2
          · simp only [if_pos h2]
            refine am_if_eq 43 (am_at hc_B_readCapped 19 rfl) (by decide) (fun h5 => ?_) (fun h5 => absurd rfl h5)
            refine am_go cd_B_readCapped hc_B_readCapped 23 1 (pc' := 44) (L' := [some (.ref 13), some (.int (nI k)), some (.int (nI i))]) (st' := [.int 0]) rfl ?_
            exact am_iret (am_at hc_B_readCapped 24 rfl) rfl rfl ⟨rfl, rfl, rfl, hq1, hF1, fun _ _ z => by cases z⟩
          · simp only [if_neg h2]
            refine am_if_eq 43 (am_at hc_B_readCapped 19 rfl) (by decide) (fun h5 => absurd h5 (by decide)) (fun h5 => ?_)
            refine am_go cd_B_readCapped hc_B_readCapped 20 1 (pc' := 37) (L' := [some (.ref 13), some (.int (nI k)), some (.int (nI i))]) (st' := [.ref 13]) rfl ?_
            generalize hD : am_u (am_u d1 13 4 (nI (c2 + 1))) 13 2 (nI (q1 + 1)) = D
            have hFD : rdF (k + 1) (k + 1) d D := by rw [← hD]; exact (hF1.tr (rdF.u (by decide))).tr (rdF.u (by decide))
            have hrD := hFD.ok hr
            have hpD : D 13 2 = nI (q1 + 1) := by rw [← hD]; exact am_u_i
            have hcD : D 13 4 = nI (c2 + 1) := by rw [← hD, am_u_o (by decide)]; exact am_u_i
            have hvD : D 15 = d1 15 := by rw [← hD, am_u_ne 15 (by decide), am_u_ne 15 (by decide)]
            refine cW.callV1 40 [.int (bI (pr_dg T n (q1 + 1)))] (st := []) [] (am_at hc_B_readCapped 21 rfl) g_B_readNumber (Or.inl (tw 185 rfl rfl)) (tw 187 rfl rfl) (tp 8 rfl rfl) 1 k_r1 rfl (by decide) rfl rfl rfl rfl (Nat.le_of_ble_eq_true rfl) (c_B_readNumber hrD hpD (by omega)) rfl rfl ?_
            cases hg2 : pr_dg T n (q1 + 1) with
            | false =>
              simp only [bI_f, if_true]
              refine am_if_ne 45 (am_at hc_B_readCapped 22 rfl) (by decide) (fun h6 => absurd rfl h6) (fun h6 => ?_)
              refine am_go cd_B_readCapped hc_B_readCapped 23 1 (pc' := 44) (L' := [some (.ref 13), some (.int (nI k)), some (.int (nI i))]) (st' := [.int 0]) rfl ?_
              exact am_iret (am_at hc_B_readCapped 24 rfl) rfl rfl ⟨rfl, rfl, rfl, hpD, hFD, fun _ _ z => by cases z⟩
            | true =>
              rw [if_neg (show ¬ (true = false) by decide)]
              simp only [bI_t, if_true]
              refine am_if_ne 45 (am_at hc_B_readCapped 22 rfl) (by decide) (fun h6 => ?_) (fun h6 => absurd h6 (by decide))
              refine am_go cd_B_readCapped hc_B_readCapped 25 1 (pc' := 46) (L' := [some (.ref 13), some (.int (nI k)), some (.int (nI i))]) (st' := [.ref 13]) rfl ?_
              have hpn2 := pr_num_n T n 3 (q1 + 1) 0 hq2
              have h999 := pr_num_999 T n (q1 + 1)
              generalize pr_num T n 3 (q1 + 1) 0 = N3 at hpn2 h999 ⊢
              refine cW.callV1 49 [] (st := []) [] (am_at hc_B_readCapped 26 rfl) g_B_capValue (Or.inl (tw 205 rfl rfl)) (tw 207 rfl rfl) (tp 13 rfl rfl) 1 k_r1 rfl (by decide) rfl rfl rfl rfl (Nat.le_of_ble_eq_true rfl) (c_B_capValue v2 N3.2 (fun s hs => by rw [show rnD D N3.1 (nI N3.2) 15 = D 15 from by unfold rnD; rw [am_u_ne 15 (by decide), am_u_ne 15 (by decide)]]; rw [hvD]; exact hv3 s hs) hv2.big ((rnD_3 _ _ _).trans (nI_zI _)) (by omega) (by omega)) rfl rfl ?_
              refine am_go cd_B_readCapped hc_B_readCapped 27 2 (pc' := 12) (L' := [some (.ref 13), some (.int (nI k)), some (.int (nI i + 1))]) (st' := []) rfl ?_
              rw [nI_1]
              refine ih (i + 1) _ N3.1 (c2 + 1) (fun s => min (v2 s) N3.2) (by omega) ((hFD.tr rdF.rn).tr rdF.t15) ((congrFun (am_tb_ne (by decide)) 2).trans (rnD_2 _ _ _)) ((congrFun (am_tb_ne (by decide)) 4).trans ?_) hpn2 (by omega) (tb_min hv2) (fun s hs => am_tb_lt hs)
              unfold rnD
              rw [am_u_o (by decide), am_u_o (by decide)]; exact hcD
    exact loop 13 0 d2 q c1 v1 rfl hF hpl g1 hgd.1 y1 y2 g2
