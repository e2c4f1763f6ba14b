theorem c_fill {l : Launch} {x : am_X} {e L : Nat} {d : am_D} (a : Nat) (h : SH L a = (0, 64, fun _ => none)) (ha : a < 53) : cM l x e L m_J_fill [.ref a, .int 0] d (cR none (am_tb d a 64 (fun _ => zI 0))) := by
  refine am_Met.mono (c_J_fill a 0 (by rw [h]) ha (by rw [h]; decide)) ?_
  rintro r S' n' d' ⟨rfl, rfl, rfl, rfl⟩
  refine ⟨rfl, rfl, rfl, ?_⟩
  rw [h]
  funext b j; unfold am_fi am_tb am_nd
  by_cases h1 : b = a
  · by_cases h2 : j < 64
    · simp [h1, h2]; rfl
    · simp [h1, h2]
  · simp [h1]
theorem c_join {l : Launch} {x : am_X} {e L : Nat} {d : am_D} (a b : Nat) (f g : Nat → Int) (h : SH L a = (0, 64, fun _ => none)) (h2 : SH L b = (0, 64, fun _ => none)) (ha : a < 53) (hb : b < 53) (hab : a ≠ b) (hf : ∀ s, s < 64 → d a s = zI (f s)) (hg : ∀ s, s < 64 → d b s = zI (g s)) (Bf : ∀ s, s < 64 → -500000000 ≤ f s ∧ f s ≤ 500000000) (Bg : ∀ s, s < 64 → -500000000 ≤ g s ∧ g s ≤ 500000000) : cM l x (e + 1) L m_A_join [.ref a, .ref b] d (cR none (am_tb d a 64 (fun j => zI (jn f g j)))) := by
  refine am_Met.mono (c_A_join a b f g (by rw [h]) (by rw [h2]) (by rw [h]) (by rw [h2]) ha hb hab hf hg Bf Bg) ?_
  rintro r S' n' d' ⟨rfl, rfl, rfl, rfl⟩
  exact ⟨rfl, rfl, rfl, rfl⟩
theorem am_cp_tb (d : am_D) (a b k : Nat) : am_cp d a b k = am_tb d b k (d a) := by
  funext q j; unfold am_cp am_tb am_nd
  by_cases h1 : q = b
  · by_cases h2 : j < k
    · simp [h1, h2]
    · simp [h1, h2]
  · simp [h1]
theorem rdF.row {kc ks a k : Nat} {d : am_D} {F : Nat → Int32} (h : (17 + kc ≤ a ∧ a < 26) ∨ (27 + ks ≤ a ∧ a < 36)) : rdF kc ks d (am_tb d a k F) := ⟨fun b _ _ z3 z4 => am_tb_ne (fun z => by omega), fun i _ _ _ => congrFun (am_tb_ne (by omega)) i⟩
set_option maxHeartbeats 4000000 in
theorem c_B_readSum {l : Launch} {x : am_X} {L M : Nat} {T : Nat → Nat} {n k : Nat} {B : Option (Nat → Nat → pr_R)} (hk8 : k ≤ 8) (hn : n ≤ 40) (hB : pr_B n B) (hC : ∀ (e : Nat) (d : am_D) (p c : Nat), rd_ok d T n → d 13 2 = nI p → d 13 4 = nI c → p ≤ n → c ≤ 12 → cM l x (e + M + 5) L m_B_readCapped [.ref 13, .int (nI k)] d (rdQ (k + 1) (k + 1) d (pr_cap T n B p c))) (e : Nat) (d : am_D) (p c : Nat) (hr : rd_ok d T n) (hp : d 13 2 = nI p) (hc : d 13 4 = nI c) (hpn : p ≤ n) (hc12 : c ≤ 12) : cM l x (e + M + 6) L m_B_readSum [.ref 13, .int (nI k)] d (rdQ (k + 1) k d (pr_sum T n B p c)) := by
  refine cM.go (by decide) (by simp [Value.category]) (Nat.le_of_ble_eq_true rfl) ?_
  have hsh := SH_s L k (by omega)
  refine am_go cd_B_readSum hc_B_readSum 0 1 (pc' := 1) (L' := [some (.ref 13), some (.int (nI k)), none, none]) (st' := [.ref 13]) rfl ?_
  refine am_getf 1 7 k_r1 (am_at hc_B_readSum 1 rfl) rfl (by decide) rfl (by decide) k_ok1 (Or.inl (tw 34 rfl rfl)) rfl ?_
  refine am_go cd_B_readSum hc_B_readSum 2 1 (pc' := 5) (L' := [some (.ref 13), some (.int (nI k)), none, none]) (st' := [.int (nI k), .ref 26]) rfl ?_
  refine am_aaload (k) (27 + k) (am_at hc_B_readSum 3 rfl) rfl (by decide) rfl (by show k < 9; omega) (Nat.le_of_ble_eq_true rfl) (if_pos (by omega : k < 9)) ?_
  refine am_go cd_B_readSum hc_B_readSum 4 3 (pc' := 9) (L' := [some (.ref 13), some (.int (nI k)), some (.ref (27 + k)), none]) (st' := [.int 0, .ref (27 + k)]) rfl ?_
  refine cW.callS1 12 [] (st := []) [.ref (27 + k), .int 0] (am_at hc_B_readSum 7 rfl) g_J_fill (Or.inl (tw 164 rfl rfl)) (tw 131 rfl rfl) rfl rfl (Nat.le_of_ble_eq_true rfl) (c_fill (27 + k) hsh (by omega)) rfl rfl ?_
  refine am_go cd_B_readSum hc_B_readSum 8 2 (pc' := 14) (L' := [some (.ref 13), some (.int (nI k)), some (.ref (27 + k)), some (.int 0)]) (st' := []) rfl ?_
  have hFd : rdF (k + 1) k d (am_tb d (27 + k) 64 (fun _ => zI 0)) := rdF.row (by omega)
  have loop : ∀ (F i : Nat) (d1 : am_D) (q1 c2 : Nat) (acc : Nat → Int), i + F = 13 → rdF (k + 1) k d d1 → d1 13 2 = nI q1 → d1 13 4 = nI c2 → q1 ≤ n → c2 ≤ 12 → tb_ok acc → (∀ s, s < 64 → d1 (27 + k) s = zI (acc s)) → cW l x (e + M + 6) L m_B_readSum 14 [some (.ref 13), some (.int (nI k)), some (.ref (27 + k)), some (.int (nI i))] [] d1 (rdQ (k + 1) k d (pr_suml T n B F q1 c2 acc)) := by
    intro F
    induction F with
    | zero =>
      intro i d1 q1 c2 acc hi hF1 hq1 hc2 hqn hc3 hv2 hv3
      unfold pr_suml
      refine am_go cd_B_readSum hc_B_readSum 10 2 (pc' := 17) (L' := [some (.ref 13), some (.int (nI k)), some (.ref (27 + k)), some (.int (nI i))]) (st' := [.int 12, .int (nI i)]) rfl ?_
      refine am_icmp_gt 76 (am_at hc_B_readSum 12 rfl) (by decide) (fun h => ?_) (fun h => absurd (nI_lt (a := 12) (b := i) (by omega) (by omega)) h)
      refine am_go cd_B_readSum hc_B_readSum 43 1 (pc' := 77) (L' := [some (.ref 13), some (.int (nI k)), some (.ref (27 + k)), some (.int (nI i))]) (st' := [.int 0]) rfl ?_
      exact am_iret (am_at hc_B_readSum 44 rfl) rfl rfl ⟨rfl, rfl, rfl, hq1, hF1, fun _ _ z => by cases z⟩
    | succ F ih =>
      intro i d1 q1 c2 acc hi hF1 hq1 hc2 hqn hc3 hv2 hv3
      unfold pr_suml
      have hr3 := hF1.ok hr
      have hgd : pr_good n (pr_cap T n B q1 c2) := pr_cap_good hB hqn hc3
      refine am_go cd_B_readSum hc_B_readSum 10 2 (pc' := 17) (L' := [some (.ref 13), some (.int (nI k)), some (.ref (27 + k)), some (.int (nI i))]) (st' := [.int 12, .int (nI i)]) rfl ?_
      refine am_icmp_gt 76 (am_at hc_B_readSum 12 rfl) (by decide) (fun h => absurd h (nI_nlt (a := 12) (b := i) (by omega) (by omega))) (fun h => ?_)
      refine am_go cd_B_readSum hc_B_readSum 13 2 (pc' := 22) (L' := [some (.ref 13), some (.int (nI k)), some (.ref (27 + k)), some (.int (nI i))]) (st' := [.int (nI k), .ref 13]) rfl ?_
      refine cW.callV (st := []) [.int (nI k)] (am_at hc_B_readSum 15 rfl) g_B_readCapped (Or.inl (tw 169 rfl rfl)) (tw 171 rfl rfl) (tp 4 rfl rfl) 1 k_r1 rfl (by decide) rfl rfl rfl rfl (Nat.le_of_ble_eq_true rfl) (hC e d1 q1 c2 hr3 hq1 hc2 hqn hc3) ?_
      rintro _ d2 ⟨rfl, hpl, hF, hv⟩
      show cW _ _ (e + M + 6) _ m_B_readSum 25 [some (.ref 13), some (.int (nI k)), some (.ref (27 + k)), some (.int (nI i))] [.int (bI (pr_cap T n B q1 c2).2.isSome)] _ _
      have hF2 : rdF (k + 1) k d d2 := hF1.tr (hF.wd (by omega) (by omega))
      have hr2 := hF2.ok hr
      have hrow : d2 (27 + k) = d1 (27 + k) := hF.1 _ (by omega) (by omega) (by omega) (by omega)
      generalize pr_cap T n B q1 c2 = r at hpl hv hgd ⊢
      obtain ⟨q, oo⟩ := r
      cases oo with
      | none =>
        show cW _ _ _ _ m_B_readSum 25 [some (.ref 13), some (.int (nI k)), some (.ref (27 + k)), some (.int (nI i))] [.int 0] _ _
        refine am_if_ne 30 (am_at hc_B_readSum 16 rfl) (by decide) (fun h3 => absurd rfl h3) (fun h3 => ?_)
        refine am_go cd_B_readSum hc_B_readSum 17 1 (pc' := 29) (L' := [some (.ref 13), some (.int (nI k)), some (.ref (27 + k)), some (.int (nI i))]) (st' := [.int 0]) rfl ?_
        exact am_iret (am_at hc_B_readSum 18 rfl) rfl rfl ⟨rfl, rfl, rfl, hpl, hF2, fun _ _ z => by cases z⟩
      | some r =>
        show cW _ _ _ _ m_B_readSum 25 [some (.ref 13), some (.int (nI k)), some (.ref (27 + k)), some (.int (nI i))] [.int 1] _ _
        refine am_if_ne 30 (am_at hc_B_readSum 16 rfl) (by decide) (fun h3 => ?_) (fun h3 => absurd h3 (by decide))
        refine am_go cd_B_readSum hc_B_readSum 19 2 (pc' := 32) (L' := [some (.ref 13), some (.int (nI k)), some (.ref (27 + k)), some (.int (nI i))]) (st' := [.ref 13, .ref (27 + k)]) rfl ?_
        obtain ⟨c1, v1⟩ := r
        obtain ⟨g1, g2⟩ := hv _ _ rfl
        obtain ⟨y1, y2⟩ := hgd.2 _ _ rfl
        have hqn2 : q ≤ n := hgd.1
        refine am_getf 1 5 k_r1 (am_at hc_B_readSum 21 rfl) rfl (by decide) rfl (by decide) k_ok1 (Or.inl (tw 31 rfl rfl)) rfl ?_
        refine cW.callS1 38 [] (st := []) [.ref (27 + k), .ref 15] (am_at hc_B_readSum 22 rfl) g_A_join (Or.inr ⟨_, tn 212 rfl rfl⟩) (tw 213 rfl rfl) rfl rfl (Nat.le_of_ble_eq_true rfl) (c_join (27 + k) 15 acc v1 hsh rfl (by omega) (by decide) (by omega) (fun s hs => by rw [hrow]; exact hv3 s hs) g2 hv2.big y2.big) rfl rfl ?_
        have hF3 : rdF (k + 1) k d (am_tb d2 (27 + k) 64 (fun j => zI (jn acc v1 j))) := hF2.tr (rdF.row (by omega))
        have hrw : ∀ s, s < 64 → am_tb d2 (27 + k) 64 (fun j => zI (jn acc v1 j)) (27 + k) s = zI ((jn acc v1) s) := fun s hs => am_tb_lt hs
        have ho : ∀ b, b ≠ 27 + k → am_tb d2 (27 + k) 64 (fun j => zI (jn acc v1 j)) b = d2 b := fun b hb => am_tb_ne hb
        generalize am_tb d2 (27 + k) 64 (fun j => zI (jn acc v1 j)) = D at hF3 hrw ho ⊢
        have hrD := hF3.ok hr
        have hpD : D 13 2 = nI q := (congrFun (ho 13 (by omega)) 2).trans hpl
        have hcD : D 13 4 = nI c1 := (congrFun (ho 13 (by omega)) 4).trans g1
        refine am_go cd_B_readSum hc_B_readSum 23 2 (pc' := 41) (L' := [some (.ref 13), some (.int (nI k)), some (.ref (27 + k)), some (.int (nI i))]) (st' := [.int 43, .ref 13]) rfl ?_
        refine cW.callV1 44 [.int (bI (pr_se T n q 43))] (st := []) [.int 43] (am_at hc_B_readSum 25 rfl) g_B_sees (Or.inl (tw 177 rfl rfl)) (tw 179 rfl rfl) (tp 6 rfl rfl) 1 k_r1 rfl (by decide) rfl rfl rfl rfl (Nat.le_of_ble_eq_true rfl) (c_B_sees hrD 43 (by decide) hpD (by omega)) rfl rfl ?_
        cases hg : pr_se T n q 43 with
        | false =>
          simp only [bI_f]
          refine am_if_ne 61 (am_at hc_B_readSum 26 rfl) (by decide) (fun h4 => absurd rfl h4) (fun h4 => ?_)
          refine am_go cd_B_readSum hc_B_readSum 27 3 (pc' := 50) (L' := [some (.ref 13), some (.int (nI k)), some (.ref (27 + k)), some (.int (nI i))]) (st' := [.ref 13, .int 0, .ref (27 + k)]) rfl ?_
          refine am_getf 1 5 k_r1 (am_at hc_B_readSum 30 rfl) rfl (by decide) rfl (by decide) k_ok1 (Or.inl (tw 31 rfl rfl)) rfl ?_
          refine am_go cd_B_readSum hc_B_readSum 31 2 (pc' := 56) (L' := [some (.ref 13), some (.int (nI k)), some (.ref (27 + k)), some (.int (nI i))]) (st' := [.int 64, .int 0, .ref 15, .int 0, .ref (27 + k)]) rfl ?_
          refine am_copy 64 (am_at hc_B_readSum 33 rfl) (tw 218 rfl rfl) (tw 220 rfl rfl) (tw 219 rfl rfl) (tw 7 rfl rfl) (by rw [hsh]) rfl (by omega) (by decide) rfl (by rw [hsh]; decide) (Nat.le_of_ble_eq_true rfl) (by decide) (Nat.le_of_ble_eq_true rfl) ?_
          refine am_go cd_B_readSum hc_B_readSum 34 1 (pc' := 60) (L' := [some (.ref 13), some (.int (nI k)), some (.ref (27 + k)), some (.int (nI i))]) (st' := [.int 1]) rfl ?_
          refine am_iret (am_at hc_B_readSum 35 rfl) rfl rfl ⟨rfl, rfl, ?_⟩
          rw [if_pos hg, am_cp_tb]
          refine ⟨rfl, (congrFun (am_tb_ne (by decide)) 2).trans hpD, hF3.tr rdF.t15, fun c' v' z => ?_⟩
          cases z
          exact ⟨(congrFun (am_tb_ne (by decide)) 4).trans hcD, fun s hs => (am_tb_lt hs).trans (hrw s hs)⟩
        | true =>
          simp only [bI_t]
          rw [if_neg (by rw [hg]; decide)]
          refine am_if_ne 61 (am_at hc_B_readSum 26 rfl) (by decide) (fun h4 => ?_) (fun h4 => absurd h4 (by decide))
          refine am_go cd_B_readSum hc_B_readSum 36 1 (pc' := 62) (L' := [some (.ref 13), some (.int (nI k)), some (.ref (27 + k)), some (.int (nI i))]) (st' := [.ref 13]) rfl ?_
          have hq2 : q < n := (pr_se_lt hg).1
          refine cW.callV1 65 [.int (if 12 ≤ c1 then 0 else 1)] (st := []) [] (am_at hc_B_readSum 37 rfl) g_B_takeSign (Or.inl (tw 201 rfl rfl)) (tw 203 rfl rfl) (tp 12 rfl rfl) 1 k_r1 rfl (by decide) rfl rfl rfl rfl (Nat.le_of_ble_eq_true rfl) (c_B_takeSign hpD hcD (by omega)) rfl rfl ?_
          by_cases h2 : 12 ≤ c1
          · simp only [if_pos h2]
            refine am_if_ne 70 (am_at hc_B_readSum 38 rfl) (by decide) (fun h5 => absurd rfl h5) (fun h5 => ?_)
            refine am_go cd_B_readSum hc_B_readSum 39 1 (pc' := 69) (L' := [some (.ref 13), some (.int (nI k)), some (.ref (27 + k)), some (.int (nI i))]) (st' := [.int 0]) rfl ?_
            exact am_iret (am_at hc_B_readSum 40 rfl) rfl rfl ⟨rfl, rfl, rfl, hpD, hF3, fun _ _ z => by cases z⟩
          · simp only [if_neg h2]
            refine am_if_ne 70 (am_at hc_B_readSum 38 rfl) (by decide) (fun h5 => ?_) (fun h5 => absurd h5 (by decide))
            refine am_go cd_B_readSum hc_B_readSum 41 2 (pc' := 14) (L' := [some (.ref 13), some (.int (nI k)), some (.ref (27 + k)), some (.int (nI i + 1))]) (st' := []) rfl ?_
            rw [nI_1]
            exact ih (i + 1) _ (q + 1) (c1 + 1) (jn acc v1) (by omega) ((hF3.tr (rdF.u (by decide))).tr (rdF.u (by decide))) am_u_i ((am_u_o (by decide)).trans am_u_i) hq2 (by omega) (tb_jn hv2 y2) (fun s hs => by rw [am_u_ne _ (by omega), am_u_ne _ (by omega)]; exact hrw s hs)
  exact loop 13 0 _ p c (fun _ => 0) rfl hFd ((congrFun (am_tb_ne (by omega)) 2).trans hp) ((congrFun (am_tb_ne (by omega)) 4).trans hc) hpn hc12 tb_0 (fun s hs => am_tb_lt hs)
set_option maxHeartbeats 4000000 in
theorem c_B_readBid {l : Launch} {x : am_X} {L M : Nat} {T : Nat → Nat} {n k : Nat} {B : Option (Nat → Nat → pr_R)} (hk8 : k ≤ 8) (hn : n ≤ 40) (hB : pr_B n B) (hC : ∀ (e : Nat) (d : am_D) (p c : Nat), rd_ok d T n → d 13 2 = nI p → d 13 4 = nI c → p ≤ n → c ≤ 12 → cM l x (e + M + 6) L m_B_readSum [.ref 13, .int (nI k)] d (rdQ (k + 1) k d (pr_sum T n B p c))) (e : Nat) (d : am_D) (p c : Nat) (hr : rd_ok d T n) (hp : d 13 2 = nI p) (hc : d 13 4 = nI c) (hpn : p ≤ n) (hc12 : c ≤ 12) : cM l x (e + M + 7) L m_B_readBid [.ref 13, .int (nI k)] d (rdQ k k d (pr_bid T n B p c)) := by
  refine cM.go (by decide) (by simp [Value.category]) (Nat.le_of_ble_eq_true rfl) ?_
  have hsh := SH_c L k (by omega)
  refine am_go cd_B_readBid hc_B_readBid 0 1 (pc' := 1) (L' := [some (.ref 13), some (.int (nI k)), none, none]) (st' := [.ref 13]) rfl ?_
  refine am_getf 1 6 k_r1 (am_at hc_B_readBid 1 rfl) rfl (by decide) rfl (by decide) k_ok1 (Or.inl (tw 33 rfl rfl)) rfl ?_
  refine am_go cd_B_readBid hc_B_readBid 2 1 (pc' := 5) (L' := [some (.ref 13), some (.int (nI k)), none, none]) (st' := [.int (nI k), .ref 16]) rfl ?_
  refine am_aaload (k) (17 + k) (am_at hc_B_readBid 3 rfl) rfl (by decide) rfl (by show k < 9; omega) (Nat.le_of_ble_eq_true rfl) (if_pos (by omega : k < 9)) ?_
  refine am_go cd_B_readBid hc_B_readBid 4 3 (pc' := 9) (L' := [some (.ref 13), some (.int (nI k)), some (.ref (17 + k)), none]) (st' := [.int 0, .ref (17 + k)]) rfl ?_
  refine cW.callS1 12 [] (st := []) [.ref (17 + k), .int 0] (am_at hc_B_readBid 7 rfl) g_J_fill (Or.inl (tw 164 rfl rfl)) (tw 131 rfl rfl) rfl rfl (Nat.le_of_ble_eq_true rfl) (c_fill (17 + k) hsh (by omega)) rfl rfl ?_
  refine am_go cd_B_readBid hc_B_readBid 8 2 (pc' := 14) (L' := [some (.ref 13), some (.int (nI k)), some (.ref (17 + k)), some (.int 0)]) (st' := []) rfl ?_
  have hFd : rdF k k d (am_tb d (17 + k) 64 (fun _ => zI 0)) := rdF.row (by omega)
  have loop : ∀ (F i : Nat) (d1 : am_D) (q1 c2 : Nat) (acc : Nat → Int), i + F = 13 → rdF k k d d1 → d1 13 2 = nI q1 → d1 13 4 = nI c2 → q1 ≤ n → c2 ≤ 12 → tb_ok acc → (∀ s, s < 64 → d1 (17 + k) s = zI (acc s)) → cW l x (e + M + 7) L m_B_readBid 14 [some (.ref 13), some (.int (nI k)), some (.ref (17 + k)), some (.int (nI i))] [] d1 (rdQ k k d (pr_bidl T n B F q1 c2 acc)) := by
    intro F
    induction F with
    | zero =>
      intro i d1 q1 c2 acc hi hF1 hq1 hc2 hqn hc3 hv2 hv3
      unfold pr_bidl
      refine am_go cd_B_readBid hc_B_readBid 10 2 (pc' := 17) (L' := [some (.ref 13), some (.int (nI k)), some (.ref (17 + k)), some (.int (nI i))]) (st' := [.int 12, .int (nI i)]) rfl ?_
      refine am_icmp_gt 73 (am_at hc_B_readBid 12 rfl) (by decide) (fun h => ?_) (fun h => absurd (nI_lt (a := 12) (b := i) (by omega) (by omega)) h)
      refine am_go cd_B_readBid hc_B_readBid 42 1 (pc' := 74) (L' := [some (.ref 13), some (.int (nI k)), some (.ref (17 + k)), some (.int (nI i))]) (st' := [.int 0]) rfl ?_
      exact am_iret (am_at hc_B_readBid 43 rfl) rfl rfl ⟨rfl, rfl, rfl, hq1, hF1, fun _ _ z => by cases z⟩
    | succ F ih =>
      intro i d1 q1 c2 acc hi hF1 hq1 hc2 hqn hc3 hv2 hv3
      unfold pr_bidl
      have hr3 := hF1.ok hr
      have hgd : pr_good n (pr_sum T n B q1 c2) := pr_suml_good hB 13 q1 c2 _ hqn hc3 tb_0
      refine am_go cd_B_readBid hc_B_readBid 10 2 (pc' := 17) (L' := [some (.ref 13), some (.int (nI k)), some (.ref (17 + k)), some (.int (nI i))]) (st' := [.int 12, .int (nI i)]) rfl ?_
      refine am_icmp_gt 73 (am_at hc_B_readBid 12 rfl) (by decide) (fun h => absurd h (nI_nlt (a := 12) (b := i) (by omega) (by omega))) (fun h => ?_)
      refine am_go cd_B_readBid hc_B_readBid 13 2 (pc' := 22) (L' := [some (.ref 13), some (.int (nI k)), some (.ref (17 + k)), some (.int (nI i))]) (st' := [.int (nI k), .ref 13]) rfl ?_
      refine cW.callV (st := []) [.int (nI k)] (am_at hc_B_readBid 15 rfl) g_B_readSum (Or.inl (tw 165 rfl rfl)) (tw 167 rfl rfl) (tp 3 rfl rfl) 1 k_r1 rfl (by decide) rfl rfl rfl rfl (Nat.le_of_ble_eq_true rfl) (hC e d1 q1 c2 hr3 hq1 hc2 hqn hc3) ?_
      rintro _ d2 ⟨rfl, hpl, hF, hv⟩
      show cW _ _ (e + M + 7) _ m_B_readBid 25 [some (.ref 13), some (.int (nI k)), some (.ref (17 + k)), some (.int (nI i))] [.int (bI (pr_sum T n B q1 c2).2.isSome)] _ _
      have hF2 : rdF k k d d2 := hF1.tr (hF.wd (by omega) (by omega))
      have hr2 := hF2.ok hr
      have hrow : d2 (17 + k) = d1 (17 + k) := hF.1 _ (by omega) (by omega) (by omega) (by omega)
      generalize pr_sum T n B q1 c2 = r at hpl hv hgd ⊢
      obtain ⟨q, oo⟩ := r
      cases oo with
      | none =>
        show cW _ _ _ _ m_B_readBid 25 [some (.ref 13), some (.int (nI k)), some (.ref (17 + k)), some (.int (nI i))] [.int 0] _ _
        refine am_if_ne 30 (am_at hc_B_readBid 16 rfl) (by decide) (fun h3 => absurd rfl h3) (fun h3 => ?_)
        refine am_go cd_B_readBid hc_B_readBid 17 1 (pc' := 29) (L' := [some (.ref 13), some (.int (nI k)), some (.ref (17 + k)), some (.int (nI i))]) (st' := [.int 0]) rfl ?_
        exact am_iret (am_at hc_B_readBid 18 rfl) rfl rfl ⟨rfl, rfl, rfl, hpl, hF2, fun _ _ z => by cases z⟩
      | some r =>
        show cW _ _ _ _ m_B_readBid 25 [some (.ref 13), some (.int (nI k)), some (.ref (17 + k)), some (.int (nI i))] [.int 1] _ _
        refine am_if_ne 30 (am_at hc_B_readBid 16 rfl) (by decide) (fun h3 => ?_) (fun h3 => absurd h3 (by decide))
        refine am_go cd_B_readBid hc_B_readBid 19 2 (pc' := 32) (L' := [some (.ref 13), some (.int (nI k)), some (.ref (17 + k)), some (.int (nI i))]) (st' := [.ref (17 + k), .ref 13]) rfl ?_
        obtain ⟨c1, v1⟩ := r
        obtain ⟨g1, g2⟩ := hv _ _ rfl
        obtain ⟨y1, y2⟩ := hgd.2 _ _ rfl
        have hqn2 : q ≤ n := hgd.1
        refine cW.callV1 35 [] (st := []) [.ref (17 + k)] (am_at hc_B_readBid 21 rfl) g_B_keepGreater (Or.inl (tw 221 rfl rfl)) (tw 223 rfl rfl) (tp 14 rfl rfl) 1 k_r1 rfl (by decide) rfl rfl rfl rfl (Nat.le_of_ble_eq_true rfl) (c_B_keepGreater (17 + k) acc v1 (by rw [hsh]) (by rw [hsh]) (by omega) (by omega) (fun s hs => by rw [hrow]; exact hv3 s hs) g2 hv2.big y2.big) rfl rfl ?_
        have hF3 : rdF k k d (am_tb d2 (17 + k) 64 (fun j => zI (max (acc j) (v1 j)))) := hF2.tr (rdF.row (by omega))
        have hrw : ∀ s, s < 64 → am_tb d2 (17 + k) 64 (fun j => zI (max (acc j) (v1 j))) (17 + k) s = zI ((fun s => max (acc s) (v1 s)) s) := fun s hs => am_tb_lt hs
        have ho : ∀ b, b ≠ 17 + k → am_tb d2 (17 + k) 64 (fun j => zI (max (acc j) (v1 j))) b = d2 b := fun b hb => am_tb_ne hb
        generalize am_tb d2 (17 + k) 64 (fun j => zI (max (acc j) (v1 j))) = D at hF3 hrw ho ⊢
        have hrD := hF3.ok hr
        have hpD : D 13 2 = nI q := (congrFun (ho 13 (by omega)) 2).trans hpl
        have hcD : D 13 4 = nI c1 := (congrFun (ho 13 (by omega)) 4).trans g1
        refine am_go cd_B_readBid hc_B_readBid 22 2 (pc' := 38) (L' := [some (.ref 13), some (.int (nI k)), some (.ref (17 + k)), some (.int (nI i))]) (st' := [.int 94, .ref 13]) rfl ?_
        refine cW.callV1 41 [.int (bI (pr_se T n q 94))] (st := []) [.int 94] (am_at hc_B_readBid 24 rfl) g_B_sees (Or.inl (tw 177 rfl rfl)) (tw 179 rfl rfl) (tp 6 rfl rfl) 1 k_r1 rfl (by decide) rfl rfl rfl rfl (Nat.le_of_ble_eq_true rfl) (c_B_sees hrD 94 (by decide) hpD (by omega)) rfl rfl ?_
        cases hg : pr_se T n q 94 with
        | false =>
          simp only [bI_f]
          refine am_if_ne 58 (am_at hc_B_readBid 25 rfl) (by decide) (fun h4 => absurd rfl h4) (fun h4 => ?_)
          refine am_go cd_B_readBid hc_B_readBid 26 3 (pc' := 47) (L' := [some (.ref 13), some (.int (nI k)), some (.ref (17 + k)), some (.int (nI i))]) (st' := [.ref 13, .int 0, .ref (17 + k)]) rfl ?_
          refine am_getf 1 5 k_r1 (am_at hc_B_readBid 29 rfl) rfl (by decide) rfl (by decide) k_ok1 (Or.inl (tw 31 rfl rfl)) rfl ?_
          refine am_go cd_B_readBid hc_B_readBid 30 2 (pc' := 53) (L' := [some (.ref 13), some (.int (nI k)), some (.ref (17 + k)), some (.int (nI i))]) (st' := [.int 64, .int 0, .ref 15, .int 0, .ref (17 + k)]) rfl ?_
          refine am_copy 64 (am_at hc_B_readBid 32 rfl) (tw 218 rfl rfl) (tw 220 rfl rfl) (tw 219 rfl rfl) (tw 7 rfl rfl) (by rw [hsh]) rfl (by omega) (by decide) rfl (by rw [hsh]; decide) (Nat.le_of_ble_eq_true rfl) (by decide) (Nat.le_of_ble_eq_true rfl) ?_
          refine am_go cd_B_readBid hc_B_readBid 33 1 (pc' := 57) (L' := [some (.ref 13), some (.int (nI k)), some (.ref (17 + k)), some (.int (nI i))]) (st' := [.int 1]) rfl ?_
          refine am_iret (am_at hc_B_readBid 34 rfl) rfl rfl ⟨rfl, rfl, ?_⟩
          rw [if_pos hg, am_cp_tb]
          refine ⟨rfl, (congrFun (am_tb_ne (by decide)) 2).trans hpD, hF3.tr rdF.t15, fun c' v' z => ?_⟩
          cases z
          exact ⟨(congrFun (am_tb_ne (by decide)) 4).trans hcD, fun s hs => (am_tb_lt hs).trans (hrw s hs)⟩
        | true =>
          simp only [bI_t]
          rw [if_neg (by rw [hg]; decide)]
          refine am_if_ne 58 (am_at hc_B_readBid 25 rfl) (by decide) (fun h4 => ?_) (fun h4 => absurd h4 (by decide))
          refine am_go cd_B_readBid hc_B_readBid 35 1 (pc' := 59) (L' := [some (.ref 13), some (.int (nI k)), some (.ref (17 + k)), some (.int (nI i))]) (st' := [.ref 13]) rfl ?_
          have hq2 : q < n := (pr_se_lt hg).1
          refine cW.callV1 62 [.int (if 12 ≤ c1 then 0 else 1)] (st := []) [] (am_at hc_B_readBid 36 rfl) g_B_takeSign (Or.inl (tw 201 rfl rfl)) (tw 203 rfl rfl) (tp 12 rfl rfl) 1 k_r1 rfl (by decide) rfl rfl rfl rfl (Nat.le_of_ble_eq_true rfl) (c_B_takeSign hpD hcD (by omega)) rfl rfl ?_
          by_cases h2 : 12 ≤ c1
          · simp only [if_pos h2]
            refine am_if_ne 67 (am_at hc_B_readBid 37 rfl) (by decide) (fun h5 => absurd rfl h5) (fun h5 => ?_)
            refine am_go cd_B_readBid hc_B_readBid 38 1 (pc' := 66) (L' := [some (.ref 13), some (.int (nI k)), some (.ref (17 + k)), some (.int (nI i))]) (st' := [.int 0]) rfl ?_
            exact am_iret (am_at hc_B_readBid 39 rfl) rfl rfl ⟨rfl, rfl, rfl, hpD, hF3, fun _ _ z => by cases z⟩
          · simp only [if_neg h2]
            refine am_if_ne 67 (am_at hc_B_readBid 37 rfl) (by decide) (fun h5 => ?_) (fun h5 => absurd h5 (by decide))
            refine am_go cd_B_readBid hc_B_readBid 40 2 (pc' := 14) (L' := [some (.ref 13), some (.int (nI k)), some (.ref (17 + k)), some (.int (nI i + 1))]) (st' := []) rfl ?_
            rw [nI_1]
            exact ih (i + 1) _ (q + 1) (c1 + 1) (fun s => max (acc s) (v1 s)) (by omega) ((hF3.tr (rdF.u (by decide))).tr (rdF.u (by decide))) am_u_i ((am_u_o (by decide)).trans am_u_i) hq2 (by omega) (tb_max hv2 y2) (fun s hs => by rw [am_u_ne _ (by omega), am_u_ne _ (by omega)]; exact hrw s hs)
  exact loop 13 0 _ p c (fun _ => 0) rfl hFd ((congrFun (am_tb_ne (by omega)) 2).trans hp) ((congrFun (am_tb_ne (by omega)) 4).trans hc) hpn hc12 tb_0 (fun s hs => am_tb_lt hs)
/-- readBid at depth k, by the brackets that may still come -/
theorem c_B_readBid_all {l : Launch} {x : am_X} {L : Nat} {T : Nat → Nat} {n : Nat} (hn : n ≤ 40) : ∀ (j k : Nat), k + j = 8 → ∀ (e : Nat) (d : am_D) (p c : Nat), rd_ok d T n → d 13 2 = nI p → d 13 4 = nI c → p ≤ n → c ≤ 12 → cM l x (e + 4 * j + 7) L m_B_readBid [.ref 13, .int (nI k)] d (rdQ k k d (pr_bidk T n j p c))
  | 0, k, hk, e, d, p, c, hr, hp, hc, hpn, hc12 => by
    have hB : pr_B n none := fun f z => by cases z
    have hA : ∀ (e : Nat) (d : am_D) (p c : Nat), rd_ok d T n → d 13 2 = nI p → d 13 4 = nI c → p ≤ n → c ≤ 12 → cM l x (e + 0 + 4) L m_B_readAtom [.ref 13, .int (nI k)] d (rdQ (k + 1) (k + 1) d (pr_atom T n none p c)) := fun e d p c => c_B_readAtom (M := 0) hn hB (Or.inl ⟨rfl, by omega⟩) e d p c
    have hCp : ∀ (e : Nat) (d : am_D) (p c : Nat), rd_ok d T n → d 13 2 = nI p → d 13 4 = nI c → p ≤ n → c ≤ 12 → cM l x (e + 0 + 5) L m_B_readCapped [.ref 13, .int (nI k)] d (rdQ (k + 1) (k + 1) d (pr_cap T n none p c)) := fun e d p c => c_B_readCapped (M := 0) hn hB hA e d p c
    have hSm : ∀ (e : Nat) (d : am_D) (p c : Nat), rd_ok d T n → d 13 2 = nI p → d 13 4 = nI c → p ≤ n → c ≤ 12 → cM l x (e + 0 + 6) L m_B_readSum [.ref 13, .int (nI k)] d (rdQ (k + 1) k d (pr_sum T n none p c)) := fun e d p c => c_B_readSum (M := 0) (by omega) hn hB hCp e d p c
    exact c_B_readBid (M := 0) (by omega) hn hB hSm e d p c hr hp hc hpn hc12
  | j + 1, k, hk, e, d, p, c, hr, hp, hc, hpn, hc12 => by
    have hB : pr_B n (some (pr_bidk T n j)) := fun f z => by cases z; exact fun p c hp hc => pr_bidk_good j p c hp hc
    have hin : ∀ (e : Nat) (d : am_D) (p c : Nat), rd_ok d T n → d 13 2 = nI p → d 13 4 = nI c → p ≤ n → c ≤ 12 → cM l x (e + (4 * j + 4) + 3) L m_B_readBid [.ref 13, .int (nI (k + 1))] d (rdQ (k + 1) (k + 1) d (pr_bidk T n j p c)) := fun e d p c h1 h2 h3 h4 h5 => c_B_readBid_all hn j (k + 1) (by omega) e d p c h1 h2 h3 h4 h5
    have hA : ∀ (e : Nat) (d : am_D) (p c : Nat), rd_ok d T n → d 13 2 = nI p → d 13 4 = nI c → p ≤ n → c ≤ 12 → cM l x (e + (4 * j + 4) + 4) L m_B_readAtom [.ref 13, .int (nI k)] d (rdQ (k + 1) (k + 1) d (pr_atom T n (some (pr_bidk T n j)) p c)) := fun e d p c => c_B_readAtom (M := 4 * j + 4) hn hB (Or.inr ⟨_, rfl, by omega, hin⟩) e d p c
    have hCp : ∀ (e : Nat) (d : am_D) (p c : Nat), rd_ok d T n → d 13 2 = nI p → d 13 4 = nI c → p ≤ n → c ≤ 12 → cM l x (e + (4 * j + 4) + 5) L m_B_readCapped [.ref 13, .int (nI k)] d (rdQ (k + 1) (k + 1) d (pr_cap T n (some (pr_bidk T n j)) p c)) := fun e d p c => c_B_readCapped (M := 4 * j + 4) hn hB hA e d p c
    have hSm : ∀ (e : Nat) (d : am_D) (p c : Nat), rd_ok d T n → d 13 2 = nI p → d 13 4 = nI c → p ≤ n → c ≤ 12 → cM l x (e + (4 * j + 4) + 6) L m_B_readSum [.ref 13, .int (nI k)] d (rdQ (k + 1) k d (pr_sum T n (some (pr_bidk T n j)) p c)) := fun e d p c => c_B_readSum (M := 4 * j + 4) (by omega) hn hB hCp e d p c
    exact c_B_readBid (M := 4 * j + 4) (by omega) hn hB hSm e d p c hr hp hc hpn hc12
/-- the whole reading: a fault's place, or what was read -/
def pr_read (T : Nat → Nat) (n : Nat) : Nat ⊕ (Nat × (Nat → Int)) := match pr_bidk T n 8 0 0 with
  | (q, none) => .inl q
  | (q, some r) => if q = n then .inr r else .inl q
def pr_ans (r : Nat ⊕ (Nat × (Nat → Int))) : Int32 := match r with
  | .inl q => nI q
  | .inr _ => -1
set_option maxHeartbeats 4000000 in
theorem c_B_read {l : Launch} {x : am_X} {e L : Nat} {d : am_D} {T : Nat → Nat} {n : Nat} (hr : rd_ok d T n) : cM l x (e + 40) L m_B_read [.ref 13] d (fun ret d' => ret = some (.int (pr_ans (pr_read T n))) ∧ rdF 0 0 d d' ∧ ∀ c v, pr_read T n = .inr (c, v) → d' 13 4 = nI c ∧ ∀ s, s < 64 → d' 15 s = zI (v s)) := by
  refine cM.go (by decide) (by simp [Value.category]) (Nat.le_of_ble_eq_true rfl) ?_
  refine am_go cd_B_read hc_B_read 0 2 (pc' := 2) (L' := [some (.ref 13)]) (st' := [.int 0, .ref 13]) rfl ?_
  refine am_putI 1 2 k_r1 (am_at hc_B_read 2 rfl) rfl (by decide) rfl (by decide) k_ok1 (tw 27 rfl rfl) rfl rfl rfl rfl ?_
  refine am_go cd_B_read hc_B_read 3 2 (pc' := 7) (L' := [some (.ref 13)]) (st' := [.int 0, .ref 13]) rfl ?_
  refine am_putI 1 4 k_r1 (am_at hc_B_read 5 rfl) rfl (by decide) rfl (by decide) k_ok1 (tw 29 rfl rfl) rfl rfl rfl rfl ?_
  refine am_go cd_B_read hc_B_read 6 2 (pc' := 12) (L' := [some (.ref 13)]) (st' := [.int 0, .ref 13]) rfl ?_
  generalize hD : am_u (am_u d 13 2 0) 13 4 0 = D
  have hFD : rdF 0 0 d D := by rw [← hD]; exact (rdF.u (by decide)).tr (rdF.u (by decide))
  have hrD := hFD.ok hr
  have hn := hr.2.1
  refine cW.callV (st := []) [.int 0] (am_at hc_B_read 8 rfl) g_B_readBid (Or.inl (tw 160 rfl rfl)) (tw 162 rfl rfl) (tp 2 rfl rfl) 1 k_r1 rfl (by decide) rfl rfl rfl rfl (Nat.le_of_ble_eq_true rfl) (c_B_readBid_all hn 8 0 rfl e D 0 0 hrD (by rw [← hD, am_u_o (by decide)]; exact am_u_i) (by rw [← hD]; exact am_u_i) (Nat.zero_le _) (by decide)) ?_
  rintro _ d2 ⟨rfl, hpl, hF, hv⟩
  show cW _ _ (e + 40) _ m_B_read 15 [some (.ref 13)] [.int (bI (pr_bidk T n 8 0 0).2.isSome)] _ _
  have hF2 : rdF 0 0 d d2 := hFD.tr hF
  have hr2 := hF2.ok hr
  have hgd := pr_bidk_good (T := T) 8 0 0 (Nat.zero_le n) (by decide)
  unfold pr_read
  generalize pr_bidk T n 8 0 0 = r at hpl hv hgd ⊢
  obtain ⟨q, oo⟩ := r
  have hqn : q ≤ n := hgd.1
  cases oo with
  | none =>
    show cW _ _ _ _ m_B_read 15 [some (.ref 13)] [.int 0] _ _
    refine am_if_eq 33 (am_at hc_B_read 9 rfl) (by decide) (fun h3 => ?_) (fun h3 => absurd rfl h3)
    refine am_go cd_B_read hc_B_read 17 1 (pc' := 34) (L' := [some (.ref 13)]) (st' := [.ref 13]) rfl ?_
    refine am_getf 1 2 k_r1 (am_at hc_B_read 18 rfl) rfl (by decide) rfl (by decide) k_ok1 (Or.inl (tw 27 rfl rfl)) (congrArg Value.int hpl) ?_
    exact am_iret (am_at hc_B_read 19 rfl) rfl rfl ⟨rfl, rfl, rfl, hF2, fun _ _ z => by cases z⟩
  | some r =>
    show cW _ _ _ _ m_B_read 15 [some (.ref 13)] [.int 1] _ _
    refine am_if_eq 33 (am_at hc_B_read 9 rfl) (by decide) (fun h3 => absurd h3 (by decide)) (fun h3 => ?_)
    refine am_go cd_B_read hc_B_read 10 1 (pc' := 19) (L' := [some (.ref 13)]) (st' := [.ref 13]) rfl ?_
    refine am_getf 1 2 k_r1 (am_at hc_B_read 11 rfl) rfl (by decide) rfl (by decide) k_ok1 (Or.inl (tw 27 rfl rfl)) (congrArg Value.int hpl) ?_
    refine am_go cd_B_read hc_B_read 12 1 (pc' := 23) (L' := [some (.ref 13)]) (st' := [.ref 13, .int (nI q)]) rfl ?_
    refine am_getf 1 1 k_r1 (am_at hc_B_read 13 rfl) rfl (by decide) rfl (by decide) k_ok1 (Or.inl (tw 26 rfl rfl)) (congrArg Value.int hr2.1) ?_
    refine am_icmp_ne 33 (am_at hc_B_read 14 rfl) (by decide) (fun h4 => ?_) (fun h4 => ?_)
    · have hne : ¬ q = n := fun z => h4 (by rw [z])
      refine am_go cd_B_read hc_B_read 17 1 (pc' := 34) (L' := [some (.ref 13)]) (st' := [.ref 13]) rfl ?_
      refine am_getf 1 2 k_r1 (am_at hc_B_read 18 rfl) rfl (by decide) rfl (by decide) k_ok1 (Or.inl (tw 27 rfl rfl)) (congrArg Value.int hpl) ?_
      refine am_iret (am_at hc_B_read 19 rfl) rfl rfl ⟨rfl, rfl, ?_⟩
      simp only [if_neg hne]
      exact ⟨rfl, hF2, fun _ _ z => by cases z⟩
    · have hne : q = n := (nI_eq (by omega) (by omega)).mp h4
      refine am_go cd_B_read hc_B_read 15 2 (pc' := 37) (L' := [some (.ref 13)]) (st' := [.int (-1)]) rfl ?_
      refine am_iret (am_at hc_B_read 19 rfl) rfl rfl ⟨rfl, rfl, ?_⟩
      simp only [if_pos hne]
      refine ⟨rfl, hF2, fun c' v' z => ?_⟩
      cases z
      exact hv _ _ rfl
