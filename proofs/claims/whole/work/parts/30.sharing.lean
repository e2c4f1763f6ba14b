theorem c_sumOver {l : Launch} {x : am_X} {e L : Nat} {d : am_D} (a s : Nat) (f : Nat → Int) (hs : s < 64) (h : SH L a = (0, 6, fun _ => none)) (ha : a < 53 ∨ (1000 ≤ a ∧ a < 1002)) (hf : ∀ j, j < 6 → d a j = zI (f j)) : cM l x e L m_S_sumOver [.ref a, .int (nI s)] d (cR (some (.int (zI (so f s 6)))) d) := by
  refine am_Met.mono (c_S_sumOver a s f hs (by rw [h]) ha (by rw [h]) hf) ?_
  rintro r S' n' d' ⟨rfl, rfl, rfl, rfl⟩
  exact ⟨rfl, rfl, rfl, rfl⟩
/-- what a set counts in a rank; the scores, bidder by bidder -/
def rks (j : Nat) : Int := 6 ^ (5 - j)
def rk (s : Nat) : Int := so rks s 6
def own (w : Nat → Nat → Int) (k : Nat) : Nat → Int := fun t => w k t * 46656 - rk t * (k + 1)
def gs (w : Nat → Nat → Int) (res : Nat → Int) (lo : Int) : Nat → Nat → Int
  | 0 => fun s => so res s 6 * 46656
  | k + 1 => if (k : Int) = lo then gs w res lo k else jn (gs w res lo k) (own w k)
theorem rk_all : (List.range 64).all (fun s => decide (0 ≤ rk s ∧ rk s ≤ 9331)) = true := by decide +kernel
theorem rk_b {s : Nat} (hs : s < 64) : 0 ≤ rk s ∧ rk s ≤ 9331 := of_decide_eq_true (List.all_eq_true.mp rk_all s (List.mem_range.mpr hs))
theorem so_b {f : Nat → Int} (hf : ∀ j, j < 6 → 0 ≤ f j ∧ f j ≤ 999) {s : Nat} (hs : s < 64) : 0 ≤ so f s 6 ∧ so f s 6 ≤ 999 * pcn s := by
  have hb : ∀ i, i < 6 → (s.testBit i = true ↔ s / 2 ^ i % 2 = 1) := fun i _ => by rw [Nat.testBit_eq_decide_div_mod_eq]; simp
  have h0 := hf 0 (by decide); have h1 := hf 1 (by decide); have h2 := hf 2 (by decide); have h3 := hf 3 (by decide); have h4 := hf 4 (by decide); have h5 := hf 5 (by decide)
  have b0 := hb 0 (by decide); have b1 := hb 1 (by decide); have b2 := hb 2 (by decide); have b3 := hb 3 (by decide); have b4 := hb 4 (by decide); have b5 := hb 5 (by decide)
  simp only [so]
  unfold pcn
  have p0 : s / 2 ^ 0 = s := by simp
  have p1 : s / 2 ^ 1 = s / 2 := rfl
  have p2 : s / 2 ^ 2 = s / 4 := rfl
  have p3 : s / 2 ^ 3 = s / 8 := rfl
  have p4 : s / 2 ^ 4 = s / 16 := rfl
  have p5 : s / 2 ^ 5 = s / 32 := rfl
  rw [p0] at b0; rw [p1] at b1; rw [p2] at b2; rw [p3] at b3; rw [p4] at b4; rw [p5] at b5
  have e0 : (if s.testBit 0 = true then f 0 else 0) ≥ 0 ∧ (if s.testBit 0 = true then f 0 else 0) ≤ 999 * ((s % 2 : Nat) : Int) := by
    by_cases z : s.testBit 0 = true
    · have := b0.mp z; rw [if_pos z]; omega
    · rw [if_neg z]; omega
  have e1 : (if s.testBit 1 = true then f 1 else 0) ≥ 0 ∧ (if s.testBit 1 = true then f 1 else 0) ≤ 999 * ((s / 2 % 2 : Nat) : Int) := by
    by_cases z : s.testBit 1 = true
    · have := b1.mp z; rw [if_pos z]; omega
    · rw [if_neg z]; omega
  have e2 : (if s.testBit 2 = true then f 2 else 0) ≥ 0 ∧ (if s.testBit 2 = true then f 2 else 0) ≤ 999 * ((s / 4 % 2 : Nat) : Int) := by
    by_cases z : s.testBit 2 = true
    · have := b2.mp z; rw [if_pos z]; omega
    · rw [if_neg z]; omega
  have e3 : (if s.testBit 3 = true then f 3 else 0) ≥ 0 ∧ (if s.testBit 3 = true then f 3 else 0) ≤ 999 * ((s / 8 % 2 : Nat) : Int) := by
    by_cases z : s.testBit 3 = true
    · have := b3.mp z; rw [if_pos z]; omega
    · rw [if_neg z]; omega
  have e4 : (if s.testBit 4 = true then f 4 else 0) ≥ 0 ∧ (if s.testBit 4 = true then f 4 else 0) ≤ 999 * ((s / 16 % 2 : Nat) : Int) := by
    by_cases z : s.testBit 4 = true
    · have := b4.mp z; rw [if_pos z]; omega
    · rw [if_neg z]; omega
  have e5 : (if s.testBit 5 = true then f 5 else 0) ≥ 0 ∧ (if s.testBit 5 = true then f 5 else 0) ≤ 999 * ((s / 32 % 2 : Nat) : Int) := by
    by_cases z : s.testBit 5 = true
    · have := b5.mp z; rw [if_pos z]; omega
    · rw [if_neg z]; omega
  omega
theorem own_b {w : Nat → Nat → Int} (hw : ∀ b, b < 5 → tb_ok (w b)) {k : Nat} (hk : k < 5) {s : Nat} (hs : s < 64) : -500000 ≤ own w k s ∧ own w k s ≤ 46609344 * pcn s := by
  have h1 := (hw k hk).1 s hs
  have h2 := rk_b hs
  unfold own
  have h3 : 0 ≤ rk s * ((k : Int) + 1) := Int.mul_nonneg h2.1 (by omega)
  have h4 : rk s * ((k : Int) + 1) ≤ 9331 * 5 := Int.mul_le_mul h2.2 (by omega) (by omega) (by omega)
  omega
theorem gs_b {w : Nat → Nat → Int} {res : Nat → Int} (hw : ∀ b, b < 5 → tb_ok (w b)) (hres : ∀ j, j < 6 → 0 ≤ res j ∧ res j ≤ 999) (lo : Int) : ∀ k, k ≤ 5 → ∀ s, s < 64 → 0 ≤ gs w res lo k s ∧ gs w res lo k s ≤ 46609344 * pcn s
  | 0, _, s, hs => by
    have := so_b hres hs
    show 0 ≤ so res s 6 * 46656 ∧ so res s 6 * 46656 ≤ _
    omega
  | k + 1, hk, s, hs => by
    have ih := gs_b hw hres lo k (by omega)
    unfold gs
    split
    · exact ih s hs
    · have h1 := jn_ge (gs w res lo k) (own w k) hs (Nat.and_self s)
      have e0 : own w k 0 = 0 := by unfold own; rw [(hw k (by omega)).zero]; show 0 * 46656 - rk 0 * _ = 0; rw [show rk 0 = 0 by decide]; omega
      rw [Nat.sub_self, e0] at h1
      obtain ⟨p, hp, e⟩ := jn_is (gs w res lo k) (own w k) hs
      have h2 := ih p (sub_lt hs hp)
      have h3 := own_b hw (k := k) (by omega) (s := s - p) (by omega)
      have h4 := (pcn_sub hs hp).1
      have h5 := ih s hs
      refine ⟨by omega, ?_⟩
      rw [e]; omega
theorem gs_big {w : Nat → Nat → Int} {res : Nat → Int} (hw : ∀ b, b < 5 → tb_ok (w b)) (hres : ∀ j, j < 6 → 0 ≤ res j ∧ res j ≤ 999) (lo : Int) {k : Nat} (hk : k ≤ 5) : ∀ s, s < 64 → -500000000 ≤ gs w res lo k s ∧ gs w res lo k s ≤ 500000000 := fun s hs => by
  have h1 := gs_b hw hres lo k hk s hs
  have h2 := pcn_le s hs
  omega
theorem own_big {w : Nat → Nat → Int} (hw : ∀ b, b < 5 → tb_ok (w b)) {k : Nat} (hk : k < 5) : ∀ s, s < 64 → -500000000 ≤ own w k s ∧ own w k s ≤ 500000000 := fun s hs => by
  have h1 := own_b hw hk hs
  have h2 := pcn_le s hs
  omega
set_option maxHeartbeats 4000000 in
theorem c_S_welfareIn {l : Launch} {x : am_X} {e L : Nat} {d : am_D} (v : Int) (h1 : -46655 ≤ v) (h2 : v ≤ 500000000) : cM l x e L m_S_welfareIn [.int (zI v)] d (cR (some (.int (zI ((v + 46655) / 46656)))) d) := by
  refine cM.go (by decide) (by simp [Value.category]) (Nat.le_of_ble_eq_true rfl) ?_
  refine am_go cd_S_welfareIn hc_S_welfareIn 0 1 (pc' := 1) (L' := [some (.int (zI v))]) (st' := [.int (zI v)]) rfl ?_
  refine am_ldc 46656 (am_at hc_S_welfareIn 1 rfl) (tw 247 rfl rfl) ?_
  refine am_go cd_S_welfareIn hc_S_welfareIn 2 1 (pc' := 4) (L' := [some (.int (zI v))]) (st' := [.int (zI v + 46656)]) rfl ?_
  rw [show zI v + 46656 = zI (v + 46656) from zI_add v 46656]
  refine am_go cd_S_welfareIn hc_S_welfareIn 3 2 (pc' := 6) (L' := [some (.int (zI v))]) (st' := [.int (zI (v + 46656) - 1)]) rfl ?_
  rw [show zI (v + 46656) - 1 = zI (v + 46656 - 1) from zI_sub _ 1]
  refine am_ldc 46656 (am_at hc_S_welfareIn 5 rfl) (tw 247 rfl rfl) ?_
  refine am_idiv (am_at hc_S_welfareIn 6 rfl) (by decide) ?_
  have e1 : zI (v + 46656 - 1) / (46656 : Int32) = zI ((v + 46655) / 46656) := by
    have := zI_div (a := v + 46656 - 1) (b := 46656) (by omega) (by omega) (by decide) (by decide)
    rw [show v + 46656 - 1 = v + 46655 by omega] at this ⊢
    exact this
  rw [e1]
  exact am_iret (am_at hc_S_welfareIn 7 rfl) rfl rfl (cR_in rfl rfl)
set_option maxHeartbeats 4000000 in
theorem c_S_scoreBidder {l : Launch} {x : am_X} {e L : Nat} {d : am_D} (wt : Nat → Nat → Int) (k : Nat) (hk : k < 5) (hw : ∀ s, s < 64 → d (8 + k) s = zI (wt k s)) (hrk : ∀ s, s < 64 → d 37 s = zI (rk s)) : cM l x e L m_S_scoreBidder [.ref 36, .ref (8 + k), .int (zI (k + 1))] d (cR none (am_tb d 39 64 (fun s => zI (own wt k s)))) := by
  refine cM.go (by decide) (by simp [Value.category]) (Nat.le_of_ble_eq_true rfl) ?_
  refine am_go cd_S_scoreBidder hc_S_scoreBidder 0 2 (pc' := 2) (L' := [some (.ref 36), some (.ref (8 + k)), some (.int (zI (k + 1))), some (.int 0)]) (st' := []) rfl ?_
  have hsh := SH_w L k hk
  have loop : ∀ q j, j + q = 64 → cW l x e L m_S_scoreBidder 2 [some (.ref 36), some (.ref (8 + k)), some (.int (zI (k + 1))), some (.int (nI j))] [] (am_tb d 39 j (fun s => zI (own wt k s))) (cR none (am_tb d 39 64 (fun s => zI (own wt k s)))) := by
    intro q
    induction q with
    | zero =>
      intro j hj
      refine am_go cd_S_scoreBidder hc_S_scoreBidder 2 2 (pc' := 5) (L' := [some (.ref 36), some (.ref (8 + k)), some (.int (zI (k + 1))), some (.int (nI j))]) (st' := [.int 64, .int (nI j)]) rfl ?_
      refine am_icmp_ge 35 (am_at hc_S_scoreBidder 4 rfl) (by decide) (fun h => ?_) (fun h => absurd (nI_le (a := 64) (b := j) (by omega) (by omega)) h)
      exact am_vret (am_at hc_S_scoreBidder 23 rfl) rfl (cR_in rfl (by rw [show j = 64 by omega]))
    | succ q ih =>
      intro j hj
      refine am_go cd_S_scoreBidder hc_S_scoreBidder 2 2 (pc' := 5) (L' := [some (.ref 36), some (.ref (8 + k)), some (.int (zI (k + 1))), some (.int (nI j))]) (st' := [.int 64, .int (nI j)]) rfl ?_
      refine am_icmp_ge 35 (am_at hc_S_scoreBidder 4 rfl) (by decide) (fun h => absurd h (nI_ge (a := j) (b := 64) (by omega) (by omega))) (fun h => ?_)
      refine am_go cd_S_scoreBidder hc_S_scoreBidder 5 1 (pc' := 9) (L' := [some (.ref 36), some (.ref (8 + k)), some (.int (zI (k + 1))), some (.int (nI j))]) (st' := [.ref 36]) rfl ?_
      refine am_getf 2 2 k_r2 (am_at hc_S_scoreBidder 6 rfl) rfl (by decide) rfl (by decide) k_ok2 (Or.inl (tw 67 rfl rfl)) rfl ?_
      refine am_go cd_S_scoreBidder hc_S_scoreBidder 7 3 (pc' := 15) (L' := [some (.ref 36), some (.ref (8 + k)), some (.int (zI (k + 1))), some (.int (nI j))]) (st' := [.int (nI j), .ref (8 + k), .int (nI j), .ref 39]) rfl ?_
      refine am_iaload (j) (am_at hc_S_scoreBidder 10 rfl) (by rw [hsh]) (Or.inl (by omega)) rfl (by rw [hsh]; show j < 64; omega) (by rw [hsh]; decide) ?_
      rw [show am_tb d 39 j (fun s => zI (own wt k s)) (8 + k) j = zI (wt k j) from (congrFun (am_tb_ne (by omega)) j).trans (hw j (by omega))]
      refine am_ldc 46656 (am_at hc_S_scoreBidder 11 rfl) (tw 247 rfl rfl) ?_
      refine am_go cd_S_scoreBidder hc_S_scoreBidder 12 1 (pc' := 19) (L' := [some (.ref 36), some (.ref (8 + k)), some (.int (zI (k + 1))), some (.int (nI j))]) (st' := [.int (zI (wt k j) * 46656), .int (nI j), .ref 39]) rfl ?_
      rw [show zI (wt k j) * 46656 = zI (wt k j * 46656) from zI_mul _ 46656]
      refine am_go cd_S_scoreBidder hc_S_scoreBidder 13 1 (pc' := 20) (L' := [some (.ref 36), some (.ref (8 + k)), some (.int (zI (k + 1))), some (.int (nI j))]) (st' := [.ref 36, .int (zI (wt k j * 46656)), .int (nI j), .ref 39]) rfl ?_
      refine am_getf 2 0 k_r2 (am_at hc_S_scoreBidder 14 rfl) rfl (by decide) rfl (by decide) k_ok2 (Or.inl (tw 65 rfl rfl)) rfl ?_
      refine am_go cd_S_scoreBidder hc_S_scoreBidder 15 1 (pc' := 24) (L' := [some (.ref 36), some (.ref (8 + k)), some (.int (zI (k + 1))), some (.int (nI j))]) (st' := [.int (nI j), .ref 37, .int (zI (wt k j * 46656)), .int (nI j), .ref 39]) rfl ?_
      refine am_iaload (j) (am_at hc_S_scoreBidder 16 rfl) rfl (Or.inl (by decide)) rfl (by show j < 64; omega) (Nat.le_of_ble_eq_true rfl) ?_
      rw [show am_tb d 39 j (fun s => zI (own wt k s)) 37 j = zI (rk j) from (congrFun (am_tb_ne (by decide)) j).trans (hrk j (by omega))]
      refine am_go cd_S_scoreBidder hc_S_scoreBidder 17 2 (pc' := 27) (L' := [some (.ref 36), some (.ref (8 + k)), some (.int (zI (k + 1))), some (.int (nI j))]) (st' := [.int (zI (rk j) * zI (k + 1)), .int (zI (wt k j * 46656)), .int (nI j), .ref 39]) rfl ?_
      rw [show zI (rk j) * zI (k + 1) = zI (rk j * (k + 1)) from zI_mul _ _]
      refine am_go cd_S_scoreBidder hc_S_scoreBidder 19 1 (pc' := 28) (L' := [some (.ref 36), some (.ref (8 + k)), some (.int (zI (k + 1))), some (.int (nI j))]) (st' := [.int (zI (wt k j * 46656) - zI (rk j * (k + 1))), .int (nI j), .ref 39]) rfl ?_
      rw [show zI (wt k j * 46656) - zI (rk j * (k + 1)) = zI (own wt k j) from zI_sub _ _]
      refine am_iastore (j) (am_at hc_S_scoreBidder 20 rfl) rfl (by decide) rfl (by show j < 64; omega) (Nat.le_of_ble_eq_true rfl) ?_
      refine am_go cd_S_scoreBidder hc_S_scoreBidder 21 2 (pc' := 2) (L' := [some (.ref 36), some (.ref (8 + k)), some (.int (zI (k + 1))), some (.int (nI j + 1))]) (st' := []) rfl ?_
      rw [nI_1, am_tb_s d 39 j (fun s => zI (own wt k s))]
      exact ih (j + 1) (by omega)
  have h0 := loop 64 0 rfl
  rw [am_tb_0] at h0
  exact h0
set_option maxHeartbeats 4000000 in
theorem c_S_greatestScore {l : Launch} {x : am_X} {e L : Nat} {d : am_D} (wt : Nat → Nat → Int) (res : Nat → Int) (lo : Int) (hl1 : -1 ≤ lo) (hl2 : lo ≤ 4) (hw : ∀ b, b < 5 → ∀ s, s < 64 → d (8 + b) s = zI (wt b s)) (hwt : ∀ b, b < 5 → tb_ok (wt b)) (hrs : ∀ j, j < 6 → d 3 j = zI (res j)) (hres : ∀ j, j < 6 → 0 ≤ res j ∧ res j ≤ 999) (hrk : ∀ s, s < 64 → d 37 s = zI (rk s)) : cM l x (e + 2) L m_S_greatestScore [.ref 36, .ref 7, .ref 3, .int (zI lo)] d (fun ret d' => ret = some (.int (zI (gs wt res lo 5 63))) ∧ ∀ a, a ≠ 38 → a ≠ 39 → d' a = d a) := by
  refine cM.go (by decide) (by simp [Value.category]) (Nat.le_of_ble_eq_true rfl) ?_
  refine am_go cd_S_greatestScore hc_S_greatestScore 0 2 (pc' := 3) (L' := [some (.ref 36), some (.ref 7), some (.ref 3), some (.int (zI lo)), some (.int 0)]) (st' := []) rfl ?_
  have loop2 : ∀ q k d1, k + q = 5 → (∀ a, a ≠ 38 → a ≠ 39 → d1 a = d a) → (∀ s, s < 64 → d1 38 s = zI (gs wt res lo k s)) → cW l x (e + 2) L m_S_greatestScore 35 [some (.ref 36), some (.ref 7), some (.ref 3), some (.int (zI lo)), some (.int (nI k))] [] d1 (fun ret d' => ret = some (.int (zI (gs wt res lo 5 63))) ∧ ∀ a, a ≠ 38 → a ≠ 39 → d' a = d a) := by
    intro q
    induction q with
    | zero =>
      intro k d1 hk ho ht
      have hk5 : k = 5 := by omega
      subst hk5
      refine am_go cd_S_greatestScore hc_S_greatestScore 18 2 (pc' := 38) (L' := [some (.ref 36), some (.ref 7), some (.ref 3), some (.int (zI lo)), some (.int (nI 5))]) (st' := [.int 5, .int (nI 5)]) rfl ?_
      refine am_icmp_ge 76 (am_at hc_S_greatestScore 20 rfl) (by decide) (fun h => ?_) (fun h => absurd (nI_le (a := 5) (b := 5) (by omega) (by omega)) h)
      refine am_go cd_S_greatestScore hc_S_greatestScore 39 1 (pc' := 77) (L' := [some (.ref 36), some (.ref 7), some (.ref 3), some (.int (zI lo)), some (.int (nI 5))]) (st' := [.ref 36]) rfl ?_
      refine am_getf 2 1 k_r2 (am_at hc_S_greatestScore 40 rfl) rfl (by decide) rfl (by decide) k_ok2 (Or.inl (tw 66 rfl rfl)) rfl ?_
      refine am_go cd_S_greatestScore hc_S_greatestScore 41 1 (pc' := 82) (L' := [some (.ref 36), some (.ref 7), some (.ref 3), some (.int (zI lo)), some (.int (nI 5))]) (st' := [.int 63, .ref 38]) rfl ?_
      refine am_iaload (63) (am_at hc_S_greatestScore 42 rfl) rfl (Or.inl (by decide)) rfl (Nat.le_of_ble_eq_true rfl) (Nat.le_of_ble_eq_true rfl) ?_
      exact am_iret (am_at hc_S_greatestScore 43 rfl) rfl rfl ⟨rfl, rfl, by rw [ht 63 (by decide)], ho⟩
    | succ q ih =>
      intro k d1 hk ho ht
      refine am_go cd_S_greatestScore hc_S_greatestScore 18 2 (pc' := 38) (L' := [some (.ref 36), some (.ref 7), some (.ref 3), some (.int (zI lo)), some (.int (nI k))]) (st' := [.int 5, .int (nI k)]) rfl ?_
      refine am_icmp_ge 76 (am_at hc_S_greatestScore 20 rfl) (by decide) (fun h => absurd h (nI_ge (a := k) (b := 5) (by omega) (by omega))) (fun h => ?_)
      refine am_go cd_S_greatestScore hc_S_greatestScore 21 2 (pc' := 44) (L' := [some (.ref 36), some (.ref 7), some (.ref 3), some (.int (zI lo)), some (.int (nI k))]) (st' := [.int (zI lo), .int (nI k)]) rfl ?_
      refine am_icmp_eq 70 (am_at hc_S_greatestScore 23 rfl) (by decide) (fun h2 => ?_) (fun h2 => ?_)
      · have hlk : (k : Int) = lo := by rw [nI_zI] at h2; exact (zI_eq (by omega) (by omega) (by omega) (by omega)).mp h2
        refine am_go cd_S_greatestScore hc_S_greatestScore 37 2 (pc' := 35) (L' := [some (.ref 36), some (.ref 7), some (.ref 3), some (.int (zI lo)), some (.int (nI k + 1))]) (st' := []) rfl ?_
        rw [nI_1]
        exact ih (k + 1) d1 (by omega) ho (fun s hs => by rw [ht s hs]; show _ = zI ((if (k : Int) = lo then gs wt res lo k else jn (gs wt res lo k) (own wt k)) s); rw [if_pos hlk])
      · have hlk : ¬ (k : Int) = lo := fun z => h2 (by rw [nI_zI, z])
        refine am_go cd_S_greatestScore hc_S_greatestScore 24 3 (pc' := 51) (L' := [some (.ref 36), some (.ref 7), some (.ref 3), some (.int (zI lo)), some (.int (nI k))]) (st' := [.int (nI k), .ref 7, .ref 36]) rfl ?_
        refine am_aaload (k) (8 + k) (am_at hc_S_greatestScore 27 rfl) rfl (by decide) rfl (by show k < 5; omega) (Nat.le_of_ble_eq_true rfl) (if_pos (by omega : k < 5)) ?_
        refine am_go cd_S_greatestScore hc_S_greatestScore 28 3 (pc' := 56) (L' := [some (.ref 36), some (.ref 7), some (.ref 3), some (.int (zI lo)), some (.int (nI k))]) (st' := [.int (nI k + 1), .ref (8 + k), .ref 36]) rfl ?_
        rw [show nI k + 1 = zI (k + 1) from by rw [nI_zI]; exact zI_add _ 1]
        refine cW.callV1 59 [] (st := []) [.ref (8 + k), .int (zI (k + 1))] (am_at hc_S_greatestScore 31 rfl) g_S_scoreBidder (Or.inl (tw 248 rfl rfl)) (tw 250 rfl rfl) (tp 15 rfl rfl) 2 k_r2 rfl (by decide) rfl rfl rfl rfl (Nat.le_of_ble_eq_true rfl) (c_S_scoreBidder wt k (by omega) (fun s hs => by rw [ho (8 + k) (by omega) (by omega)]; exact hw k (by omega) s hs) (fun s hs => by rw [ho 37 (by decide) (by decide)]; exact hrk s hs)) rfl rfl ?_
        refine am_go cd_S_greatestScore hc_S_greatestScore 32 1 (pc' := 60) (L' := [some (.ref 36), some (.ref 7), some (.ref 3), some (.int (zI lo)), some (.int (nI k))]) (st' := [.ref 36]) rfl ?_
        refine am_getf 2 1 k_r2 (am_at hc_S_greatestScore 33 rfl) rfl (by decide) rfl (by decide) k_ok2 (Or.inl (tw 66 rfl rfl)) rfl ?_
        refine am_go cd_S_greatestScore hc_S_greatestScore 34 1 (pc' := 64) (L' := [some (.ref 36), some (.ref 7), some (.ref 3), some (.int (zI lo)), some (.int (nI k))]) (st' := [.ref 36, .ref 38]) rfl ?_
        refine am_getf 2 2 k_r2 (am_at hc_S_greatestScore 35 rfl) rfl (by decide) rfl (by decide) k_ok2 (Or.inl (tw 67 rfl rfl)) rfl ?_
        refine cW.callS1 70 [] (st := []) [.ref 38, .ref 39] (am_at hc_S_greatestScore 36 rfl) g_A_join (Or.inr ⟨_, tn 252 rfl rfl⟩) (tw 213 rfl rfl) rfl rfl (Nat.le_of_ble_eq_true rfl) (c_join 38 39 (gs wt res lo k) (own wt k) rfl rfl (by decide) (by decide) (by decide) (fun s hs => by rw [am_tb_ne (by decide)]; exact ht s hs) (fun s hs => am_tb_lt hs) (gs_big hwt hres lo (by omega)) (own_big hwt (by omega))) rfl rfl ?_
        refine am_go cd_S_greatestScore hc_S_greatestScore 37 2 (pc' := 35) (L' := [some (.ref 36), some (.ref 7), some (.ref 3), some (.int (zI lo)), some (.int (nI k + 1))]) (st' := []) rfl ?_
        rw [nI_1]
        exact ih (k + 1) _ (by omega) (fun a z1 z2 => by rw [am_tb_ne z1, am_tb_ne z2]; exact ho a z1 z2) (fun s hs => by rw [am_tb_lt hs]; show _ = zI ((if (k : Int) = lo then gs wt res lo k else jn (gs wt res lo k) (own wt k)) s); rw [if_neg hlk])
  have loop : ∀ q j, j + q = 64 → cW l x (e + 2) L m_S_greatestScore 3 [some (.ref 36), some (.ref 7), some (.ref 3), some (.int (zI lo)), some (.int (nI j))] [] (am_tb d 38 j (fun s => zI (gs wt res lo 0 s))) (fun ret d' => ret = some (.int (zI (gs wt res lo 5 63))) ∧ ∀ a, a ≠ 38 → a ≠ 39 → d' a = d a) := by
    intro q
    induction q with
    | zero =>
      intro j hj
      refine am_go cd_S_greatestScore hc_S_greatestScore 2 2 (pc' := 7) (L' := [some (.ref 36), some (.ref 7), some (.ref 3), some (.int (zI lo)), some (.int (nI j))]) (st' := [.int 64, .int (nI j)]) rfl ?_
      refine am_icmp_ge 32 (am_at hc_S_greatestScore 4 rfl) (by decide) (fun h => ?_) (fun h => absurd (nI_le (a := 64) (b := j) (by omega) (by omega)) h)
      refine am_go cd_S_greatestScore hc_S_greatestScore 16 2 (pc' := 35) (L' := [some (.ref 36), some (.ref 7), some (.ref 3), some (.int (zI lo)), some (.int 0)]) (st' := []) rfl ?_
      rw [show j = 64 by omega]
      exact loop2 5 0 _ rfl (fun a z1 _ => am_tb_ne z1) (fun s hs => am_tb_lt hs)
    | succ q ih =>
      intro j hj
      refine am_go cd_S_greatestScore hc_S_greatestScore 2 2 (pc' := 7) (L' := [some (.ref 36), some (.ref 7), some (.ref 3), some (.int (zI lo)), some (.int (nI j))]) (st' := [.int 64, .int (nI j)]) rfl ?_
      refine am_icmp_ge 32 (am_at hc_S_greatestScore 4 rfl) (by decide) (fun h => absurd h (nI_ge (a := j) (b := 64) (by omega) (by omega))) (fun h => ?_)
      refine am_go cd_S_greatestScore hc_S_greatestScore 5 1 (pc' := 11) (L' := [some (.ref 36), some (.ref 7), some (.ref 3), some (.int (zI lo)), some (.int (nI j))]) (st' := [.ref 36]) rfl ?_
      refine am_getf 2 1 k_r2 (am_at hc_S_greatestScore 6 rfl) rfl (by decide) rfl (by decide) k_ok2 (Or.inl (tw 66 rfl rfl)) rfl ?_
      refine am_go cd_S_greatestScore hc_S_greatestScore 7 3 (pc' := 19) (L' := [some (.ref 36), some (.ref 7), some (.ref 3), some (.int (zI lo)), some (.int (nI j))]) (st' := [.int (nI j), .ref 3, .int (nI j), .ref 38]) rfl ?_
      refine cW.callS1 22 [.int (zI (so res j 6)), .int (nI j), .ref 38] (st := [.int (nI j), .ref 38]) [.ref 3, .int (nI j)] (am_at hc_S_greatestScore 10 rfl) g_S_sumOver (Or.inl (tw 62 rfl rfl)) (tw 63 rfl rfl) rfl rfl (Nat.le_of_ble_eq_true rfl) (c_sumOver 3 j res (by omega) rfl (Or.inl (by decide)) (fun i hi => by rw [am_tb_ne (by decide)]; exact hrs i hi)) rfl rfl ?_
      refine am_ldc 46656 (am_at hc_S_greatestScore 11 rfl) (tw 247 rfl rfl) ?_
      refine am_go cd_S_greatestScore hc_S_greatestScore 12 1 (pc' := 25) (L' := [some (.ref 36), some (.ref 7), some (.ref 3), some (.int (zI lo)), some (.int (nI j))]) (st' := [.int (zI (so res j 6) * 46656), .int (nI j), .ref 38]) rfl ?_
      rw [show zI (so res j 6) * 46656 = zI (gs wt res lo 0 j) from zI_mul _ 46656]
      refine am_iastore (j) (am_at hc_S_greatestScore 13 rfl) rfl (by decide) rfl (by show j < 64; omega) (Nat.le_of_ble_eq_true rfl) ?_
      refine am_go cd_S_greatestScore hc_S_greatestScore 14 2 (pc' := 3) (L' := [some (.ref 36), some (.ref 7), some (.ref 3), some (.int (zI lo)), some (.int (nI j + 1))]) (st' := []) rfl ?_
      rw [nI_1, am_tb_s d 38 j (fun s => zI (gs wt res lo 0 s))]
      exact ih (j + 1) (by omega)
  have h0 := loop 64 0 rfl
  rw [am_tb_0] at h0
  exact h0
set_option maxHeartbeats 4000000 in
theorem c_S_writeOwners {l : Launch} {x : am_X} {e L : Nat} {d : am_D} (v : Int) (r : Nat) (hr2 : r < 46656) (hv1 : 0 ≤ v) (hv2 : v ≤ 500000000) (hv : ((v + 46655) / 46656) * 46656 - v = r) : cM l x (e + 1) L m_S_writeOwners [.int (zI v), .ref 4] d (cR none (am_tb d 4 6 (fun j => zI (((r / 6 ^ (5 - j) % 6 : Nat) : Int) - 1)))) := by
  refine cM.go (by decide) (by simp [Value.category]) (Nat.le_of_ble_eq_true rfl) ?_
  refine am_go cd_S_writeOwners hc_S_writeOwners 0 1 (pc' := 1) (L' := [some (.int (zI v)), some (.ref 4), none, none]) (st' := [.int (zI v)]) rfl ?_
  refine cW.callS1 4 [.int (zI ((v + 46655) / 46656))] (st := []) [.int (zI v)] (am_at hc_S_writeOwners 1 rfl) g_S_welfareIn (Or.inl (tw 263 rfl rfl)) (tw 254 rfl rfl) rfl rfl (Nat.le_of_ble_eq_true rfl) (c_S_welfareIn v (by omega) (by omega)) rfl rfl ?_
  refine am_ldc 46656 (am_at hc_S_writeOwners 2 rfl) (tw 247 rfl rfl) ?_
  refine am_go cd_S_writeOwners hc_S_writeOwners 3 2 (pc' := 8) (L' := [some (.int (zI v)), some (.ref 4), none, none]) (st' := [.int (zI v), .int (zI ((v + 46655) / 46656) * 46656)]) rfl ?_
  have e1 : zI ((v + 46655) / 46656) * 46656 - zI v = nI r := by
    rw [show zI ((v + 46655) / 46656) * (46656 : Int32) = zI ((v + 46655) / 46656 * 46656) from zI_mul _ 46656, zI_sub, nI_zI]
    congr 1 <;> omega
  refine am_go cd_S_writeOwners hc_S_writeOwners 5 1 (pc' := 9) (L' := [some (.int (zI v)), some (.ref 4), none, none]) (st' := [.int ((zI ((v + 46655) / 46656) * 46656) - zI v)]) rfl ?_
  rw [e1]
  refine am_go cd_S_writeOwners hc_S_writeOwners 6 3 (pc' := 12) (L' := [some (.int (zI v)), some (.ref 4), some (.int (nI r)), some (.int 5)]) (st' := []) rfl ?_
  have loop : ∀ k, k ≤ 6 → cW l x (e + 1) L m_S_writeOwners 12 [some (.int (zI v)), some (.ref 4), some (.int (nI (r / 6 ^ (6 - k)))), some (.int (nI k - 1))] [] (am_td d 4 k 6 (fun j => zI (((r / 6 ^ (5 - j) % 6 : Nat) : Int) - 1))) (cR none (am_tb d 4 6 (fun j => zI (((r / 6 ^ (5 - j) % 6 : Nat) : Int) - 1)))) := by
    intro k
    induction k with
    | zero =>
      intro hk
      refine am_go cd_S_writeOwners hc_S_writeOwners 9 1 (pc' := 13) (L' := [some (.int (zI v)), some (.ref 4), some (.int (nI (r / 6 ^ (6 - 0)))), some (.int (nI 0 - 1))]) (st' := [.int (nI 0 - 1)]) rfl ?_
      refine am_if_lt 36 (am_at hc_S_writeOwners 10 rfl) (by decide) (fun h => ?_) (fun h => absurd (by decide) h)
      exact am_vret (am_at hc_S_writeOwners 25 rfl) rfl (cR_in rfl (am_td_tb _ _ _ _))
    | succ s ih =>
      intro hk
      rw [nI_pred]
      have hq : r / 6 ^ (6 - (s + 1)) < 46656 := Nat.lt_of_le_of_lt (Nat.div_le_self _ _) hr2
      rw [show 6 - (s + 1) = 5 - s by omega] at hq ⊢
      refine am_go cd_S_writeOwners hc_S_writeOwners 9 1 (pc' := 13) (L' := [some (.int (zI v)), some (.ref 4), some (.int (nI (r / 6 ^ (5 - s)))), some (.int (nI s))]) (st' := [.int (nI s)]) rfl ?_
      refine am_if_lt 36 (am_at hc_S_writeOwners 10 rfl) (by decide) (fun h => absurd h (nI_pos (by omega))) (fun h => ?_)
      refine am_go cd_S_writeOwners hc_S_writeOwners 11 4 (pc' := 21) (L' := [some (.int (zI v)), some (.ref 4), some (.int (nI (r / 6 ^ (5 - s)))), some (.int (nI s))]) (st' := [.int 6, .int (nI (r / 6 ^ (5 - s))), .int (nI s), .ref 4]) rfl ?_
      refine am_irem (am_at hc_S_writeOwners 15 rfl) (by decide) ?_
      rw [show nI (r / 6 ^ (5 - s)) - nI (r / 6 ^ (5 - s)) / 6 * 6 = nI (r / 6 ^ (5 - s) % 6) from pk_rem (d := 6) (by omega) (by decide) (by decide)]
      refine am_go cd_S_writeOwners hc_S_writeOwners 16 2 (pc' := 24) (L' := [some (.int (zI v)), some (.ref 4), some (.int (nI (r / 6 ^ (5 - s)))), some (.int (nI s))]) (st' := [.int (nI (r / 6 ^ (5 - s) % 6) - 1), .int (nI s), .ref 4]) rfl ?_
      rw [show nI (r / 6 ^ (5 - s) % 6) - 1 = zI (((r / 6 ^ (5 - s) % 6 : Nat) : Int) - 1) from by rw [nI_zI]; exact zI_sub _ 1]
      refine am_iastore (s) (am_at hc_S_writeOwners 18 rfl) rfl (by decide) rfl (by show s < 6; omega) (Nat.le_of_ble_eq_true rfl) ?_
      refine am_go cd_S_writeOwners hc_S_writeOwners 19 2 (pc' := 28) (L' := [some (.int (zI v)), some (.ref 4), some (.int (nI (r / 6 ^ (5 - s)))), some (.int (nI s))]) (st' := [.int 6, .int (nI (r / 6 ^ (5 - s)))]) rfl ?_
      refine am_idiv (am_at hc_S_writeOwners 21 rfl) (by decide) ?_
      rw [show nI (r / 6 ^ (5 - s)) / 6 = nI (r / 6 ^ (6 - s)) from by rw [show (6 : Int32) = nI 6 from rfl, pk_div (by omega) (by decide) (by decide), Nat.div_div_eq_div_mul, ← Nat.pow_succ, show (5 - s).succ = 6 - s by omega]]
      refine am_go cd_S_writeOwners hc_S_writeOwners 22 3 (pc' := 12) (L' := [some (.int (zI v)), some (.ref 4), some (.int (nI (r / 6 ^ (6 - s)))), some (.int (nI s + (-1)))]) (st' := []) rfl ?_
      rw [i_dec, am_td_s d 4 s 6 (fun j => zI (((r / 6 ^ (5 - j) % 6 : Nat) : Int) - 1)) (by omega)]
      exact ih (by omega)
  have h0 := loop 6 (Nat.le_refl _)
  rw [am_td_N, show 6 - 6 = 0 from rfl, Nat.pow_zero, Nat.div_one] at h0
  exact h0
