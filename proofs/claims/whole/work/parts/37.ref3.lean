/-- an allocation by its number: the owner of an item, what the seller keeps, what each bidder gets -/
def dgt (m j : Nat) : Nat := m / 6 ^ (5 - j) % 6
def srr (res : Nat → Int) (m : Nat) : Nat → Int
  | 0 => 0
  | i + 1 => srr res m i + if dgt m (5 - i) = 0 then res (5 - i) else 0
def gbr (m b : Nat) : Nat → Nat
  | 0 => 0
  | i + 1 => if dgt m (5 - i) = b + 1 then gbr m b i ||| 2 ^ (5 - i) else gbr m b i
def swf (wt : Nat → Nat → Int) (m : Nat) (s0 : Int) : Nat → Int
  | 0 => s0
  | k + 1 => swf wt m s0 k + wt k (gbr m k 6)
def wof (wt : Nat → Nat → Int) (res : Nat → Int) (lo : Int) (m : Nat) : Int := if 0 ≤ lo ∧ gbr m lo.toNat 6 ≠ 0 then -1 else swf wt m (srr res m 6) 5
def bo (wt : Nat → Nat → Int) (res : Nat → Int) (lo : Int) : Nat → Int × Nat
  | 0 => (-1, 0)
  | m + 1 => if (bo wt res lo m).1 < wof wt res lo m then (wof wt res lo m, m) else bo wt res lo m
theorem dgt_lt (m j : Nat) : dgt m j < 6 := Nat.mod_lt _ (by decide)
theorem gbr_lt (m b : Nat) : ∀ i, i ≤ 6 → gbr m b i < 64
  | 0, _ => by show 0 < 64; decide
  | i + 1, h => by
    have ih := gbr_lt m b i (by omega)
    unfold gbr
    split
    · exact Nat.or_lt_two_pow (n := 6) ih (by have : 2 ^ (5 - i) ≤ 2 ^ 5 := Nat.pow_le_pow_right (by decide) (by omega); omega)
    · exact ih
theorem srr_b {res : Nat → Int} (hres : ∀ j, j < 6 → 0 ≤ res j ∧ res j ≤ 999) (m : Nat) : ∀ i, i ≤ 6 → 0 ≤ srr res m i ∧ srr res m i ≤ 999 * i
  | 0, _ => by show 0 ≤ (0 : Int) ∧ (0 : Int) ≤ _; omega
  | i + 1, h => by
    have ih := srr_b hres m i (by omega)
    have := hres (5 - i) (by omega)
    unfold srr
    split <;> omega
theorem swf_b {wt : Nat → Nat → Int} (hwt : ∀ b, b < 5 → tb_ok (wt b)) (m : Nat) {s0 : Int} (h0 : 0 ≤ s0 ∧ s0 ≤ 5994) : ∀ k, k ≤ 5 → 0 ≤ swf wt m s0 k ∧ swf wt m s0 k ≤ 5994 + 5994 * k
  | 0, _ => by show 0 ≤ s0 ∧ s0 ≤ _; omega
  | k + 1, h => by
    have ih := swf_b hwt m h0 k (by omega)
    have := (hwt k (by omega)).b (gbr_lt m k 6 (by omega))
    show 0 ≤ swf wt m s0 k + wt k (gbr m k 6) ∧ swf wt m s0 k + wt k (gbr m k 6) ≤ _
    omega
theorem wof_b {wt : Nat → Nat → Int} {res : Nat → Int} (hwt : ∀ b, b < 5 → tb_ok (wt b)) (hres : ∀ j, j < 6 → 0 ≤ res j ∧ res j ≤ 999) (lo : Int) (m : Nat) : -1 ≤ wof wt res lo m ∧ wof wt res lo m ≤ 100000 := by
  unfold wof
  have h0 := srr_b hres m 6 (by decide)
  have := swf_b hwt m (s0 := srr res m 6) (by omega) 5 (by decide)
  split <;> omega
theorem bo_b {wt : Nat → Nat → Int} {res : Nat → Int} (hwt : ∀ b, b < 5 → tb_ok (wt b)) (hres : ∀ j, j < 6 → 0 ≤ res j ∧ res j ≤ 999) (lo : Int) : ∀ m, (-1 ≤ (bo wt res lo m).1 ∧ (bo wt res lo m).1 ≤ 100000) ∧ (bo wt res lo m).2 ≤ m
  | 0 => by show ((-1 : Int) ≤ -1 ∧ (-1 : Int) ≤ 100000) ∧ 0 ≤ 0; omega
  | m + 1 => by
    have ih := bo_b hwt hres lo m
    have := wof_b hwt hres lo m
    unfold bo
    split
    · exact ⟨this, by show m ≤ m + 1; omega⟩
    · omega
set_option maxHeartbeats 4000000 in
theorem c_M_welfareOf {l : Launch} {x : am_X} {e L : Nat} {d : am_D} {cash esc pd pt ow : Nat → Int32} {res : Nat → Int} {wt : Nat → Nat → Int} {T : Nat → Nat} {n : Nat} {se : Int32} {cl : Bool} (h : RM cash esc pd pt ow res wt T n se cl d) {m : Nat} {lo : Int} (hm : m < 46656) (hl1 : -1 ≤ lo) (hl2 : lo ≤ 4) : cM l x e L m_M_welfareOf [.ref 40, .int (nI m), .int (zI lo)] d (fun r d' => r = some (.int (zI (wof wt res lo m))) ∧ RM cash esc pd pt ow res wt T n se cl d' ∧ fM d d' ∧ ∀ b, b < 5 → d' 50 b = nI (gbr m b 6)) := by
  obtain ⟨h1, h2, h3, h4, h5, h6, h7, h8, h9, h10⟩ := id h
  refine cM.go (by decide) (by simp [Value.category]) (Nat.le_of_ble_eq_true rfl) ?_
  have hwt : ∀ b, b < 5 → tb_ok (wt b) := fun b hb => (h7 b hb).1
  have hres : ∀ j, j < 6 → 0 ≤ res j ∧ res j ≤ 999 := fun j hj => (h6 j hj).2
  refine am_go cd_M_welfareOf hc_M_welfareOf 0 6 (pc' := 8) (L' := [some (.ref 40), some (.int (nI m)), some (.int (zI lo)), some (.int 0), some (.int (nI m)), some (.int 0), none]) (st' := []) rfl ?_
  have hoff : ∀ d1 : am_D, (∀ a, a ≠ 50 → d1 a = d a) → RM cash esc pd pt ow res wt T n se cl d1 ∧ fM d d1 := fun d1 hd => ⟨h.off (fun j _ => by rw [hd 40 (by decide)]) (fun a ha => hd a (by omega)), fun a ha => hd a (by omega)⟩
  have loop3 : wof wt res lo m = swf wt m (srr res m 6) 5 → ∀ d1 : am_D, (∀ a, a ≠ 50 → d1 a = d a) → (∀ b, b < 5 → d1 50 b = nI (gbr m b 6)) → ∀ q k, k + q = 5 → cW l x e L m_M_welfareOf 115 [some (.ref 40), some (.int (nI m)), some (.int (zI lo)), some (.int (zI (swf wt m (srr res m 6) k))), none, some (.int (nI k)), none] [] d1 (fun r d' => r = some (.int (zI (wof wt res lo m))) ∧ RM cash esc pd pt ow res wt T n se cl d' ∧ fM d d' ∧ ∀ b, b < 5 → d' 50 b = nI (gbr m b 6)) := by
    intro hw d1 hd hg q
    have hR := hoff d1 hd
    induction q with
    | zero =>
      intro k hk
      have hk5 : k = 5 := by omega
      subst hk5
      refine am_go cd_M_welfareOf hc_M_welfareOf 67 2 (pc' := 118) (L' := [some (.ref 40), some (.int (nI m)), some (.int (zI lo)), some (.int (zI (swf wt m (srr res m 6) 5))), none, some (.int (nI 5)), none]) (st' := [.int 5, .int (nI 5)]) rfl ?_
      refine am_icmp_ge 148 (am_at hc_M_welfareOf 69 rfl) (by decide) (fun q1 => ?_) (fun q1 => absurd (nI_le (a := 5) (b := 5) (by omega) (by omega)) q1)
      refine am_go cd_M_welfareOf hc_M_welfareOf 86 1 (pc' := 149) (L' := [some (.ref 40), some (.int (nI m)), some (.int (zI lo)), some (.int (zI (swf wt m (srr res m 6) 5))), none, some (.int (nI 5)), none]) (st' := [.int (zI (swf wt m (srr res m 6) 5))]) rfl ?_
      exact am_iret (am_at hc_M_welfareOf 87 rfl) rfl rfl ⟨rfl, rfl, by rw [hw], hR.1, hR.2, hg⟩
    | succ q ih =>
      intro k hk
      have hgl := gbr_lt m k 6 (by decide)
      refine am_go cd_M_welfareOf hc_M_welfareOf 67 2 (pc' := 118) (L' := [some (.ref 40), some (.int (nI m)), some (.int (zI lo)), some (.int (zI (swf wt m (srr res m 6) k))), none, some (.int (nI k)), none]) (st' := [.int 5, .int (nI k)]) rfl ?_
      refine am_icmp_ge 148 (am_at hc_M_welfareOf 69 rfl) (by decide) (fun q1 => absurd q1 (nI_ge (a := k) (b := 5) (by omega) (by omega))) (fun q1 => ?_)
      refine am_go cd_M_welfareOf hc_M_welfareOf 70 2 (pc' := 123) (L' := [some (.ref 40), some (.int (nI m)), some (.int (zI lo)), some (.int (zI (swf wt m (srr res m 6) k))), none, some (.int (nI k)), none]) (st' := [.ref 40, .int (zI (swf wt m (srr res m 6) k))]) rfl ?_
      refine am_getf 3 7 k_r3 (am_at hc_M_welfareOf 72 rfl) rfl (by decide) rfl (by decide) k_ok3 (Or.inl (tw 313 rfl rfl)) rfl ?_
      refine am_go cd_M_welfareOf hc_M_welfareOf 73 4 (pc' := 132) (L' := [some (.ref 40), some (.int (nI m)), some (.int (zI lo)), some (.int (zI (swf wt m (srr res m 6) k))), none, some (.int (nI k)), none]) (st' := [.ref 40, .int (64 * nI k), .ref 45, .int (zI (swf wt m (srr res m 6) k))]) rfl ?_
      refine am_getf 3 16 k_r3 (am_at hc_M_welfareOf 77 rfl) rfl (by decide) rfl (by decide) k_ok3 (Or.inl (tw 322 rfl rfl)) rfl ?_
      refine am_go cd_M_welfareOf hc_M_welfareOf 78 1 (pc' := 137) (L' := [some (.ref 40), some (.int (nI m)), some (.int (zI lo)), some (.int (zI (swf wt m (srr res m 6) k))), none, some (.int (nI k)), none]) (st' := [.int (nI k), .ref 50, .int (64 * nI k), .ref 45, .int (zI (swf wt m (srr res m 6) k))]) rfl ?_
      refine am_iaload (k) (am_at hc_M_welfareOf 79 rfl) rfl (Or.inl (by decide)) rfl (by show k < 5; omega) (Nat.le_of_ble_eq_true rfl) ?_
      rw [show d1 50 k = nI (gbr m k 6) from hg k (by omega)]
      refine am_go cd_M_welfareOf hc_M_welfareOf 80 1 (pc' := 139) (L' := [some (.ref 40), some (.int (nI m)), some (.int (zI lo)), some (.int (zI (swf wt m (srr res m 6) k))), none, some (.int (nI k)), none]) (st' := [.int ((64 * nI k) + nI (gbr m k 6)), .ref 45, .int (zI (swf wt m (srr res m 6) k))]) rfl ?_
      refine am_iaload (64 * k + gbr m k 6) (am_at hc_M_welfareOf 81 rfl) rfl (Or.inl (by decide)) (by rw [← nI_add, ← pk_mul]; rfl) (by show 64 * k + gbr m k 6 < 320; omega) (Nat.le_of_ble_eq_true rfl) ?_
      rw [show d1 45 (64 * k + gbr m k 6) = zI (wt k (gbr m k 6)) from (hR.1.2.2.2.2.2.2.1 k (by omega)).2 _ hgl]
      refine am_go cd_M_welfareOf hc_M_welfareOf 82 1 (pc' := 141) (L' := [some (.ref 40), some (.int (nI m)), some (.int (zI lo)), some (.int (zI (swf wt m (srr res m 6) k))), none, some (.int (nI k)), none]) (st' := [.int (zI (swf wt m (srr res m 6) k) + zI (wt k (gbr m k 6)))]) rfl ?_
      rw [show zI (swf wt m (srr res m 6) k) + zI (wt k (gbr m k 6)) = zI (swf wt m (srr res m 6) (k + 1)) from zI_add _ _]
      refine am_go cd_M_welfareOf hc_M_welfareOf 83 3 (pc' := 115) (L' := [some (.ref 40), some (.int (nI m)), some (.int (zI lo)), some (.int (zI (swf wt m (srr res m 6) (k + 1)))), none, some (.int (nI k + 1)), none]) (st' := []) rfl ?_
      rw [nI_1]
      exact ih (k + 1) (by omega)
  have mid : ∀ d1 : am_D, (∀ a, a ≠ 50 → d1 a = d a) → (∀ b, b < 5 → d1 50 b = nI (gbr m b 6)) → cW l x e L m_M_welfareOf 97 [some (.ref 40), some (.int (nI m)), some (.int (zI lo)), some (.int (zI (srr res m 6))), none, none, none] [] d1 (fun r d' => r = some (.int (zI (wof wt res lo m))) ∧ RM cash esc pd pt ow res wt T n se cl d' ∧ fM d d' ∧ ∀ b, b < 5 → d' 50 b = nI (gbr m b 6)) := by
    intro d1 hd hg
    have hR := hoff d1 hd
    refine am_go cd_M_welfareOf hc_M_welfareOf 56 1 (pc' := 98) (L' := [some (.ref 40), some (.int (nI m)), some (.int (zI lo)), some (.int (zI (srr res m 6))), none, none, none]) (st' := [.int (zI lo)]) rfl ?_
    refine am_if_lt 112 (am_at hc_M_welfareOf 57 rfl) (by decide) (fun q1 => ?_) (fun q1 => ?_)
    · have hlo : lo < 0 := (zI_lt (b := 0) (by omega) (by omega) (by omega) (by omega)).mp q1
      have hw : wof wt res lo m = swf wt m (srr res m 6) 5 := if_neg (fun z => by omega)
      refine am_go cd_M_welfareOf hc_M_welfareOf 65 2 (pc' := 115) (L' := [some (.ref 40), some (.int (nI m)), some (.int (zI lo)), some (.int (zI (srr res m 6))), none, some (.int 0), none]) (st' := []) rfl ?_
      exact loop3 hw d1 hd hg 5 0 rfl
    · have hlo : 0 ≤ lo := Int.not_lt.mp (fun z => q1 ((zI_lt (b := 0) (by omega) (by omega) (by omega) (by omega)).mpr z))
      obtain ⟨k, rfl⟩ := Int.eq_ofNat_of_zero_le hlo
      have hgl := gbr_lt m k 6 (by decide)
      refine am_go cd_M_welfareOf hc_M_welfareOf 58 1 (pc' := 102) (L' := [some (.ref 40), some (.int (nI m)), some (.int (zI (k : Int))), some (.int (zI (srr res m 6))), none, none, none]) (st' := [.ref 40]) rfl ?_
      refine am_getf 3 16 k_r3 (am_at hc_M_welfareOf 59 rfl) rfl (by decide) rfl (by decide) k_ok3 (Or.inl (tw 322 rfl rfl)) rfl ?_
      refine am_go cd_M_welfareOf hc_M_welfareOf 60 1 (pc' := 106) (L' := [some (.ref 40), some (.int (nI m)), some (.int (zI (k : Int))), some (.int (zI (srr res m 6))), none, none, none]) (st' := [.int (zI (k : Int)), .ref 50]) rfl ?_
      refine am_iaload (k) (am_at hc_M_welfareOf 61 rfl) rfl (Or.inl (by decide)) (nI_zI k).symm (by show k < 5; omega) (Nat.le_of_ble_eq_true rfl) ?_
      rw [show d1 50 k = nI (gbr m k 6) from hg k (by omega)]
      refine am_if_eq 112 (am_at hc_M_welfareOf 62 rfl) (by decide) (fun q2 => ?_) (fun q2 => ?_)
      · have hz : gbr m k 6 = 0 := (nI_eq (b := 0) (by omega) (by omega)).mp q2
        have hw : wof wt res (k : Int) m = swf wt m (srr res m 6) 5 := if_neg (fun z => z.2 (by simpa using hz))
        refine am_go cd_M_welfareOf hc_M_welfareOf 65 2 (pc' := 115) (L' := [some (.ref 40), some (.int (nI m)), some (.int (zI (k : Int))), some (.int (zI (srr res m 6))), none, some (.int 0), none]) (st' := []) rfl ?_
        exact loop3 hw d1 hd hg 5 0 rfl
      · have hz : ¬ gbr m k 6 = 0 := fun z => q2 (by rw [z]; rfl)
        have hw : wof wt res (k : Int) m = -1 := if_pos ⟨hlo, by simpa using hz⟩
        refine am_go cd_M_welfareOf hc_M_welfareOf 63 1 (pc' := 111) (L' := [some (.ref 40), some (.int (nI m)), some (.int (zI (k : Int))), some (.int (zI (srr res m 6))), none, none, none]) (st' := [.int (-1)]) rfl ?_
        exact am_iret (am_at hc_M_welfareOf 64 rfl) rfl rfl ⟨rfl, rfl, by rw [hw]; rfl, hR.1, hR.2, hg⟩
  have loop2 : ∀ k, k ≤ 6 → ∀ d1 : am_D, (∀ a, a ≠ 50 → d1 a = d a) → (∀ b, b < 5 → d1 50 b = nI (gbr m b (6 - k))) → cW l x e L m_M_welfareOf 31 [some (.ref 40), some (.int (nI m)), some (.int (zI lo)), some (.int (zI (srr res m (6 - k)))), some (.int (nI (m / 6 ^ (6 - k)))), some (.int (nI k - 1)), none] [] d1 (fun r d' => r = some (.int (zI (wof wt res lo m))) ∧ RM cash esc pd pt ow res wt T n se cl d' ∧ fM d d' ∧ ∀ b, b < 5 → d' 50 b = nI (gbr m b 6)) := by
    intro k
    induction k with
    | zero =>
      intro hk d1 hd hg
      refine am_go cd_M_welfareOf hc_M_welfareOf 18 1 (pc' := 33) (L' := [some (.ref 40), some (.int (nI m)), some (.int (zI lo)), some (.int (zI (srr res m (6 - 0)))), some (.int (nI (m / 6 ^ (6 - 0)))), some (.int (nI 0 - 1)), none]) (st' := [.int (nI 0 - 1)]) rfl ?_
      refine am_if_lt 97 (am_at hc_M_welfareOf 19 rfl) (by decide) (fun q1 => ?_) (fun q1 => absurd (by decide) q1)
      refine am_weak (L' := [some (.ref 40), some (.int (nI m)), some (.int (zI lo)), some (.int (zI (srr res m (6 - 0)))), none, none, none]) ⟨rfl, rfl, rfl, rfl, trivial⟩ ?_
      exact mid d1 hd hg
    | succ j ih =>
      intro hk d1 hd hg
      rw [nI_pred]
      have hq : m / 6 ^ (6 - (j + 1)) < 46656 := Nat.lt_of_le_of_lt (Nat.div_le_self _ _) hm
      rw [show 6 - (j + 1) = 5 - j by omega] at hq hg ⊢
      have e6 : 6 - j = 5 - j + 1 := by omega
      have e5 : 5 - (5 - j) = j := by omega
      have hdg : m / 6 ^ (5 - j) % 6 = dgt m j := rfl
      have hdl := dgt_lt m j
      refine am_go cd_M_welfareOf hc_M_welfareOf 18 1 (pc' := 33) (L' := [some (.ref 40), some (.int (nI m)), some (.int (zI lo)), some (.int (zI (srr res m (5 - j)))), some (.int (nI (m / 6 ^ (5 - j)))), some (.int (nI j)), none]) (st' := [.int (nI j)]) rfl ?_
      refine am_if_lt 97 (am_at hc_M_welfareOf 19 rfl) (by decide) (fun q1 => absurd q1 (nI_pos (by omega))) (fun q1 => ?_)
      refine am_go cd_M_welfareOf hc_M_welfareOf 20 2 (pc' := 40) (L' := [some (.ref 40), some (.int (nI m)), some (.int (zI lo)), some (.int (zI (srr res m (5 - j)))), some (.int (nI (m / 6 ^ (5 - j)))), some (.int (nI j)), none]) (st' := [.int 6, .int (nI (m / 6 ^ (5 - j)))]) rfl ?_
      refine am_irem (am_at hc_M_welfareOf 22 rfl) (by decide) ?_
      rw [show nI (m / 6 ^ (5 - j)) - nI (m / 6 ^ (5 - j)) / 6 * 6 = nI (dgt m j) from pk_rem (d := 6) (by omega) (by decide) (by decide)]
      refine am_go cd_M_welfareOf hc_M_welfareOf 23 3 (pc' := 47) (L' := [some (.ref 40), some (.int (nI m)), some (.int (zI lo)), some (.int (zI (srr res m (5 - j)))), some (.int (nI (m / 6 ^ (5 - j)))), some (.int (nI j)), some (.int (nI (dgt m j)))]) (st' := [.int 6, .int (nI (m / 6 ^ (5 - j)))]) rfl ?_
      refine am_idiv (am_at hc_M_welfareOf 26 rfl) (by decide) ?_
      rw [show nI (m / 6 ^ (5 - j)) / 6 = nI (m / 6 ^ (6 - j)) from by rw [show (6 : Int32) = nI 6 from rfl, pk_div (by omega) (by decide) (by decide), Nat.div_div_eq_div_mul, ← Nat.pow_succ, show (5 - j).succ = 6 - j by omega]]
      refine am_go cd_M_welfareOf hc_M_welfareOf 27 2 (pc' := 52) (L' := [some (.ref 40), some (.int (nI m)), some (.int (zI lo)), some (.int (zI (srr res m (5 - j)))), some (.int (nI (m / 6 ^ (6 - j)))), some (.int (nI j)), some (.int (nI (dgt m j)))]) (st' := [.int (nI (dgt m j))]) rfl ?_
      refine am_if_ne 68 (am_at hc_M_welfareOf 29 rfl) (by decide) (fun q2 => ?_) (fun q2 => ?_)
      · have hz : ¬ dgt m j = 0 := fun z => q2 (by rw [z]; rfl)
        obtain ⟨k, hk1⟩ : ∃ k, dgt m j = k + 1 := ⟨dgt m j - 1, by omega⟩
        have hgl := gbr_lt m k (5 - j) (by omega)
        rw [hk1]
        refine am_go cd_M_welfareOf hc_M_welfareOf 38 1 (pc' := 69) (L' := [some (.ref 40), some (.int (nI m)), some (.int (zI lo)), some (.int (zI (srr res m (5 - j)))), some (.int (nI (m / 6 ^ (6 - j)))), some (.int (nI j)), some (.int (nI (k + 1)))]) (st' := [.ref 40]) rfl ?_
        refine am_getf 3 16 k_r3 (am_at hc_M_welfareOf 39 rfl) rfl (by decide) rfl (by decide) k_ok3 (Or.inl (tw 322 rfl rfl)) rfl ?_
        refine am_go cd_M_welfareOf hc_M_welfareOf 40 3 (pc' := 76) (L' := [some (.ref 40), some (.int (nI m)), some (.int (zI lo)), some (.int (zI (srr res m (5 - j)))), some (.int (nI (m / 6 ^ (6 - j)))), some (.int (nI j)), some (.int (nI (k + 1)))]) (st' := [.int (nI (k + 1) - 1), .ref 50]) rfl ?_
        rw [show nI (k + 1) - 1 = nI k from nI_pred k]
        refine am_go cd_M_welfareOf hc_M_welfareOf 43 1 (pc' := 77) (L' := [some (.ref 40), some (.int (nI m)), some (.int (zI lo)), some (.int (zI (srr res m (5 - j)))), some (.int (nI (m / 6 ^ (6 - j)))), some (.int (nI j)), some (.int (nI (k + 1)))]) (st' := [.ref 40, .int (nI k), .ref 50]) rfl ?_
        refine am_getf 3 16 k_r3 (am_at hc_M_welfareOf 44 rfl) rfl (by decide) rfl (by decide) k_ok3 (Or.inl (tw 322 rfl rfl)) rfl ?_
        refine am_go cd_M_welfareOf hc_M_welfareOf 45 3 (pc' := 84) (L' := [some (.ref 40), some (.int (nI m)), some (.int (zI lo)), some (.int (zI (srr res m (5 - j)))), some (.int (nI (m / 6 ^ (6 - j)))), some (.int (nI j)), some (.int (nI (k + 1)))]) (st' := [.int (nI (k + 1) - 1), .ref 50, .int (nI k), .ref 50]) rfl ?_
        rw [show nI (k + 1) - 1 = nI k from nI_pred k]
        refine am_iaload (k) (am_at hc_M_welfareOf 48 rfl) rfl (Or.inl (by decide)) rfl (by show k < 5; omega) (Nat.le_of_ble_eq_true rfl) ?_
        rw [show d1 50 k = nI (gbr m k (5 - j)) from hg k (by omega)]
        refine am_go cd_M_welfareOf hc_M_welfareOf 49 3 (pc' := 89) (L' := [some (.ref 40), some (.int (nI m)), some (.int (zI lo)), some (.int (zI (srr res m (5 - j)))), some (.int (nI (m / 6 ^ (6 - j)))), some (.int (nI j)), some (.int (nI (k + 1)))]) (st' := [.int (1 <<< (nI j &&& 31)), .int (nI (gbr m k (5 - j))), .int (nI k), .ref 50]) rfl ?_
        rw [nI_one j (by omega)]
        refine am_go cd_M_welfareOf hc_M_welfareOf 52 1 (pc' := 90) (L' := [some (.ref 40), some (.int (nI m)), some (.int (zI lo)), some (.int (zI (srr res m (5 - j)))), some (.int (nI (m / 6 ^ (6 - j)))), some (.int (nI j)), some (.int (nI (k + 1)))]) (st' := [.int (nI (gbr m k (5 - j)) ||| nI (2 ^ j)), .int (nI k), .ref 50]) rfl ?_
        rw [show nI (gbr m k (5 - j)) ||| nI (2 ^ j) = nI (gbr m k (5 - j) ||| 2 ^ j) from nI_or _ _]
        refine am_iastore (k) (am_at hc_M_welfareOf 53 rfl) rfl (by decide) rfl (by show k < 5; omega) (Nat.le_of_ble_eq_true rfl) ?_
        refine am_go cd_M_welfareOf hc_M_welfareOf 54 2 (pc' := 31) (L' := [some (.ref 40), some (.int (nI m)), some (.int (zI lo)), some (.int (zI (srr res m (5 - j)))), some (.int (nI (m / 6 ^ (6 - j)))), some (.int (nI j + (-1))), some (.int (nI (k + 1)))]) (st' := []) rfl ?_
        refine am_weak (L' := [some (.ref 40), some (.int (nI m)), some (.int (zI lo)), some (.int (zI (srr res m (5 - j)))), some (.int (nI (m / 6 ^ (6 - j)))), some (.int (nI j + (-1))), none]) ⟨rfl, rfl, rfl, rfl, rfl, rfl, trivial⟩ ?_
        have es : srr res m (5 - j) = srr res m (6 - j) := by rw [e6]; show _ = srr res m (5 - j) + _; rw [e5, if_neg hz]; omega
        rw [i_dec, es]
        refine ih (by omega) _ (fun a ha => by rw [am_u_ne a ha]; exact hd a ha) (fun b hb => ?_)
        rw [e6]
        show _ = nI (if dgt m (5 - (5 - j)) = b + 1 then gbr m b (5 - j) ||| 2 ^ (5 - (5 - j)) else gbr m b (5 - j))
        rw [e5, hk1]
        by_cases hbk : b = k
        · subst hbk; rw [am_u_i, if_pos rfl]
        · rw [am_u_o (fun z => hbk z.2), if_neg (by omega)]; exact hg b hb
      · have hz : dgt m j = 0 := (nI_eq (b := 0) (by omega) (by omega)).mp q2
        refine am_go cd_M_welfareOf hc_M_welfareOf 30 2 (pc' := 57) (L' := [some (.ref 40), some (.int (nI m)), some (.int (zI lo)), some (.int (zI (srr res m (5 - j)))), some (.int (nI (m / 6 ^ (6 - j)))), some (.int (nI j)), some (.int (nI (dgt m j)))]) (st' := [.ref 40, .int (zI (srr res m (5 - j)))]) rfl ?_
        refine am_getf 3 4 k_r3 (am_at hc_M_welfareOf 32 rfl) rfl (by decide) rfl (by decide) k_ok3 (Or.inl (tw 310 rfl rfl)) rfl ?_
        refine am_go cd_M_welfareOf hc_M_welfareOf 33 1 (pc' := 62) (L' := [some (.ref 40), some (.int (nI m)), some (.int (zI lo)), some (.int (zI (srr res m (5 - j)))), some (.int (nI (m / 6 ^ (6 - j)))), some (.int (nI j)), some (.int (nI (dgt m j)))]) (st' := [.int (nI j), .ref 43, .int (zI (srr res m (5 - j)))]) rfl ?_
        refine am_iaload (j) (am_at hc_M_welfareOf 34 rfl) rfl (Or.inl (by decide)) rfl (by show j < 6; omega) (Nat.le_of_ble_eq_true rfl) ?_
        rw [show d1 43 j = zI (res j) from by rw [hd 43 (by decide)]; exact (h6 j (by omega)).1]
        refine am_go cd_M_welfareOf hc_M_welfareOf 35 1 (pc' := 64) (L' := [some (.ref 40), some (.int (nI m)), some (.int (zI lo)), some (.int (zI (srr res m (5 - j)))), some (.int (nI (m / 6 ^ (6 - j)))), some (.int (nI j)), some (.int (nI (dgt m j)))]) (st' := [.int (zI (srr res m (5 - j)) + zI (res j))]) rfl ?_
        rw [show zI (srr res m (5 - j)) + zI (res j) = zI (srr res m (5 - j) + res j) from zI_add _ _]
        have es : srr res m (5 - j) + res j = srr res m (6 - j) := by rw [e6]; show _ = srr res m (5 - j) + _; rw [e5, if_pos hz]
        rw [es]
        refine am_go cd_M_welfareOf hc_M_welfareOf 36 2 (pc' := 91) (L' := [some (.ref 40), some (.int (nI m)), some (.int (zI lo)), some (.int (zI (srr res m (6 - j)))), some (.int (nI (m / 6 ^ (6 - j)))), some (.int (nI j)), some (.int (nI (dgt m j)))]) (st' := []) rfl ?_
        refine am_go cd_M_welfareOf hc_M_welfareOf 54 2 (pc' := 31) (L' := [some (.ref 40), some (.int (nI m)), some (.int (zI lo)), some (.int (zI (srr res m (6 - j)))), some (.int (nI (m / 6 ^ (6 - j)))), some (.int (nI j + (-1))), some (.int (nI (dgt m j)))]) (st' := []) rfl ?_
        refine am_weak (L' := [some (.ref 40), some (.int (nI m)), some (.int (zI lo)), some (.int (zI (srr res m (6 - j)))), some (.int (nI (m / 6 ^ (6 - j)))), some (.int (nI j + (-1))), none]) ⟨rfl, rfl, rfl, rfl, rfl, rfl, trivial⟩ ?_
        rw [i_dec]
        refine ih (by omega) d1 hd (fun b hb => ?_)
        rw [e6]
        show _ = nI (if dgt m (5 - (5 - j)) = b + 1 then gbr m b (5 - j) ||| 2 ^ (5 - (5 - j)) else gbr m b (5 - j))
        rw [e5, hz, if_neg (by omega)]; exact hg b hb
  have loop1 : ∀ q j, j + q = 5 → cW l x e L m_M_welfareOf 8 [some (.ref 40), some (.int (nI m)), some (.int (zI lo)), some (.int 0), some (.int (nI m)), some (.int (nI j)), none] [] (am_tb d 50 j (fun _ => 0)) (fun r d' => r = some (.int (zI (wof wt res lo m))) ∧ RM cash esc pd pt ow res wt T n se cl d' ∧ fM d d' ∧ ∀ b, b < 5 → d' 50 b = nI (gbr m b 6)) := by
    intro q
    induction q with
    | zero =>
      intro j hj
      refine am_go cd_M_welfareOf hc_M_welfareOf 6 2 (pc' := 11) (L' := [some (.ref 40), some (.int (nI m)), some (.int (zI lo)), some (.int 0), some (.int (nI m)), some (.int (nI j)), none]) (st' := [.int 5, .int (nI j)]) rfl ?_
      refine am_icmp_ge 28 (am_at hc_M_welfareOf 8 rfl) (by decide) (fun q1 => ?_) (fun q1 => absurd (nI_le (a := 5) (b := j) (by omega) (by omega)) q1)
      refine am_go cd_M_welfareOf hc_M_welfareOf 16 2 (pc' := 31) (L' := [some (.ref 40), some (.int (nI m)), some (.int (zI lo)), some (.int 0), some (.int (nI m)), some (.int 5), none]) (st' := []) rfl ?_
      rw [show j = 5 by omega]
      have h0 := loop2 6 (Nat.le_refl _) (am_tb d 50 5 (fun _ => 0)) (fun a ha => am_tb_ne ha) (fun b hb => am_tb_lt hb)
      rw [show 6 - 6 = 0 from rfl, Nat.pow_zero, Nat.div_one] at h0
      exact h0
    | succ q ih =>
      intro j hj
      refine am_go cd_M_welfareOf hc_M_welfareOf 6 2 (pc' := 11) (L' := [some (.ref 40), some (.int (nI m)), some (.int (zI lo)), some (.int 0), some (.int (nI m)), some (.int (nI j)), none]) (st' := [.int 5, .int (nI j)]) rfl ?_
      refine am_icmp_ge 28 (am_at hc_M_welfareOf 8 rfl) (by decide) (fun q1 => absurd q1 (nI_ge (a := j) (b := 5) (by omega) (by omega))) (fun q1 => ?_)
      refine am_go cd_M_welfareOf hc_M_welfareOf 9 1 (pc' := 15) (L' := [some (.ref 40), some (.int (nI m)), some (.int (zI lo)), some (.int 0), some (.int (nI m)), some (.int (nI j)), none]) (st' := [.ref 40]) rfl ?_
      refine am_getf 3 16 k_r3 (am_at hc_M_welfareOf 10 rfl) rfl (by decide) rfl (by decide) k_ok3 (Or.inl (tw 322 rfl rfl)) rfl ?_
      refine am_go cd_M_welfareOf hc_M_welfareOf 11 2 (pc' := 21) (L' := [some (.ref 40), some (.int (nI m)), some (.int (zI lo)), some (.int 0), some (.int (nI m)), some (.int (nI j)), none]) (st' := [.int 0, .int (nI j), .ref 50]) rfl ?_
      refine am_iastore (j) (am_at hc_M_welfareOf 13 rfl) rfl (by decide) rfl (by show j < 5; omega) (Nat.le_of_ble_eq_true rfl) ?_
      refine am_go cd_M_welfareOf hc_M_welfareOf 14 2 (pc' := 8) (L' := [some (.ref 40), some (.int (nI m)), some (.int (zI lo)), some (.int 0), some (.int (nI m)), some (.int (nI j + 1)), none]) (st' := []) rfl ?_
      rw [nI_1, am_tb_s d 50 j (fun _ => 0)]
      exact ih (j + 1) (by omega)
  have h0 := loop1 5 0 rfl
  rw [am_tb_0] at h0
  exact h0
set_option maxHeartbeats 4000000 in
theorem c_M_bestOf {l : Launch} {x : am_X} {e L : Nat} {d : am_D} {cash esc pd pt ow : Nat → Int32} {res : Nat → Int} {wt : Nat → Nat → Int} {T : Nat → Nat} {n : Nat} {se : Int32} {cl : Bool} (h : RM cash esc pd pt ow res wt T n se cl d) {lo : Int} (hl1 : -1 ≤ lo) (hl2 : lo ≤ 4) : cM l x (e + 1) L m_M_bestOf [.ref 40, .int (zI lo)] d (fun r d' => r = some (.int (nI (bo wt res lo 46656).2)) ∧ RM cash esc pd pt ow res wt T n se cl d' ∧ fM d d') := by
  obtain ⟨h1, h2, h3, h4, h5, h6, h7, h8, h9, h10⟩ := id h
  refine cM.go (by decide) (by simp [Value.category]) (Nat.le_of_ble_eq_true rfl) ?_
  have hwt : ∀ b, b < 5 → tb_ok (wt b) := fun b hb => (h7 b hb).1
  have hres : ∀ j, j < 6 → 0 ≤ res j ∧ res j ≤ 999 := fun j hj => (h6 j hj).2
  refine am_go cd_M_bestOf hc_M_bestOf 0 6 (pc' := 7) (L' := [some (.ref 40), some (.int (zI lo)), some (.int (-1)), some (.int 0), some (.int 0), none]) (st' := []) rfl ?_
  have loop : ∀ q m d1, m + q = 46656 → RM cash esc pd pt ow res wt T n se cl d1 → fM d d1 → cW l x (e + 1) L m_M_bestOf 7 [some (.ref 40), some (.int (zI lo)), some (.int (zI (bo wt res lo m).1)), some (.int (nI (bo wt res lo m).2)), some (.int (nI m)), none] [] d1 (fun r d' => r = some (.int (nI (bo wt res lo 46656).2)) ∧ RM cash esc pd pt ow res wt T n se cl d' ∧ fM d d') := by
    intro q
    induction q with
    | zero =>
      intro m d1 hm hR hf
      have hm5 : m = 46656 := by omega
      subst hm5
      refine am_go cd_M_bestOf hc_M_bestOf 6 1 (pc' := 9) (L' := [some (.ref 40), some (.int (zI lo)), some (.int (zI (bo wt res lo 46656).1)), some (.int (nI (bo wt res lo 46656).2)), some (.int (nI 46656)), none]) (st' := [.int (nI 46656)]) rfl ?_
      refine am_ldc 46656 (am_at hc_M_bestOf 7 rfl) (tw 449 rfl rfl) ?_
      refine am_icmp_ge 41 (am_at hc_M_bestOf 8 rfl) (by decide) (fun q1 => ?_) (fun q1 => absurd (nI_le (a := 46656) (b := 46656) (by omega) (by omega)) q1)
      refine am_go cd_M_bestOf hc_M_bestOf 23 1 (pc' := 42) (L' := [some (.ref 40), some (.int (zI lo)), some (.int (zI (bo wt res lo 46656).1)), some (.int (nI (bo wt res lo 46656).2)), some (.int (nI 46656)), none]) (st' := [.int (nI (bo wt res lo 46656).2)]) rfl ?_
      exact am_iret (am_at hc_M_bestOf 24 rfl) rfl rfl ⟨rfl, rfl, rfl, hR, hf⟩
    | succ q ih =>
      intro m d1 hm hR hf
      have hb1 := bo_b hwt hres lo m
      have hb2 := wof_b hwt hres lo m
      have eb : bo wt res lo (m + 1) = if (bo wt res lo m).1 < wof wt res lo m then (wof wt res lo m, m) else bo wt res lo m := rfl
      refine am_go cd_M_bestOf hc_M_bestOf 6 1 (pc' := 9) (L' := [some (.ref 40), some (.int (zI lo)), some (.int (zI (bo wt res lo m).1)), some (.int (nI (bo wt res lo m).2)), some (.int (nI m)), none]) (st' := [.int (nI m)]) rfl ?_
      refine am_ldc 46656 (am_at hc_M_bestOf 7 rfl) (tw 449 rfl rfl) ?_
      refine am_icmp_ge 41 (am_at hc_M_bestOf 8 rfl) (by decide) (fun q1 => absurd q1 (nI_ge (a := m) (b := 46656) (by omega) (by omega))) (fun q1 => ?_)
      refine am_go cd_M_bestOf hc_M_bestOf 9 3 (pc' := 18) (L' := [some (.ref 40), some (.int (zI lo)), some (.int (zI (bo wt res lo m).1)), some (.int (nI (bo wt res lo m).2)), some (.int (nI m)), none]) (st' := [.int (zI lo), .int (nI m), .ref 40]) rfl ?_
      refine cW.callV (st := []) [.int (nI m), .int (zI lo)] (am_at hc_M_bestOf 12 rfl) g_M_welfareOf (Or.inl (tw 450 rfl rfl)) (tw 452 rfl rfl) (tp 29 rfl rfl) 3 k_r3 rfl (by decide) rfl rfl rfl rfl (Nat.le_of_ble_eq_true rfl) (c_M_welfareOf hR (by omega : m < 46656) hl1 hl2) ?_
      rintro _ d2 ⟨rfl, hR2, hf2, -⟩
      show cW _ _ (e + 1) _ m_M_bestOf 21 [some (.ref 40), some (.int (zI lo)), some (.int (zI (bo wt res lo m).1)), some (.int (nI (bo wt res lo m).2)), some (.int (nI m)), none] [.int (zI (wof wt res lo m))] _ _
      refine am_go cd_M_bestOf hc_M_bestOf 13 3 (pc' := 26) (L' := [some (.ref 40), some (.int (zI lo)), some (.int (zI (bo wt res lo m).1)), some (.int (nI (bo wt res lo m).2)), some (.int (nI m)), some (.int (zI (wof wt res lo m)))]) (st' := [.int (zI (bo wt res lo m).1), .int (zI (wof wt res lo m))]) rfl ?_
      refine am_icmp_le 35 (am_at hc_M_bestOf 16 rfl) (by decide) (fun q2 => ?_) (fun q2 => ?_)
      · have hz : ¬ (bo wt res lo m).1 < wof wt res lo m := fun z => by have := (zI_le (by omega) (by omega) (by omega) (by omega)).mp q2; omega
        refine am_go cd_M_bestOf hc_M_bestOf 21 2 (pc' := 7) (L' := [some (.ref 40), some (.int (zI lo)), some (.int (zI (bo wt res lo m).1)), some (.int (nI (bo wt res lo m).2)), some (.int (nI m + 1)), some (.int (zI (wof wt res lo m)))]) (st' := []) rfl ?_
        refine am_weak (L' := [some (.ref 40), some (.int (zI lo)), some (.int (zI (bo wt res lo m).1)), some (.int (nI (bo wt res lo m).2)), some (.int (nI m + 1)), none]) ⟨rfl, rfl, rfl, rfl, rfl, trivial⟩ ?_
        rw [nI_1]
        have h0 := ih (m + 1) d2 (by omega) hR2 (hf.tr hf2)
        rw [eb, if_neg hz] at h0
        exact h0
      · have hz : (bo wt res lo m).1 < wof wt res lo m := Int.not_le.mp (fun z => q2 ((zI_le (by omega) (by omega) (by omega) (by omega)).mpr z))
        refine am_go cd_M_bestOf hc_M_bestOf 17 6 (pc' := 7) (L' := [some (.ref 40), some (.int (zI lo)), some (.int (zI (wof wt res lo m))), some (.int (nI m)), some (.int (nI m + 1)), some (.int (zI (wof wt res lo m)))]) (st' := []) rfl ?_
        refine am_weak (L' := [some (.ref 40), some (.int (zI lo)), some (.int (zI (wof wt res lo m))), some (.int (nI m)), some (.int (nI m + 1)), none]) ⟨rfl, rfl, rfl, rfl, rfl, trivial⟩ ?_
        rw [nI_1]
        have h0 := ih (m + 1) d2 (by omega) hR2 (hf.tr hf2)
        rw [eb, if_pos hz] at h0
        exact h0
  exact loop 46656 0 d rfl h fM.rf
