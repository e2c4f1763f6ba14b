/-- the first k places of a row are F's -/
def am_tb (d : am_D) (a k : Nat) (F : Nat → Int32) : am_D := am_nd d a (fun j => if j < k then F j else d a j)
theorem am_tb_0 (d : am_D) (a : Nat) (F : Nat → Int32) : am_tb d a 0 F = d := by
  funext b; unfold am_tb am_nd
  by_cases h : b = a
  · subst h; simp
  · simp [h]
theorem am_tb_s (d : am_D) (a k : Nat) (F : Nat → Int32) : am_u (am_tb d a k F) a k (F k) = am_tb d a (k + 1) F := by
  funext b j; unfold am_u am_tb am_nd
  by_cases h1 : b = a
  · by_cases h2 : j = k
    · simp [h1, h2]
    · by_cases h3 : j < k
      · simp [h1, h2, h3, show j < k + 1 by omega]
      · simp [h1, h2, h3, show ¬ j < k + 1 by omega]
  · simp [h1]
theorem am_tb_ge {d : am_D} {a k j : Nat} {F : Nat → Int32} (h : k ≤ j) : am_tb d a k F a j = d a j := by unfold am_tb; rw [am_nd_self, if_neg (by omega)]
theorem am_tb_lt {d : am_D} {a k j : Nat} {F : Nat → Int32} (h : j < k) : am_tb d a k F a j = F j := by unfold am_tb; rw [am_nd_self, if_pos h]
theorem am_tb_ne {d : am_D} {a k b : Nat} {F : Nat → Int32} (h : b ≠ a) : am_tb d a k F b = d b := by unfold am_tb; exact am_nd_ne h
/-- the last k places, downwards -/
def am_td (d : am_D) (a k N : Nat) (F : Nat → Int32) : am_D := am_nd d a (fun j => if k ≤ j ∧ j < N then F j else d a j)
theorem am_td_N (d : am_D) (a N : Nat) (F : Nat → Int32) : am_td d a N N F = d := by
  funext b; unfold am_td am_nd
  by_cases h : b = a
  · subst h; simp only [if_true]; funext j; rw [if_neg (by omega)]
  · simp [h]
theorem am_td_s (d : am_D) (a k N : Nat) (F : Nat → Int32) (hk : k < N) : am_u (am_td d a (k + 1) N F) a k (F k) = am_td d a k N F := by
  funext b j; unfold am_u am_td am_nd
  by_cases h1 : b = a
  · by_cases h2 : j = k
    · simp [h1, h2, hk]
    · by_cases h3 : k + 1 ≤ j ∧ j < N
      · simp [h1, h2, h3, show k ≤ j by omega]
      · have h4 : ¬ (k ≤ j ∧ j < N) := by omega
        simp [h1, h2, h3, h4]
  · simp [h1]
theorem am_td_lt {d : am_D} {a k N j : Nat} {F : Nat → Int32} (h : j < k) : am_td d a k N F a j = d a j := by unfold am_td; rw [am_nd_self, if_neg (by omega)]
theorem am_td_ne {d : am_D} {a k N b : Nat} {F : Nat → Int32} (h : b ≠ a) : am_td d a k N F b = d b := by unfold am_td; exact am_nd_ne h
theorem am_td_tb (d : am_D) (a N : Nat) (F : Nat → Int32) : am_td d a 0 N F = am_tb d a N F := by
  funext b; unfold am_td am_tb am_nd
  by_cases h : b = a
  · simp [h]
  · simp [h]
theorem am_tb_congr (d : am_D) (a k : Nat) {F G : Nat → Int32} (h : ∀ j, j < k → F j = G j) : am_tb d a k F = am_tb d a k G := by
  funext b j; unfold am_tb am_nd
  by_cases h1 : b = a
  · by_cases h2 : j < k
    · simp [h1, h2, h j h2]
    · simp [h1, h2]
  · simp [h1]
/-- join: the greatest sums over the sets within each set -/
theorem c_A_join {l : Launch} {x : am_X} {e : Nat} {S : am_S} {nn : Nat} {d : am_D} (a b : Nat) (f g : Nat → Int) (hka : (S a).1 = 0) (hkb : (S b).1 = 0) (hla : (S a).2.1 = 64) (hlb : (S b).2.1 = 64) (ha : a < nn) (hb : b < nn) (hab : a ≠ b) (hf : ∀ s, s < 64 → d a s = zI (f s)) (hg : ∀ s, s < 64 → d b s = zI (g s)) (Bf : ∀ s, s < 64 → -500000000 ≤ f s ∧ f s ≤ 500000000) (Bg : ∀ s, s < 64 → -500000000 ≤ g s ∧ g s ≤ 500000000) : am_Met l K0 x (e + 1) 0 0 m_A_join [.ref a, .ref b] S nn d (am_Ret none S nn (am_tb d a 64 (fun j => zI (jn f g j)))) := by
  refine am_enter (by decide) (by simp [Value.category]) (Nat.le_of_ble_eq_true rfl) ?_
  refine am_go cd_A_join hc_A_join 0 2 (pc' := 3) (L' := [some (.ref a), some (.ref b), some (.int 63), none, none]) (st' := []) rfl ?_
  have loop : ∀ k, k ≤ 64 → am_W l K0 x (e + 1) 0 0 m_A_join 3 [some (.ref a), some (.ref b), some (.int (nI k - 1)), none, none] [] S nn (am_td d a k 64 (fun j => zI (jn f g j))) (am_Ret none S nn (am_tb d a 64 (fun j => zI (jn f g j)))) := by
    intro k
    induction k with
    | zero =>
      intro hk
      refine am_go cd_A_join hc_A_join 2 1 (pc' := 4) (L' := [some (.ref a), some (.ref b), some (.int (nI 0 - 1)), none, none]) (st' := [.int (nI 0 - 1)]) rfl ?_
      refine am_if_lt 60 (am_at hc_A_join 3 rfl) (by decide) (fun h => ?_) (fun h => absurd (by decide) h)
      exact am_vret (am_at hc_A_join 41 rfl) rfl ⟨rfl, rfl, rfl, am_td_tb _ _ _ _⟩
    | succ s ih =>
      intro hk
      rw [nI_pred]
      refine am_go cd_A_join hc_A_join 2 1 (pc' := 4) (L' := [some (.ref a), some (.ref b), some (.int (nI s)), none, none]) (st' := [.int (nI s)]) rfl ?_
      refine am_if_lt 60 (am_at hc_A_join 3 rfl) (by decide) (fun h => absurd h (nI_pos (by omega))) (fun h => ?_)
      have hs : s < 64 := by omega
      generalize hD : am_td d a (s + 1) 64 (fun j => zI (jn f g j)) = D
      have hDa : ∀ j, j ≤ s → D a j = zI (f j) := fun j hj => by rw [← hD, am_td_lt (by omega)]; exact hf j (by omega)
      have hDb : ∀ j, j < 64 → D b j = zI (g j) := fun j hj => by rw [← hD, am_td_ne (Ne.symm hab)]; exact hg j hj
      refine am_go cd_A_join hc_A_join 4 2 (pc' := 9) (L' := [some (.ref a), some (.ref b), some (.int (nI s)), none, none]) (st' := [.int 0, .ref a]) rfl ?_
      refine am_iaload (0) (am_at hc_A_join 6 rfl) hka (Or.inl ha) rfl (by omega) (by omega) ?_
      rw [show D a 0 = zI (f 0) from hDa 0 (by omega)]
      refine am_go cd_A_join hc_A_join 7 2 (pc' := 12) (L' := [some (.ref a), some (.ref b), some (.int (nI s)), none, none]) (st' := [.int (nI s), .ref b, .int (zI (f 0))]) rfl ?_
      refine am_iaload (s) (am_at hc_A_join 9 rfl) hkb (Or.inl hb) rfl (by omega) (by omega) ?_
      rw [show D b s = zI (g s) from hDb s hs]
      refine am_go cd_A_join hc_A_join 10 1 (pc' := 14) (L' := [some (.ref a), some (.ref b), some (.int (nI s)), none, none]) (st' := [.int (zI (f 0) + zI (g s))]) rfl ?_
      rw [show zI (f 0) + zI (g s) = zI (f 0 + g s) from zI_add _ _]
      refine am_go cd_A_join hc_A_join 11 3 (pc' := 18) (L' := [some (.ref a), some (.ref b), some (.int (nI s)), some (.int (zI (f 0 + g s))), some (.int (nI s))]) (st' := []) rfl ?_
      have inner : ∀ (F p : Nat) (v : Int), p ≤ F → p ≤ s → p &&& s = p → -1000000000 ≤ v → v ≤ 1000000000 → am_W l K0 x (e + 1) 0 0 m_A_join 50 [some (.ref a), some (.ref b), some (.int (nI s)), some (.int (zI (jn_in f g s F p v))), none] [] S nn D (am_Ret none S nn (am_tb d a 64 (fun j => zI (jn f g j)))) → am_W l K0 x (e + 1) 0 0 m_A_join 18 [some (.ref a), some (.ref b), some (.int (nI s)), some (.int (zI v)), some (.int (nI p))] [] S nn D (am_Ret none S nn (am_tb d a 64 (fun j => zI (jn f g j)))) := by
        intro F
        induction F with
        | zero =>
          intro p v hp hps hpp hv1 hv2 kk
          have hp0 : p = 0 := by omega
          subst hp0
          refine am_go cd_A_join hc_A_join 14 1 (pc' := 20) (L' := [some (.ref a), some (.ref b), some (.int (nI s)), some (.int (zI v)), some (.int (nI 0))]) (st' := [.int (nI 0)]) rfl ?_
          refine am_if_le 50 (am_at hc_A_join 15 rfl) (by decide) (fun h => ?_) (fun h => absurd (by decide) h)
          refine am_weak (L' := [some (.ref a), some (.ref b), some (.int (nI s)), some (.int (zI v)), none]) ⟨rfl, rfl, rfl, rfl, trivial⟩ ?_
          exact kk
        | succ F ihF =>
          intro p v hp hps hpp hv1 hv2 kk
          unfold jn_in at kk
          refine am_go cd_A_join hc_A_join 14 1 (pc' := 20) (L' := [some (.ref a), some (.ref b), some (.int (nI s)), some (.int (zI v)), some (.int (nI p))]) (st' := [.int (nI p)]) rfl ?_
          refine am_if_le 50 (am_at hc_A_join 15 rfl) (by decide) (fun h => ?_) (fun h => ?_)
          · have hp0 : p = 0 := by by_cases z : p = 0; exact z; exact absurd h (nI_nle (by omega) (by omega))
            rw [if_pos hp0] at kk
            refine am_weak (L' := [some (.ref a), some (.ref b), some (.int (nI s)), some (.int (zI v)), none]) ⟨rfl, rfl, rfl, rfl, trivial⟩ ?_
            exact kk
          · have hp0 : ¬ p = 0 := fun z => h (by rw [z]; decide)
            rw [if_neg hp0] at kk
            have bf := Bf p (by omega)
            have bg := Bg (s - p) (by omega)
            refine am_go cd_A_join hc_A_join 16 3 (pc' := 27) (L' := [some (.ref a), some (.ref b), some (.int (nI s)), some (.int (zI v)), some (.int (nI p))]) (st' := [.int (nI p), .ref a, .int (zI v)]) rfl ?_
            refine am_iaload (p) (am_at hc_A_join 19 rfl) hka (Or.inl ha) rfl (by omega) (by omega) ?_
            rw [show D a p = zI (f p) from hDa p hps]
            refine am_go cd_A_join hc_A_join 20 4 (pc' := 33) (L' := [some (.ref a), some (.ref b), some (.int (nI s)), some (.int (zI v)), some (.int (nI p))]) (st' := [.int (nI s - nI p), .ref b, .int (zI (f p)), .int (zI v)]) rfl ?_
            refine am_iaload (s - p) (am_at hc_A_join 24 rfl) hkb (Or.inl hb) (pk_sub hps) (by omega) (by omega) ?_
            rw [show D b (s - p) = zI (g (s - p)) from hDb _ (by omega)]
            refine am_go cd_A_join hc_A_join 25 1 (pc' := 35) (L' := [some (.ref a), some (.ref b), some (.int (nI s)), some (.int (zI v)), some (.int (nI p))]) (st' := [.int (zI (f p) + zI (g (s - p))), .int (zI v)]) rfl ?_
            rw [show zI (f p) + zI (g (s - p)) = zI (f p + g (s - p)) from zI_add _ _]
            refine am_mmax (am_at hc_A_join 26 rfl) (tw 215 rfl rfl) (tw 216 rfl rfl) (tw 6 rfl rfl) (tw 217 rfl rfl) (Nat.le_of_ble_eq_true rfl) ?_
            rw [show (if zI v < zI (f p + g (s - p)) then zI (f p + g (s - p)) else zI v) = zI (max v (f p + g (s - p))) from zI_max (by omega) (by omega) (by omega) (by omega)]
            refine am_go cd_A_join hc_A_join 27 4 (pc' := 43) (L' := [some (.ref a), some (.ref b), some (.int (nI s)), some (.int (zI (max v (f p + g (s - p))))), some (.int (nI p))]) (st' := [.int (nI p - 1)]) rfl ?_
            obtain ⟨q, rfl⟩ : ∃ q, p = q + 1 := ⟨p - 1, by omega⟩
            rw [show nI (q + 1) - 1 = nI q from nI_pred q]
            refine am_go cd_A_join hc_A_join 31 2 (pc' := 45) (L' := [some (.ref a), some (.ref b), some (.int (nI s)), some (.int (zI (max v (f (q + 1) + g (s - (q + 1)))))), some (.int (nI (q + 1)))]) (st' := [.int (nI q &&& nI s)]) rfl ?_
            rw [show nI q &&& nI s = nI (q &&& s) from nI_and _ _]
            refine am_go cd_A_join hc_A_join 33 2 (pc' := 18) (L' := [some (.ref a), some (.ref b), some (.int (nI s)), some (.int (zI (max v (f (q + 1) + g (s - (q + 1)))))), some (.int (nI (q &&& s)))]) (st' := []) rfl ?_
            refine ihF (q &&& s) _ ?_ (Nat.and_le_right) ?_ (by omega) (by omega) kk
            · have := @Nat.and_le_left q s; omega
            · rw [Nat.and_assoc, Nat.and_self]
      have b0 := Bf 0 (by omega)
      have bs := Bg s hs
      refine inner 64 s (f 0 + g s) (by omega) (Nat.le_refl _) (Nat.and_self s) (by omega) (by omega) ?_
      show am_W l K0 x (e + 1) 0 0 m_A_join 50 [some (.ref a), some (.ref b), some (.int (nI s)), some (.int (zI (jn f g s))), none] [] S nn D (am_Ret none S nn (am_tb d a 64 (fun j => zI (jn f g j))))
      refine am_go cd_A_join hc_A_join 35 3 (pc' := 53) (L' := [some (.ref a), some (.ref b), some (.int (nI s)), some (.int (zI (jn f g s))), none]) (st' := [.int (zI (jn f g s)), .int (nI s), .ref a]) rfl ?_
      refine am_iastore (s) (am_at hc_A_join 38 rfl) hka ha rfl (by omega) (by omega) ?_
      refine am_go cd_A_join hc_A_join 39 2 (pc' := 3) (L' := [some (.ref a), some (.ref b), some (.int (nI s + (-1))), some (.int (zI (jn f g s))), none]) (st' := []) rfl ?_
      refine am_weak (L' := [some (.ref a), some (.ref b), some (.int (nI s + (-1))), none, none]) ⟨rfl, rfl, rfl, trivial⟩ ?_
      rw [i_dec, ← hD, am_td_s d a s 64 (fun j => zI (jn f g j)) hs]
      exact ih (by omega)
  have h0 := loop 64 (Nat.le_refl _)
  rw [am_td_N] at h0
  exact h0
theorem c_B_keepGreater {l : Launch} {x : am_X} {e L : Nat} {d : am_D} (a : Nat) (f g : Nat → Int) (hka : (SH L a).1 = 0) (hla : (SH L a).2.1 = 64) (ha : a < 53) (h15 : 15 ≠ a) (hf : ∀ s, s < 64 → d a s = zI (f s)) (hg : ∀ s, s < 64 → d 15 s = zI (g s)) (Bf : ∀ s, s < 64 → -500000000 ≤ f s ∧ f s ≤ 500000000) (Bg : ∀ s, s < 64 → -500000000 ≤ g s ∧ g s ≤ 500000000) : cM l x (e + 1) L m_B_keepGreater [.ref 13, .ref a] d (cR none (am_tb d a 64 (fun j => zI (max (f j) (g j))))) := by
  refine cM.go (by decide) (by simp [Value.category]) (Nat.le_of_ble_eq_true rfl) ?_
  refine am_go cd_B_keepGreater hc_B_keepGreater 0 2 (pc' := 2) (L' := [some (.ref 13), some (.ref a), some (.int 0)]) (st' := []) rfl ?_
  have loop : ∀ k j, j + k = 64 → cW l x (e + 1) L m_B_keepGreater 2 [some (.ref 13), some (.ref a), some (.int (nI j))] [] (am_tb d a j (fun j => zI (max (f j) (g j)))) (cR none (am_tb d a 64 (fun j => zI (max (f j) (g j))))) := by
    intro k
    induction k with
    | zero =>
      intro j hj
      refine am_go cd_B_keepGreater hc_B_keepGreater 2 2 (pc' := 5) (L' := [some (.ref 13), some (.ref a), some (.int (nI j))]) (st' := [.int 64, .int (nI j)]) rfl ?_
      refine am_icmp_ge 29 (am_at hc_B_keepGreater 4 rfl) (by decide) (fun h => ?_) (fun h => absurd (nI_le (a := 64) (b := j) (by omega) (by omega)) h)
      exact am_vret (am_at hc_B_keepGreater 18 rfl) rfl (cR_in rfl (by rw [show j = 64 by omega]))
    | succ k ih =>
      intro j hj
      refine am_go cd_B_keepGreater hc_B_keepGreater 2 2 (pc' := 5) (L' := [some (.ref 13), some (.ref a), some (.int (nI j))]) (st' := [.int 64, .int (nI j)]) rfl ?_
      refine am_icmp_ge 29 (am_at hc_B_keepGreater 4 rfl) (by decide) (fun h => absurd h (nI_ge (a := j) (b := 64) (by omega) (by omega))) (fun h => ?_)
      have bf := Bf j (by omega)
      have bg := Bg j (by omega)
      refine am_go cd_B_keepGreater hc_B_keepGreater 5 4 (pc' := 12) (L' := [some (.ref 13), some (.ref a), some (.int (nI j))]) (st' := [.int (nI j), .ref a, .int (nI j), .ref a]) rfl ?_
      refine am_iaload (j) (am_at hc_B_keepGreater 9 rfl) hka (Or.inl ha) rfl (by rw [hla]; omega) (by rw [hla]; omega) ?_
      rw [show am_tb d a j (fun j => zI (max (f j) (g j))) a j = zI (f j) from (am_tb_ge (Nat.le_refl _)).trans (hf j (by omega))]
      refine am_go cd_B_keepGreater hc_B_keepGreater 10 1 (pc' := 14) (L' := [some (.ref 13), some (.ref a), some (.int (nI j))]) (st' := [.ref 13, .int (zI (f j)), .int (nI j), .ref a]) rfl ?_
      refine am_getf 1 5 k_r1 (am_at hc_B_keepGreater 11 rfl) rfl (by decide) rfl (by decide) k_ok1 (Or.inl (tw 31 rfl rfl)) rfl ?_
      refine am_go cd_B_keepGreater hc_B_keepGreater 12 1 (pc' := 18) (L' := [some (.ref 13), some (.ref a), some (.int (nI j))]) (st' := [.int (nI j), .ref 15, .int (zI (f j)), .int (nI j), .ref a]) rfl ?_
      refine am_iaload (j) (am_at hc_B_keepGreater 13 rfl) rfl (Or.inl (by decide)) rfl (by show j < 64; omega) (Nat.le_of_ble_eq_true rfl) ?_
      rw [show am_tb d a j (fun j => zI (max (f j) (g j))) 15 j = zI (g j) from (congrFun (am_tb_ne h15) j).trans (hg j (by omega))]
      refine am_mmax (am_at hc_B_keepGreater 14 rfl) (tw 225 rfl rfl) (tw 216 rfl rfl) (tw 6 rfl rfl) (tw 217 rfl rfl) (Nat.le_of_ble_eq_true rfl) ?_
      rw [show (if zI (f j) < zI (g j) then zI (g j) else zI (f j)) = zI (max (f j) (g j)) from zI_max (by omega) (by omega) (by omega) (by omega)]
      refine am_iastore (j) (am_at hc_B_keepGreater 15 rfl) hka ha rfl (by rw [hla]; omega) (by rw [hla]; omega) ?_
      refine am_go cd_B_keepGreater hc_B_keepGreater 16 2 (pc' := 2) (L' := [some (.ref 13), some (.ref a), some (.int (nI j + 1))]) (st' := []) rfl ?_
      rw [nI_1, am_tb_s d a j (fun j => zI (max (f j) (g j)))]
      exact ih (j + 1) (by omega)
  have h0 := loop 64 0 rfl
  rw [am_tb_0] at h0
  exact h0
theorem c_B_capValue {l : Launch} {x : am_X} {e L : Nat} {d : am_D} (g : Nat → Int) (v : Int) (hg : ∀ s, s < 64 → d 15 s = zI (g s)) (Bg : ∀ s, s < 64 → -500000000 ≤ g s ∧ g s ≤ 500000000) (hv : d 13 3 = zI v) (hv1 : 0 ≤ v) (hv2 : v ≤ 500000000) : cM l x (e + 1) L m_B_capValue [.ref 13] d (cR none (am_tb d 15 64 (fun j => zI (min (g j) v)))) := by
  refine cM.go (by decide) (by simp [Value.category]) (Nat.le_of_ble_eq_true rfl) ?_
  refine am_go cd_B_capValue hc_B_capValue 0 2 (pc' := 2) (L' := [some (.ref 13), some (.int 0)]) (st' := []) rfl ?_
  have loop : ∀ k j, j + k = 64 → cW l x (e + 1) L m_B_capValue 2 [some (.ref 13), some (.int (nI j))] [] (am_tb d 15 j (fun j => zI (min (g j) v))) (cR none (am_tb d 15 64 (fun j => zI (min (g j) v)))) := by
    intro k
    induction k with
    | zero =>
      intro j hj
      refine am_go cd_B_capValue hc_B_capValue 2 2 (pc' := 5) (L' := [some (.ref 13), some (.int (nI j))]) (st' := [.int 64, .int (nI j)]) rfl ?_
      refine am_icmp_ge 33 (am_at hc_B_capValue 4 rfl) (by decide) (fun h => ?_) (fun h => absurd (nI_le (a := 64) (b := j) (by omega) (by omega)) h)
      exact am_vret (am_at hc_B_capValue 18 rfl) rfl (cR_in rfl (by rw [show j = 64 by omega]))
    | succ k ih =>
      intro j hj
      refine am_go cd_B_capValue hc_B_capValue 2 2 (pc' := 5) (L' := [some (.ref 13), some (.int (nI j))]) (st' := [.int 64, .int (nI j)]) rfl ?_
      refine am_icmp_ge 33 (am_at hc_B_capValue 4 rfl) (by decide) (fun h => absurd h (nI_ge (a := j) (b := 64) (by omega) (by omega))) (fun h => ?_)
      have bg := Bg j (by omega)
      refine am_go cd_B_capValue hc_B_capValue 5 1 (pc' := 9) (L' := [some (.ref 13), some (.int (nI j))]) (st' := [.ref 13]) rfl ?_
      refine am_getf 1 5 k_r1 (am_at hc_B_capValue 6 rfl) rfl (by decide) rfl (by decide) k_ok1 (Or.inl (tw 31 rfl rfl)) rfl ?_
      refine am_go cd_B_capValue hc_B_capValue 7 2 (pc' := 14) (L' := [some (.ref 13), some (.int (nI j))]) (st' := [.ref 13, .int (nI j), .ref 15]) rfl ?_
      refine am_getf 1 5 k_r1 (am_at hc_B_capValue 9 rfl) rfl (by decide) rfl (by decide) k_ok1 (Or.inl (tw 31 rfl rfl)) rfl ?_
      refine am_go cd_B_capValue hc_B_capValue 10 1 (pc' := 18) (L' := [some (.ref 13), some (.int (nI j))]) (st' := [.int (nI j), .ref 15, .int (nI j), .ref 15]) rfl ?_
      refine am_iaload (j) (am_at hc_B_capValue 11 rfl) rfl (Or.inl (by decide)) rfl (by show j < 64; omega) (Nat.le_of_ble_eq_true rfl) ?_
      rw [show am_tb d 15 j (fun j => zI (min (g j) v)) 15 j = zI (g j) from (am_tb_ge (Nat.le_refl _)).trans (hg j (by omega))]
      refine am_go cd_B_capValue hc_B_capValue 12 1 (pc' := 20) (L' := [some (.ref 13), some (.int (nI j))]) (st' := [.ref 13, .int (zI (g j)), .int (nI j), .ref 15]) rfl ?_
      refine am_getf 1 3 k_r1 (am_at hc_B_capValue 13 rfl) rfl (by decide) rfl (by decide) k_ok1 (Or.inl (tw 28 rfl rfl)) (congrArg Value.int ((congrFun (am_tb_ne (by decide)) 3).trans hv)) ?_
      refine am_mmin (am_at hc_B_capValue 14 rfl) (tw 209 rfl rfl) (tw 210 rfl rfl) (tw 6 rfl rfl) (tw 211 rfl rfl) (Nat.le_of_ble_eq_true rfl) ?_
      rw [show (if zI v < zI (g j) then zI v else zI (g j)) = zI (min (g j) v) from zI_min (by omega) (by omega) (by omega) (by omega)]
      refine am_iastore (j) (am_at hc_B_capValue 15 rfl) rfl (by decide) rfl (by show j < 64; omega) (Nat.le_of_ble_eq_true rfl) ?_
      refine am_go cd_B_capValue hc_B_capValue 16 2 (pc' := 2) (L' := [some (.ref 13), some (.int (nI j + 1))]) (st' := []) rfl ?_
      rw [nI_1, am_tb_s d 15 j (fun j => zI (min (g j) v))]
      exact ih (j + 1) (by omega)
  have h0 := loop 64 0 rfl
  rw [am_tb_0] at h0
  exact h0
