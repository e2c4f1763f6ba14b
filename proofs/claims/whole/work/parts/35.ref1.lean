theorem RM.cash {cash esc pd pt ow : Nat → Int32} {res : Nat → Int} {wt : Nat → Nat → Int} {T : Nat → Nat} {n : Nat} {se : Int32} {cl : Bool} {d : am_D} {k : Nat} {v : Int32} (h : RM cash esc pd pt ow res wt T n se cl d) : RM (upd cash k v) esc pd pt ow res wt T n se cl (am_u d 41 k v) := by
  obtain ⟨h1, h2, h3, h4, h5, h6, h7, h8, h9, h10⟩ := h
  exact ⟨upd_at h1, fun b hb => by rw [am_u_ne 42 (by decide)]; exact h2 b hb, fun b hb => by rw [am_u_ne 52 (by decide)]; exact h3 b hb, fun b hb => by rw [am_u_ne 46 (by decide)]; exact h4 b hb, fun b hb => by rw [am_u_ne 51 (by decide)]; exact h5 b hb, fun b hb => by rw [am_u_ne 43 (by decide)]; exact h6 b hb, fun b hb => ⟨(h7 b hb).1, fun s hs => by rw [am_u_ne 45 (by decide)]; exact (h7 b hb).2 s hs⟩, ⟨by rw [am_u_ne 40 (by decide)]; exact h8.1, h8.2.1, fun j hj => by rw [am_u_ne 44 (by decide)]; exact h8.2.2 j hj⟩, by rw [am_u_ne 40 (by decide)]; exact h9, by rw [am_u_ne 40 (by decide)]; exact h10⟩
theorem RM.esc {cash esc pd pt ow : Nat → Int32} {res : Nat → Int} {wt : Nat → Nat → Int} {T : Nat → Nat} {n : Nat} {se : Int32} {cl : Bool} {d : am_D} {k : Nat} {v : Int32} (h : RM cash esc pd pt ow res wt T n se cl d) : RM cash (upd esc k v) pd pt ow res wt T n se cl (am_u d 42 k v) := by
  obtain ⟨h1, h2, h3, h4, h5, h6, h7, h8, h9, h10⟩ := h
  exact ⟨fun b hb => by rw [am_u_ne 41 (by decide)]; exact h1 b hb, upd_at h2, fun b hb => by rw [am_u_ne 52 (by decide)]; exact h3 b hb, fun b hb => by rw [am_u_ne 46 (by decide)]; exact h4 b hb, fun b hb => by rw [am_u_ne 51 (by decide)]; exact h5 b hb, fun b hb => by rw [am_u_ne 43 (by decide)]; exact h6 b hb, fun b hb => ⟨(h7 b hb).1, fun s hs => by rw [am_u_ne 45 (by decide)]; exact (h7 b hb).2 s hs⟩, ⟨by rw [am_u_ne 40 (by decide)]; exact h8.1, h8.2.1, fun j hj => by rw [am_u_ne 44 (by decide)]; exact h8.2.2 j hj⟩, by rw [am_u_ne 40 (by decide)]; exact h9, by rw [am_u_ne 40 (by decide)]; exact h10⟩
theorem RM.pd {cash esc pd pt ow : Nat → Int32} {res : Nat → Int} {wt : Nat → Nat → Int} {T : Nat → Nat} {n : Nat} {se : Int32} {cl : Bool} {d : am_D} {k : Nat} {v : Int32} (h : RM cash esc pd pt ow res wt T n se cl d) : RM cash esc (upd pd k v) pt ow res wt T n se cl (am_u d 52 k v) := by
  obtain ⟨h1, h2, h3, h4, h5, h6, h7, h8, h9, h10⟩ := h
  exact ⟨fun b hb => by rw [am_u_ne 41 (by decide)]; exact h1 b hb, fun b hb => by rw [am_u_ne 42 (by decide)]; exact h2 b hb, upd_at h3, fun b hb => by rw [am_u_ne 46 (by decide)]; exact h4 b hb, fun b hb => by rw [am_u_ne 51 (by decide)]; exact h5 b hb, fun b hb => by rw [am_u_ne 43 (by decide)]; exact h6 b hb, fun b hb => ⟨(h7 b hb).1, fun s hs => by rw [am_u_ne 45 (by decide)]; exact (h7 b hb).2 s hs⟩, ⟨by rw [am_u_ne 40 (by decide)]; exact h8.1, h8.2.1, fun j hj => by rw [am_u_ne 44 (by decide)]; exact h8.2.2 j hj⟩, by rw [am_u_ne 40 (by decide)]; exact h9, by rw [am_u_ne 40 (by decide)]; exact h10⟩
theorem RM.pt {cash esc pd pt ow : Nat → Int32} {res : Nat → Int} {wt : Nat → Nat → Int} {T : Nat → Nat} {n : Nat} {se : Int32} {cl : Bool} {d : am_D} {k : Nat} {v : Int32} (h : RM cash esc pd pt ow res wt T n se cl d) : RM cash esc pd (upd pt k v) ow res wt T n se cl (am_u d 46 k v) := by
  obtain ⟨h1, h2, h3, h4, h5, h6, h7, h8, h9, h10⟩ := h
  exact ⟨fun b hb => by rw [am_u_ne 41 (by decide)]; exact h1 b hb, fun b hb => by rw [am_u_ne 42 (by decide)]; exact h2 b hb, fun b hb => by rw [am_u_ne 52 (by decide)]; exact h3 b hb, upd_at h4, fun b hb => by rw [am_u_ne 51 (by decide)]; exact h5 b hb, fun b hb => by rw [am_u_ne 43 (by decide)]; exact h6 b hb, fun b hb => ⟨(h7 b hb).1, fun s hs => by rw [am_u_ne 45 (by decide)]; exact (h7 b hb).2 s hs⟩, ⟨by rw [am_u_ne 40 (by decide)]; exact h8.1, h8.2.1, fun j hj => by rw [am_u_ne 44 (by decide)]; exact h8.2.2 j hj⟩, by rw [am_u_ne 40 (by decide)]; exact h9, by rw [am_u_ne 40 (by decide)]; exact h10⟩
theorem RM.ow {cash esc pd pt ow : Nat → Int32} {res : Nat → Int} {wt : Nat → Nat → Int} {T : Nat → Nat} {n : Nat} {se : Int32} {cl : Bool} {d : am_D} {k : Nat} {v : Int32} (h : RM cash esc pd pt ow res wt T n se cl d) : RM cash esc pd pt (upd ow k v) res wt T n se cl (am_u d 51 k v) := by
  obtain ⟨h1, h2, h3, h4, h5, h6, h7, h8, h9, h10⟩ := h
  exact ⟨fun b hb => by rw [am_u_ne 41 (by decide)]; exact h1 b hb, fun b hb => by rw [am_u_ne 42 (by decide)]; exact h2 b hb, fun b hb => by rw [am_u_ne 52 (by decide)]; exact h3 b hb, fun b hb => by rw [am_u_ne 46 (by decide)]; exact h4 b hb, upd_at h5, fun b hb => by rw [am_u_ne 43 (by decide)]; exact h6 b hb, fun b hb => ⟨(h7 b hb).1, fun s hs => by rw [am_u_ne 45 (by decide)]; exact (h7 b hb).2 s hs⟩, ⟨by rw [am_u_ne 40 (by decide)]; exact h8.1, h8.2.1, fun j hj => by rw [am_u_ne 44 (by decide)]; exact h8.2.2 j hj⟩, by rw [am_u_ne 40 (by decide)]; exact h9, by rw [am_u_ne 40 (by decide)]; exact h10⟩
theorem RM.se {cash esc pd pt ow : Nat → Int32} {res : Nat → Int} {wt : Nat → Nat → Int} {T : Nat → Nat} {n : Nat} {se : Int32} {cl : Bool} {d : am_D} {v : Int32} (h : RM cash esc pd pt ow res wt T n se cl d) : RM cash esc pd pt ow res wt T n v cl (am_u d 40 3 v) := by
  obtain ⟨h1, h2, h3, h4, h5, h6, h7, h8, h9, h10⟩ := h
  exact ⟨fun b hb => by rw [am_u_ne 41 (by decide)]; exact h1 b hb, fun b hb => by rw [am_u_ne 42 (by decide)]; exact h2 b hb, fun b hb => by rw [am_u_ne 52 (by decide)]; exact h3 b hb, fun b hb => by rw [am_u_ne 46 (by decide)]; exact h4 b hb, fun b hb => by rw [am_u_ne 51 (by decide)]; exact h5 b hb, fun b hb => by rw [am_u_ne 43 (by decide)]; exact h6 b hb, fun b hb => ⟨(h7 b hb).1, fun s hs => by rw [am_u_ne 45 (by decide)]; exact (h7 b hb).2 s hs⟩, ⟨(am_u_o (by decide)).trans h8.1, h8.2.1, fun j hj => by rw [am_u_ne 44 (by decide)]; exact h8.2.2 j hj⟩, am_u_i, (am_u_o (by decide)).trans h10⟩
theorem RM.cl {cash esc pd pt ow : Nat → Int32} {res : Nat → Int} {wt : Nat → Nat → Int} {T : Nat → Nat} {n : Nat} {se : Int32} {cl : Bool} {d : am_D} {c : Bool} (h : RM cash esc pd pt ow res wt T n se cl d) : RM cash esc pd pt ow res wt T n se c (am_u d 40 0 (bI c)) := by
  obtain ⟨h1, h2, h3, h4, h5, h6, h7, h8, h9, h10⟩ := h
  exact ⟨fun b hb => by rw [am_u_ne 41 (by decide)]; exact h1 b hb, fun b hb => by rw [am_u_ne 42 (by decide)]; exact h2 b hb, fun b hb => by rw [am_u_ne 52 (by decide)]; exact h3 b hb, fun b hb => by rw [am_u_ne 46 (by decide)]; exact h4 b hb, fun b hb => by rw [am_u_ne 51 (by decide)]; exact h5 b hb, fun b hb => by rw [am_u_ne 43 (by decide)]; exact h6 b hb, fun b hb => ⟨(h7 b hb).1, fun s hs => by rw [am_u_ne 45 (by decide)]; exact (h7 b hb).2 s hs⟩, ⟨(am_u_o (by decide)).trans h8.1, h8.2.1, fun j hj => by rw [am_u_ne 44 (by decide)]; exact h8.2.2 j hj⟩, (am_u_o (by decide)).trans h9, am_u_i⟩
theorem RM.res {cash esc pd pt ow : Nat → Int32} {res : Nat → Int} {wt : Nat → Nat → Int} {T : Nat → Nat} {n : Nat} {se : Int32} {cl : Bool} {d : am_D} {k : Nat} {v : Int} (hv : 0 ≤ v ∧ v ≤ 999) (h : RM cash esc pd pt ow res wt T n se cl d) : RM cash esc pd pt ow (fun j => if j = k then v else res j) wt T n se cl (am_u d 43 k (zI v)) := by
  obtain ⟨h1, h2, h3, h4, h5, h6, h7, h8, h9, h10⟩ := h
  exact ⟨fun b hb => by rw [am_u_ne 41 (by decide)]; exact h1 b hb, fun b hb => by rw [am_u_ne 42 (by decide)]; exact h2 b hb, fun b hb => by rw [am_u_ne 52 (by decide)]; exact h3 b hb, fun b hb => by rw [am_u_ne 46 (by decide)]; exact h4 b hb, fun b hb => by rw [am_u_ne 51 (by decide)]; exact h5 b hb, fun j hj => by
    dsimp only
    by_cases z : j = k
    · subst z; rw [am_u_i, if_pos rfl]; exact ⟨rfl, hv⟩
    · rw [am_u_o (fun q => z q.2), if_neg z]; exact h6 j hj, fun b hb => ⟨(h7 b hb).1, fun s hs => by rw [am_u_ne 45 (by decide)]; exact (h7 b hb).2 s hs⟩, ⟨by rw [am_u_ne 40 (by decide)]; exact h8.1, h8.2.1, fun j hj => by rw [am_u_ne 44 (by decide)]; exact h8.2.2 j hj⟩, by rw [am_u_ne 40 (by decide)]; exact h9, by rw [am_u_ne 40 (by decide)]; exact h10⟩
/-- a stretch of a row -/
def am_sg (d : am_D) (a o k : Nat) (F : Nat → Int32) : am_D := am_nd d a (fun j => if o ≤ j ∧ j < o + k then F (j - o) else d a j)
theorem am_sg_0 (d : am_D) (a o : Nat) (F : Nat → Int32) : am_sg d a o 0 F = d := by
  funext b; unfold am_sg am_nd
  by_cases h : b = a
  · subst h; rw [if_pos rfl]; funext j; rw [if_neg (by omega)]
  · simp [h]
theorem am_sg_s (d : am_D) (a o k : Nat) (F : Nat → Int32) : am_u (am_sg d a o k F) a (o + k) (F k) = am_sg d a o (k + 1) F := by
  funext b j; unfold am_u am_sg am_nd
  by_cases h1 : b = a
  · by_cases h2 : j = o + k
    · subst h2
      have e : o + k - o = k := by omega
      simp [h1, e]
    · by_cases h3 : o ≤ j ∧ j < o + k
      · have h4 : o ≤ j ∧ j < o + (k + 1) := by omega
        simp [h1, h2, h3, h4]
      · have h4 : ¬ (o ≤ j ∧ j < o + (k + 1)) := by omega
        simp [h1, h2, h3, h4]
  · simp [h1]
theorem am_sg_ne {d : am_D} {a o k b : Nat} {F : Nat → Int32} (h : b ≠ a) : am_sg d a o k F b = d b := by unfold am_sg; exact am_nd_ne h
theorem am_sg_in {d : am_D} {a o k j : Nat} {F : Nat → Int32} (h : j < k) : am_sg d a o k F a (o + j) = F j := by
  unfold am_sg; rw [am_nd_self, if_pos (by omega), show o + j - o = j by omega]
theorem am_sg_out {d : am_D} {a o k j : Nat} {F : Nat → Int32} (h : j < o ∨ o + k ≤ j) : am_sg d a o k F a j = d a j := by
  unfold am_sg; rw [am_nd_self, if_neg (by omega)]
theorem fM.s {d : am_D} {a o k : Nat} {F : Nat → Int32} (h : 40 ≤ a ∧ a < 53) : fM d (am_sg d a o k F) := fun b hb => am_sg_ne (by omega)
theorem RM.wt {cash esc pd pt ow : Nat → Int32} {res : Nat → Int} {wt : Nat → Nat → Int} {T : Nat → Nat} {n : Nat} {se : Int32} {cl : Bool} {d : am_D} {k : Nat} {v : Nat → Int} {F : Nat → Int32} (hk : k < 5) (hv : tb_ok v) (hF : ∀ s, s < 64 → F s = zI (v s)) (h : RM cash esc pd pt ow res wt T n se cl d) : RM cash esc pd pt ow res (updw wt k v) T n se cl (am_sg d 45 (64 * k) 64 F) := by
  obtain ⟨g1, g2, g3, g4, g5, g6, g7, g8, g9, g10⟩ := h
  refine ⟨?_, ?_, ?_, ?_, ?_, ?_, fun b hb => ?_, ⟨?_, g8.2.1, ?_⟩, ?_, ?_⟩
  · rw [am_sg_ne (by decide)]; exact g1
  · rw [am_sg_ne (by decide)]; exact g2
  · rw [am_sg_ne (by decide)]; exact g3
  · rw [am_sg_ne (by decide)]; exact g4
  · rw [am_sg_ne (by decide)]; exact g5
  · rw [am_sg_ne (by decide)]; exact g6
  · unfold updw
    by_cases z : b = k
    · subst z
      rw [if_pos rfl]
      exact ⟨hv, fun s hs => (am_sg_in hs).trans (hF s hs)⟩
    · rw [if_neg z]
      exact ⟨(g7 b hb).1, fun s hs => by rw [am_sg_out (by omega)]; exact (g7 b hb).2 s hs⟩
  · rw [am_sg_ne (by decide)]; exact g8.1
  · rw [am_sg_ne (by decide)]; exact g8.2.2
  · rw [am_sg_ne (by decide)]; exact g9
  · rw [am_sg_ne (by decide)]; exact g10
theorem RM.off {cash esc pd pt ow : Nat → Int32} {res : Nat → Int} {wt : Nat → Nat → Int} {T : Nat → Nat} {n : Nat} {se : Int32} {cl : Bool} {d d' : am_D} (h : RM cash esc pd pt ow res wt T n se cl d) (h0 : ∀ j, j = 0 ∨ j = 3 ∨ j = 5 → d' 40 j = d 40 j) (h1 : ∀ a, a = 41 ∨ a = 42 ∨ a = 43 ∨ a = 44 ∨ a = 45 ∨ a = 46 ∨ a = 51 ∨ a = 52 → d' a = d a) : RM cash esc pd pt ow res wt T n se cl d' := by
  obtain ⟨g1, g2, g3, g4, g5, g6, g7, g8, g9, g10⟩ := h
  refine ⟨?_, ?_, ?_, ?_, ?_, ?_, fun b hb => ⟨(g7 b hb).1, fun s hs => ?_⟩, ⟨?_, g8.2.1, ?_⟩, ?_, ?_⟩
  · rw [h1 41 (by decide)]; exact g1
  · rw [h1 42 (by decide)]; exact g2
  · rw [h1 52 (by decide)]; exact g3
  · rw [h1 46 (by decide)]; exact g4
  · rw [h1 51 (by decide)]; exact g5
  · rw [h1 43 (by decide)]; exact g6
  · rw [h1 45 (by decide)]; exact (g7 b hb).2 s hs
  · rw [h0 5 (by decide)]; exact g8.1
  · rw [h1 44 (by decide)]; exact g8.2.2
  · rw [h0 3 (by decide)]; exact g9
  · rw [h0 0 (by decide)]; exact g10
theorem RM.n0 {cash esc pd pt ow : Nat → Int32} {res : Nat → Int} {wt : Nat → Nat → Int} {T : Nat → Nat} {n : Nat} {se : Int32} {cl : Bool} {d : am_D} (h : RM cash esc pd pt ow res wt T n se cl d) : RM cash esc pd pt ow res wt T 0 se cl (am_u d 40 5 0) := by
  obtain ⟨g1, g2, g3, g4, g5, g6, g7, g8, g9, g10⟩ := h
  exact ⟨fun b hb => by rw [am_u_ne 41 (by decide)]; exact g1 b hb, fun b hb => by rw [am_u_ne 42 (by decide)]; exact g2 b hb, fun b hb => by rw [am_u_ne 52 (by decide)]; exact g3 b hb, fun b hb => by rw [am_u_ne 46 (by decide)]; exact g4 b hb, fun b hb => by rw [am_u_ne 51 (by decide)]; exact g5 b hb, fun b hb => by rw [am_u_ne 43 (by decide)]; exact g6 b hb, fun b hb => ⟨(g7 b hb).1, fun s hs => by rw [am_u_ne 45 (by decide)]; exact (g7 b hb).2 s hs⟩, ⟨am_u_i, by decide, fun j hj => by omega⟩, (am_u_o (by decide)).trans g9, (am_u_o (by decide)).trans g10⟩
theorem RM.n1 {cash esc pd pt ow : Nat → Int32} {res : Nat → Int} {wt : Nat → Nat → Int} {T : Nat → Nat} {n : Nat} {se : Int32} {cl : Bool} {d : am_D} {c : Nat} (hn : n < 40) (hc : c < 128) (h : RM cash esc pd pt ow res wt T n se cl d) : RM cash esc pd pt ow res wt (fun j => if j = n then c else T j) (n + 1) se cl (am_u (am_u d 44 n (nI c)) 40 5 (nI (n + 1))) := by
  obtain ⟨g1, g2, g3, g4, g5, g6, g7, g8, g9, g10⟩ := h
  refine ⟨fun b hb => by rw [am_u_ne 41 (by decide), am_u_ne 41 (by decide)]; exact g1 b hb, fun b hb => by rw [am_u_ne 42 (by decide), am_u_ne 42 (by decide)]; exact g2 b hb, fun b hb => by rw [am_u_ne 52 (by decide), am_u_ne 52 (by decide)]; exact g3 b hb, fun b hb => by rw [am_u_ne 46 (by decide), am_u_ne 46 (by decide)]; exact g4 b hb, fun b hb => by rw [am_u_ne 51 (by decide), am_u_ne 51 (by decide)]; exact g5 b hb, fun b hb => by rw [am_u_ne 43 (by decide), am_u_ne 43 (by decide)]; exact g6 b hb, fun b hb => ⟨(g7 b hb).1, fun s hs => by rw [am_u_ne 45 (by decide), am_u_ne 45 (by decide)]; exact (g7 b hb).2 s hs⟩, ⟨am_u_i, by omega, fun j hj => ?_⟩, by rw [am_u_o (by decide), am_u_ne 40 (by decide)]; exact g9, by rw [am_u_o (by decide), am_u_ne 40 (by decide)]; exact g10⟩
  rw [am_u_ne 44 (by decide)]
  dsimp only
  by_cases z : j = n
  · subst z; rw [am_u_i, if_pos rfl]; exact ⟨rfl, hc⟩
  · rw [am_u_o (fun q => z q.2), if_neg z]; exact g8.2.2 j (by omega)
theorem c_M_bidder0 {l : Launch} {x : am_X} {dep : Nat} {S : am_S} {nn : Nat} {d : am_D} (v : Int32) : am_Met l K0 x dep 0 0 m_M_bidder [.int v] S nn d (am_Ret (some (.int (if 0 ≤ v ∧ v ≤ 4 then 1 else 0))) S nn d) := by
  refine am_enter (by decide) (by simp [Value.category]) (Nat.le_of_ble_eq_true rfl) ?_
  refine am_go cd_M_bidder hc_M_bidder 0 1 (pc' := 1) (L' := [some (.int v)]) (st' := [.int v]) rfl ?_
  refine am_if_lt 13 (am_at hc_M_bidder 1 rfl) (by decide) (fun h1 => ?_) (fun h1 => ?_)
  · rw [if_neg (fun z => Int32.not_lt.mpr z.1 h1)]
    refine am_go cd_M_bidder hc_M_bidder 7 1 (pc' := 14) (L' := [some (.int v)]) (st' := [.int 0]) rfl ?_
    exact am_iret (am_at hc_M_bidder 8 rfl) rfl rfl ⟨rfl, rfl, rfl, rfl⟩
  · skip
    refine am_go cd_M_bidder hc_M_bidder 2 2 (pc' := 6) (L' := [some (.int v)]) (st' := [.int 4, .int v]) rfl ?_
    refine am_icmp_gt 13 (am_at hc_M_bidder 4 rfl) (by decide) (fun h2 => ?_) (fun h2 => ?_)
    · rw [if_neg (fun z => Int32.not_lt.mpr z.2 h2)]
      refine am_go cd_M_bidder hc_M_bidder 7 1 (pc' := 14) (L' := [some (.int v)]) (st' := [.int 0]) rfl ?_
      exact am_iret (am_at hc_M_bidder 8 rfl) rfl rfl ⟨rfl, rfl, rfl, rfl⟩
    · rw [if_pos ⟨Int32.not_lt.mp h1, Int32.not_lt.mp h2⟩]
      refine am_go cd_M_bidder hc_M_bidder 5 2 (pc' := 14) (L' := [some (.int v)]) (st' := [.int 1]) rfl ?_
      exact am_iret (am_at hc_M_bidder 8 rfl) rfl rfl ⟨rfl, rfl, rfl, rfl⟩
theorem le4_lt5 (v : Int32) : v ≤ 4 ↔ v < 5 := by
  rw [Int32.le_iff_toInt_le, Int32.lt_iff_toInt_lt]
  have e1 : (4 : Int32).toInt = 4 := rfl
  have e2 : (5 : Int32).toInt = 5 := rfl
  omega
theorem le5_lt6 (v : Int32) : v ≤ 5 ↔ v < 6 := by
  rw [Int32.le_iff_toInt_le, Int32.lt_iff_toInt_lt]
  have e1 : (5 : Int32).toInt = 5 := rfl
  have e2 : (6 : Int32).toInt = 6 := rfl
  omega
theorem le63_lt64 (v : Int32) : v ≤ 63 ↔ v < 64 := by
  rw [Int32.le_iff_toInt_le, Int32.lt_iff_toInt_lt]
  have e1 : (63 : Int32).toInt = 63 := rfl
  have e2 : (64 : Int32).toInt = 64 := rfl
  omega
theorem c_mB {l : Launch} {x : am_X} {e L : Nat} {d : am_D} (v : Int32) : cM l x e L m_M_bidder [.int v] d (cR (some (.int (if isB v then 1 else 0))) d) := by
  refine am_Met.mono (c_M_bidder0 v) ?_
  rintro r S' n' d' ⟨rfl, rfl, rfl, rfl⟩
  refine ⟨rfl, rfl, ?_, rfl⟩
  simp only [le4_lt5]
set_option maxHeartbeats 4000000 in
theorem c_M_fund {l : Launch} {x : am_X} {e L : Nat} {d : am_D} {cash esc pd pt ow : Nat → Int32} {res : Nat → Int} {wt : Nat → Nat → Int} {T : Nat → Nat} {n : Nat} {se : Int32} {cl : Bool} (h : RM cash esc pd pt ow res wt T n se cl d) (v m : Int32) : cM l x (e + 1) L m_M_fund [.ref 40, .int v, .int m] d (fun r d' => r = some (.int (if fundOk cash esc v m then 1 else 0)) ∧ RM (if fundOk cash esc v m then upd cash (cN v) (cash (cN v) + m) else cash) esc pd pt ow res wt T n se cl d' ∧ fM d d') := by
  obtain ⟨h1, h2, h3, h4, h5, h6, h7, h8, h9, h10⟩ := id h
  refine cM.go (by decide) (by simp [Value.category]) (Nat.le_of_ble_eq_true rfl) ?_
  refine am_go cd_M_fund hc_M_fund 0 1 (pc' := 1) (L' := [some (.ref 40), some (.int v), some (.int m)]) (st' := [.int v]) rfl ?_
  refine cW.callS1 4 [.int (if isB v then 1 else 0)] (st := []) [.int v] (am_at hc_M_fund 1 rfl) g_M_bidder (Or.inl (tw 368 rfl rfl)) (tw 369 rfl rfl) rfl rfl (Nat.le_of_ble_eq_true rfl) (c_mB v) rfl rfl ?_
  by_cases hb : isB v
  · simp only [if_pos hb]
    refine am_if_eq 38 (am_at hc_M_fund 2 rfl) (by decide) (fun q1 => absurd q1 (by decide)) (fun q1 => ?_)
    refine am_go cd_M_fund hc_M_fund 3 2 (pc' := 9) (L' := [some (.ref 40), some (.int v), some (.int m)]) (st' := [.int 1, .int m]) rfl ?_
    refine am_icmp_lt 38 (am_at hc_M_fund 5 rfl) (by decide) (fun q2 => ?_) (fun q2 => ?_)
    · skip
      have hno : ¬ fundOk cash esc v m := fun z => Int32.not_lt.mpr z.2.1 q2
      simp only [if_neg hno]
      refine am_go cd_M_fund hc_M_fund 22 1 (pc' := 39) (L' := [some (.ref 40), some (.int v), some (.int m)]) (st' := [.int 0]) rfl ?_
      exact am_iret (am_at hc_M_fund 23 rfl) rfl rfl ⟨rfl, rfl, rfl, h, fM.rf⟩
    · skip
      refine am_go cd_M_fund hc_M_fund 6 1 (pc' := 13) (L' := [some (.ref 40), some (.int v), some (.int m)]) (st' := [.int m]) rfl ?_
      refine am_ldc 100000 (am_at hc_M_fund 7 rfl) (tw 371 rfl rfl) ?_
      refine am_icmp_gt 38 (am_at hc_M_fund 8 rfl) (by decide) (fun q3 => ?_) (fun q3 => ?_)
      · skip
        have hno : ¬ fundOk cash esc v m := fun z => Int32.not_lt.mpr z.2.2.1 q3
        simp only [if_neg hno]
        refine am_go cd_M_fund hc_M_fund 22 1 (pc' := 39) (L' := [some (.ref 40), some (.int v), some (.int m)]) (st' := [.int 0]) rfl ?_
        exact am_iret (am_at hc_M_fund 23 rfl) rfl rfl ⟨rfl, rfl, rfl, h, fM.rf⟩
      · skip
        obtain ⟨b, hb5, rfl⟩ := isB_of hb
        refine am_go cd_M_fund hc_M_fund 9 1 (pc' := 19) (L' := [some (.ref 40), some (.int (nI b)), some (.int m)]) (st' := [.ref 40]) rfl ?_
        refine am_getf 3 1 k_r3 (am_at hc_M_fund 10 rfl) rfl (by decide) rfl (by decide) k_ok3 (Or.inl (tw 307 rfl rfl)) rfl ?_
        refine am_go cd_M_fund hc_M_fund 11 1 (pc' := 23) (L' := [some (.ref 40), some (.int (nI b)), some (.int m)]) (st' := [.int (nI b), .ref 41]) rfl ?_
        refine am_iaload (b) (am_at hc_M_fund 12 rfl) rfl (Or.inl (by decide)) rfl (by show b < 5; omega) (Nat.le_of_ble_eq_true rfl) ?_
        rw [show d 41 b = cash b from h1 b hb5]
        refine am_go cd_M_fund hc_M_fund 13 1 (pc' := 25) (L' := [some (.ref 40), some (.int (nI b)), some (.int m)]) (st' := [.ref 40, .int (cash b)]) rfl ?_
        refine am_getf 3 2 k_r3 (am_at hc_M_fund 14 rfl) rfl (by decide) rfl (by decide) k_ok3 (Or.inl (tw 308 rfl rfl)) rfl ?_
        refine am_go cd_M_fund hc_M_fund 15 1 (pc' := 29) (L' := [some (.ref 40), some (.int (nI b)), some (.int m)]) (st' := [.int (nI b), .ref 42, .int (cash b)]) rfl ?_
        refine am_iaload (b) (am_at hc_M_fund 16 rfl) rfl (Or.inl (by decide)) rfl (by show b < 5; omega) (Nat.le_of_ble_eq_true rfl) ?_
        rw [show d 42 b = esc b from h2 b hb5]
        refine am_go cd_M_fund hc_M_fund 17 3 (pc' := 33) (L' := [some (.ref 40), some (.int (nI b)), some (.int m)]) (st' := [.int ((cash b + esc b) + m)]) rfl ?_
        refine am_ldc 1000000 (am_at hc_M_fund 20 rfl) (tw 372 rfl rfl) ?_
        refine am_icmp_le 40 (am_at hc_M_fund 21 rfl) (by decide) (fun q4 => ?_) (fun q4 => ?_)
        · have hok : fundOk cash esc (nI b) m := ⟨hb, Int32.not_lt.mp q2, Int32.not_lt.mp q3, by rw [nI_cl (by omega)]; exact q4⟩
          simp only [if_pos hok, nI_cl (show b < 1000000 by omega)]
          refine am_go cd_M_fund hc_M_fund 24 1 (pc' := 41) (L' := [some (.ref 40), some (.int (nI b)), some (.int m)]) (st' := [.ref 40]) rfl ?_
          refine am_getf 3 1 k_r3 (am_at hc_M_fund 25 rfl) rfl (by decide) rfl (by decide) k_ok3 (Or.inl (tw 307 rfl rfl)) rfl ?_
          refine am_go cd_M_fund hc_M_fund 26 2 (pc' := 46) (L' := [some (.ref 40), some (.int (nI b)), some (.int m)]) (st' := [.int (nI b), .ref 41, .int (nI b), .ref 41]) rfl ?_
          refine am_iaload (b) (am_at hc_M_fund 28 rfl) rfl (Or.inl (by decide)) rfl (by show b < 5; omega) (Nat.le_of_ble_eq_true rfl) ?_
          rw [show d 41 b = cash b from h1 b hb5]
          refine am_go cd_M_fund hc_M_fund 29 2 (pc' := 49) (L' := [some (.ref 40), some (.int (nI b)), some (.int m)]) (st' := [.int (cash b + m), .int (nI b), .ref 41]) rfl ?_
          refine am_iastore (b) (am_at hc_M_fund 31 rfl) rfl (by decide) rfl (by show b < 5; omega) (Nat.le_of_ble_eq_true rfl) ?_
          refine am_go cd_M_fund hc_M_fund 32 1 (pc' := 51) (L' := [some (.ref 40), some (.int (nI b)), some (.int m)]) (st' := [.int 1]) rfl ?_
          exact am_iret (am_at hc_M_fund 33 rfl) rfl rfl ⟨rfl, rfl, rfl, h.cash, fM.u (by decide)⟩
        · skip
          have hno : ¬ fundOk cash esc (nI b) m := fun z => q4 (by have := z.2.2.2; rw [nI_cl (by omega)] at this; exact this)
          simp only [if_neg hno]
          refine am_go cd_M_fund hc_M_fund 22 1 (pc' := 39) (L' := [some (.ref 40), some (.int (nI b)), some (.int m)]) (st' := [.int 0]) rfl ?_
          exact am_iret (am_at hc_M_fund 23 rfl) rfl rfl ⟨rfl, rfl, rfl, h, fM.rf⟩
  · simp only [if_neg hb]
    refine am_if_eq 38 (am_at hc_M_fund 2 rfl) (by decide) (fun q1 => ?_) (fun q1 => absurd rfl q1)
    have hno : ¬ fundOk cash esc v m := fun z => hb z.1
    simp only [if_neg hno]
    refine am_go cd_M_fund hc_M_fund 22 1 (pc' := 39) (L' := [some (.ref 40), some (.int v), some (.int m)]) (st' := [.int 0]) rfl ?_
    exact am_iret (am_at hc_M_fund 23 rfl) rfl rfl ⟨rfl, rfl, rfl, h, fM.rf⟩
set_option maxHeartbeats 4000000 in
theorem c_M_deposit {l : Launch} {x : am_X} {e L : Nat} {d : am_D} {cash esc pd pt ow : Nat → Int32} {res : Nat → Int} {wt : Nat → Nat → Int} {T : Nat → Nat} {n : Nat} {se : Int32} {cl : Bool} (h : RM cash esc pd pt ow res wt T n se cl d) (v m : Int32) : cM l x (e + 1) L m_M_deposit [.ref 40, .int v, .int m] d (fun r d' => r = some (.int (if depOk cash cl v m then 1 else 0)) ∧ RM (if depOk cash cl v m then upd cash (cN v) (cash (cN v) - m) else cash) (if depOk cash cl v m then upd esc (cN v) (esc (cN v) + m) else esc) pd pt ow res wt T n se cl d' ∧ fM d d') := by
  obtain ⟨h1, h2, h3, h4, h5, h6, h7, h8, h9, h10⟩ := id h
  refine cM.go (by decide) (by simp [Value.category]) (Nat.le_of_ble_eq_true rfl) ?_
  refine am_go cd_M_deposit hc_M_deposit 0 1 (pc' := 1) (L' := [some (.ref 40), some (.int v), some (.int m)]) (st' := [.ref 40]) rfl ?_
  refine am_getf 3 0 k_r3 (am_at hc_M_deposit 1 rfl) rfl (by decide) rfl (by decide) k_ok3 (Or.inl (tw 306 rfl rfl)) (congrArg Value.int h10) ?_
  cases cl with
  | true =>
    simp only [bI_t]
    refine am_if_ne 29 (am_at hc_M_deposit 2 rfl) (by decide) (fun q0 => ?_) (fun q0 => absurd q0 (by decide))
    have hno : ¬ depOk cash true v m := fun z => by cases z.1
    simp only [if_neg hno]
    refine am_go cd_M_deposit hc_M_deposit 15 1 (pc' := 30) (L' := [some (.ref 40), some (.int v), some (.int m)]) (st' := [.int 0]) rfl ?_
    exact am_iret (am_at hc_M_deposit 16 rfl) rfl rfl ⟨rfl, rfl, rfl, h, fM.rf⟩
  | false =>
    simp only [bI_f]
    refine am_if_ne 29 (am_at hc_M_deposit 2 rfl) (by decide) (fun q0 => absurd rfl q0) (fun q0 => ?_)
    refine am_go cd_M_deposit hc_M_deposit 3 1 (pc' := 8) (L' := [some (.ref 40), some (.int v), some (.int m)]) (st' := [.int v]) rfl ?_
    refine cW.callS1 11 [.int (if isB v then 1 else 0)] (st := []) [.int v] (am_at hc_M_deposit 4 rfl) g_M_bidder (Or.inl (tw 368 rfl rfl)) (tw 369 rfl rfl) rfl rfl (Nat.le_of_ble_eq_true rfl) (c_mB v) rfl rfl ?_
    by_cases hb : isB v
    · simp only [if_pos hb]
      refine am_if_eq 29 (am_at hc_M_deposit 5 rfl) (by decide) (fun q1 => absurd q1 (by decide)) (fun q1 => ?_)
      refine am_go cd_M_deposit hc_M_deposit 6 2 (pc' := 16) (L' := [some (.ref 40), some (.int v), some (.int m)]) (st' := [.int 1, .int m]) rfl ?_
      refine am_icmp_lt 29 (am_at hc_M_deposit 8 rfl) (by decide) (fun q2 => ?_) (fun q2 => ?_)
      · skip
        have hno : ¬ depOk cash false v m := fun z => Int32.not_lt.mpr z.2.2.1 q2
        simp only [if_neg hno]
        refine am_go cd_M_deposit hc_M_deposit 15 1 (pc' := 30) (L' := [some (.ref 40), some (.int v), some (.int m)]) (st' := [.int 0]) rfl ?_
        exact am_iret (am_at hc_M_deposit 16 rfl) rfl rfl ⟨rfl, rfl, rfl, h, fM.rf⟩
      · skip
        obtain ⟨b, hb5, rfl⟩ := isB_of hb
        refine am_go cd_M_deposit hc_M_deposit 9 1 (pc' := 20) (L' := [some (.ref 40), some (.int (nI b)), some (.int m)]) (st' := [.ref 40]) rfl ?_
        refine am_getf 3 1 k_r3 (am_at hc_M_deposit 10 rfl) rfl (by decide) rfl (by decide) k_ok3 (Or.inl (tw 307 rfl rfl)) rfl ?_
        refine am_go cd_M_deposit hc_M_deposit 11 1 (pc' := 24) (L' := [some (.ref 40), some (.int (nI b)), some (.int m)]) (st' := [.int (nI b), .ref 41]) rfl ?_
        refine am_iaload (b) (am_at hc_M_deposit 12 rfl) rfl (Or.inl (by decide)) rfl (by show b < 5; omega) (Nat.le_of_ble_eq_true rfl) ?_
        rw [show d 41 b = cash b from h1 b hb5]
        refine am_go cd_M_deposit hc_M_deposit 13 1 (pc' := 26) (L' := [some (.ref 40), some (.int (nI b)), some (.int m)]) (st' := [.int m, .int (cash b)]) rfl ?_
        refine am_icmp_ge 31 (am_at hc_M_deposit 14 rfl) (by decide) (fun q4 => ?_) (fun q4 => ?_)
        · have hok : depOk cash false (nI b) m := ⟨rfl, hb, Int32.not_lt.mp q2, by rw [nI_cl (by omega)]; exact q4⟩
          simp only [if_pos hok, nI_cl (show b < 1000000 by omega)]
          refine am_go cd_M_deposit hc_M_deposit 17 1 (pc' := 32) (L' := [some (.ref 40), some (.int (nI b)), some (.int m)]) (st' := [.ref 40]) rfl ?_
          refine am_getf 3 1 k_r3 (am_at hc_M_deposit 18 rfl) rfl (by decide) rfl (by decide) k_ok3 (Or.inl (tw 307 rfl rfl)) rfl ?_
          refine am_go cd_M_deposit hc_M_deposit 19 2 (pc' := 37) (L' := [some (.ref 40), some (.int (nI b)), some (.int m)]) (st' := [.int (nI b), .ref 41, .int (nI b), .ref 41]) rfl ?_
          refine am_iaload (b) (am_at hc_M_deposit 21 rfl) rfl (Or.inl (by decide)) rfl (by show b < 5; omega) (Nat.le_of_ble_eq_true rfl) ?_
          rw [show d 41 b = cash b from h1 b hb5]
          refine am_go cd_M_deposit hc_M_deposit 22 2 (pc' := 40) (L' := [some (.ref 40), some (.int (nI b)), some (.int m)]) (st' := [.int (cash b - m), .int (nI b), .ref 41]) rfl ?_
          refine am_iastore (b) (am_at hc_M_deposit 24 rfl) rfl (by decide) rfl (by show b < 5; omega) (Nat.le_of_ble_eq_true rfl) ?_
          refine am_go cd_M_deposit hc_M_deposit 25 1 (pc' := 42) (L' := [some (.ref 40), some (.int (nI b)), some (.int m)]) (st' := [.ref 40]) rfl ?_
          refine am_getf 3 2 k_r3 (am_at hc_M_deposit 26 rfl) rfl (by decide) rfl (by decide) k_ok3 (Or.inl (tw 308 rfl rfl)) rfl ?_
          refine am_go cd_M_deposit hc_M_deposit 27 2 (pc' := 47) (L' := [some (.ref 40), some (.int (nI b)), some (.int m)]) (st' := [.int (nI b), .ref 42, .int (nI b), .ref 42]) rfl ?_
          refine am_iaload (b) (am_at hc_M_deposit 29 rfl) rfl (Or.inl (by decide)) rfl (by show b < 5; omega) (Nat.le_of_ble_eq_true rfl) ?_
          rw [show am_u d 41 b (cash b - m) 42 b = esc b from (congrFun (am_u_ne 42 (by decide)) b).trans (h2 b hb5)]
          refine am_go cd_M_deposit hc_M_deposit 30 2 (pc' := 50) (L' := [some (.ref 40), some (.int (nI b)), some (.int m)]) (st' := [.int (esc b + m), .int (nI b), .ref 42]) rfl ?_
          refine am_iastore (b) (am_at hc_M_deposit 32 rfl) rfl (by decide) rfl (by show b < 5; omega) (Nat.le_of_ble_eq_true rfl) ?_
          refine am_go cd_M_deposit hc_M_deposit 33 1 (pc' := 52) (L' := [some (.ref 40), some (.int (nI b)), some (.int m)]) (st' := [.int 1]) rfl ?_
          exact am_iret (am_at hc_M_deposit 34 rfl) rfl rfl ⟨rfl, rfl, rfl, h.cash.esc, (fM.u (by decide)).tr (fM.u (by decide))⟩
        · skip
          have hno : ¬ depOk cash false (nI b) m := fun z => q4 (by have := z.2.2.2; rw [nI_cl (by omega)] at this; exact this)
          simp only [if_neg hno]
          refine am_go cd_M_deposit hc_M_deposit 15 1 (pc' := 30) (L' := [some (.ref 40), some (.int (nI b)), some (.int m)]) (st' := [.int 0]) rfl ?_
          exact am_iret (am_at hc_M_deposit 16 rfl) rfl rfl ⟨rfl, rfl, rfl, h, fM.rf⟩
    · simp only [if_neg hb]
      refine am_if_eq 29 (am_at hc_M_deposit 5 rfl) (by decide) (fun q1 => ?_) (fun q1 => absurd rfl q1)
      have hno : ¬ depOk cash false v m := fun z => hb z.2.1
      simp only [if_neg hno]
      refine am_go cd_M_deposit hc_M_deposit 15 1 (pc' := 30) (L' := [some (.ref 40), some (.int v), some (.int m)]) (st' := [.int 0]) rfl ?_
      exact am_iret (am_at hc_M_deposit 16 rfl) rfl rfl ⟨rfl, rfl, rfl, h, fM.rf⟩
set_option maxHeartbeats 4000000 in
theorem c_M_reserve {l : Launch} {x : am_X} {e L : Nat} {d : am_D} {cash esc pd pt ow : Nat → Int32} {res : Nat → Int} {wt : Nat → Nat → Int} {T : Nat → Nat} {n : Nat} {se : Int32} {cl : Bool} (h : RM cash esc pd pt ow res wt T n se cl d) (v m : Int32) : cM l x e L m_M_reserve [.ref 40, .int v, .int m] d (fun r d' => r = some (.int (if resOk cl v m then 1 else 0)) ∧ RM cash esc pd pt ow (if resOk cl v m then (fun j => if j = cN v then m.toInt else res j) else res) wt T n se cl d' ∧ fM d d') := by
  obtain ⟨h1, h2, h3, h4, h5, h6, h7, h8, h9, h10⟩ := id h
  refine cM.go (by decide) (by simp [Value.category]) (Nat.le_of_ble_eq_true rfl) ?_
  refine am_go cd_M_reserve hc_M_reserve 0 1 (pc' := 1) (L' := [some (.ref 40), some (.int v), some (.int m)]) (st' := [.ref 40]) rfl ?_
  refine am_getf 3 0 k_r3 (am_at hc_M_reserve 1 rfl) rfl (by decide) rfl (by decide) k_ok3 (Or.inl (tw 306 rfl rfl)) (congrArg Value.int h10) ?_
  cases cl with
  | true =>
    simp only [bI_t]
    refine am_if_ne 27 (am_at hc_M_reserve 2 rfl) (by decide) (fun q0 => ?_) (fun q0 => absurd q0 (by decide))
    have hno : ¬ resOk true v m := fun z => by cases z.1
    simp only [if_neg hno]
    refine am_go cd_M_reserve hc_M_reserve 13 1 (pc' := 28) (L' := [some (.ref 40), some (.int v), some (.int m)]) (st' := [.int 0]) rfl ?_
    exact am_iret (am_at hc_M_reserve 14 rfl) rfl rfl ⟨rfl, rfl, rfl, h, fM.rf⟩
  | false =>
    simp only [bI_f]
    refine am_if_ne 27 (am_at hc_M_reserve 2 rfl) (by decide) (fun q0 => absurd rfl q0) (fun q0 => ?_)
    refine am_go cd_M_reserve hc_M_reserve 3 1 (pc' := 8) (L' := [some (.ref 40), some (.int v), some (.int m)]) (st' := [.int v]) rfl ?_
    refine am_if_lt 27 (am_at hc_M_reserve 4 rfl) (by decide) (fun qa => ?_) (fun qa => ?_)
    · skip
      have hno : ¬ resOk false v m := fun z => Int32.not_lt.mpr z.2.1.1 qa
      simp only [if_neg hno]
      refine am_go cd_M_reserve hc_M_reserve 13 1 (pc' := 28) (L' := [some (.ref 40), some (.int v), some (.int m)]) (st' := [.int 0]) rfl ?_
      exact am_iret (am_at hc_M_reserve 14 rfl) rfl rfl ⟨rfl, rfl, rfl, h, fM.rf⟩
    · skip
      refine am_go cd_M_reserve hc_M_reserve 5 2 (pc' := 13) (L' := [some (.ref 40), some (.int v), some (.int m)]) (st' := [.int 5, .int v]) rfl ?_
      refine am_icmp_gt 27 (am_at hc_M_reserve 7 rfl) (by decide) (fun qb => ?_) (fun qb => ?_)
      · skip
        have hno : ¬ resOk false v m := fun z => Int32.not_lt.mpr ((le5_lt6 v).mpr z.2.1.2) qb
        simp only [if_neg hno]
        refine am_go cd_M_reserve hc_M_reserve 13 1 (pc' := 28) (L' := [some (.ref 40), some (.int v), some (.int m)]) (st' := [.int 0]) rfl ?_
        exact am_iret (am_at hc_M_reserve 14 rfl) rfl rfl ⟨rfl, rfl, rfl, h, fM.rf⟩
      · have hb : isI v := ⟨Int32.not_lt.mp qa, (le5_lt6 v).mp (Int32.not_lt.mp qb)⟩
        refine am_go cd_M_reserve hc_M_reserve 8 1 (pc' := 17) (L' := [some (.ref 40), some (.int v), some (.int m)]) (st' := [.int m]) rfl ?_
        refine am_if_lt 27 (am_at hc_M_reserve 9 rfl) (by decide) (fun q2 => ?_) (fun q2 => ?_)
        · skip
          have hno : ¬ resOk false v m := fun z => Int32.not_lt.mpr z.2.2.1 q2
          simp only [if_neg hno]
          refine am_go cd_M_reserve hc_M_reserve 13 1 (pc' := 28) (L' := [some (.ref 40), some (.int v), some (.int m)]) (st' := [.int 0]) rfl ?_
          exact am_iret (am_at hc_M_reserve 14 rfl) rfl rfl ⟨rfl, rfl, rfl, h, fM.rf⟩
        · skip
          refine am_go cd_M_reserve hc_M_reserve 10 2 (pc' := 24) (L' := [some (.ref 40), some (.int v), some (.int m)]) (st' := [.int 999, .int m]) rfl ?_
          refine am_icmp_le 29 (am_at hc_M_reserve 12 rfl) (by decide) (fun q4 => ?_) (fun q4 => ?_)
          · have hok : resOk false v m := ⟨rfl, hb, Int32.not_lt.mp q2, q4⟩
            simp only [if_pos hok]
            obtain ⟨b, hb5, rfl⟩ := isI_of hb
            simp only [nI_cl (show b < 1000000 by omega)]
            have hm : m = zI m.toInt := zI_of m
            have hm0 : 0 ≤ m.toInt := by have := Int32.le_iff_toInt_le.mp hok.2.2.1; simpa using this
            have hm9 : m.toInt ≤ 999 := by have := Int32.le_iff_toInt_le.mp hok.2.2.2; exact this
            refine am_go cd_M_reserve hc_M_reserve 15 1 (pc' := 30) (L' := [some (.ref 40), some (.int (nI b)), some (.int m)]) (st' := [.ref 40]) rfl ?_
            refine am_getf 3 4 k_r3 (am_at hc_M_reserve 16 rfl) rfl (by decide) rfl (by decide) k_ok3 (Or.inl (tw 310 rfl rfl)) rfl ?_
            refine am_go cd_M_reserve hc_M_reserve 17 2 (pc' := 35) (L' := [some (.ref 40), some (.int (nI b)), some (.int m)]) (st' := [.int m, .int (nI b), .ref 43]) rfl ?_
            refine am_iastore (b) (am_at hc_M_reserve 19 rfl) rfl (by decide) rfl (by show b < 6; omega) (Nat.le_of_ble_eq_true rfl) ?_
            refine am_go cd_M_reserve hc_M_reserve 20 1 (pc' := 37) (L' := [some (.ref 40), some (.int (nI b)), some (.int m)]) (st' := [.int 1]) rfl ?_
            refine am_iret (am_at hc_M_reserve 21 rfl) rfl rfl ⟨rfl, rfl, rfl, ?_, fM.u (by decide)⟩
            have hh := h.res (k := b) (v := m.toInt) ⟨hm0, hm9⟩
            rw [← hm] at hh
            exact hh
          · skip
            have hno : ¬ resOk false v m := fun z => q4 z.2.2.2
            simp only [if_neg hno]
            refine am_go cd_M_reserve hc_M_reserve 13 1 (pc' := 28) (L' := [some (.ref 40), some (.int v), some (.int m)]) (st' := [.int 0]) rfl ?_
            exact am_iret (am_at hc_M_reserve 14 rfl) rfl rfl ⟨rfl, rfl, rfl, h, fM.rf⟩
set_option maxHeartbeats 4000000 in
theorem c_M_drop {l : Launch} {x : am_X} {e L : Nat} {d : am_D} {cash esc pd pt ow : Nat → Int32} {res : Nat → Int} {wt : Nat → Nat → Int} {T : Nat → Nat} {n : Nat} {se : Int32} {cl : Bool} (h : RM cash esc pd pt ow res wt T n se cl d) {b : Nat} (hb5 : b < 5) : cM l x e L m_M_drop [.ref 40, .int (nI b)] d (fun r d' => r = none ∧ RM cash esc pd (upd pt b 0) ow res (updw wt b (fun _ => 0)) T n se cl d' ∧ fM d d') := by
  obtain ⟨h1, h2, h3, h4, h5, h6, h7, h8, h9, h10⟩ := id h
  refine cM.go (by decide) (by simp [Value.category]) (Nat.le_of_ble_eq_true rfl) ?_
  refine am_go cd_M_drop hc_M_drop 0 1 (pc' := 1) (L' := [some (.ref 40), some (.int (nI b)), none]) (st' := [.ref 40]) rfl ?_
  refine am_getf 3 8 k_r3 (am_at hc_M_drop 1 rfl) rfl (by decide) rfl (by decide) k_ok3 (Or.inl (tw 314 rfl rfl)) rfl ?_
  refine am_go cd_M_drop hc_M_drop 2 2 (pc' := 6) (L' := [some (.ref 40), some (.int (nI b)), none]) (st' := [.int 0, .int (nI b), .ref 46]) rfl ?_
  refine am_iastore (b) (am_at hc_M_drop 4 rfl) rfl (by decide) rfl (by show b < 5; omega) (Nat.le_of_ble_eq_true rfl) ?_
  refine am_go cd_M_drop hc_M_drop 5 2 (pc' := 9) (L' := [some (.ref 40), some (.int (nI b)), some (.int 0)]) (st' := []) rfl ?_
  have hpt := h.pt (k := b) (v := 0)
  generalize hD : am_u d 46 b 0 = D at hpt ⊢
  have hfD : fM d D := by rw [← hD]; exact fM.u (by decide)
  have loop : ∀ q j, j + q = 64 → cW l x e L m_M_drop 9 [some (.ref 40), some (.int (nI b)), some (.int (nI j))] [] (am_sg D 45 (64 * b) j (fun _ => zI 0)) (fun r d' => r = none ∧ RM cash esc pd (upd pt b 0) ow res (updw wt b (fun _ => 0)) T n se cl d' ∧ fM d d') := by
    intro q
    induction q with
    | zero =>
      intro j hj
      refine am_go cd_M_drop hc_M_drop 7 2 (pc' := 12) (L' := [some (.ref 40), some (.int (nI b)), some (.int (nI j))]) (st' := [.int 64, .int (nI j)]) rfl ?_
      refine am_icmp_ge 33 (am_at hc_M_drop 9 rfl) (by decide) (fun q1 => ?_) (fun q1 => absurd (nI_le (a := 64) (b := j) (by omega) (by omega)) q1)
      rw [show j = 64 by omega]
      exact am_vret (am_at hc_M_drop 21 rfl) rfl ⟨rfl, rfl, rfl, hpt.wt hb5 tb_0 (fun _ _ => rfl), hfD.tr (fM.s (by decide))⟩
    | succ q ih =>
      intro j hj
      refine am_go cd_M_drop hc_M_drop 7 2 (pc' := 12) (L' := [some (.ref 40), some (.int (nI b)), some (.int (nI j))]) (st' := [.int 64, .int (nI j)]) rfl ?_
      refine am_icmp_ge 33 (am_at hc_M_drop 9 rfl) (by decide) (fun q1 => absurd q1 (nI_ge (a := j) (b := 64) (by omega) (by omega))) (fun q1 => ?_)
      refine am_go cd_M_drop hc_M_drop 10 1 (pc' := 16) (L' := [some (.ref 40), some (.int (nI b)), some (.int (nI j))]) (st' := [.ref 40]) rfl ?_
      refine am_getf 3 7 k_r3 (am_at hc_M_drop 11 rfl) rfl (by decide) rfl (by decide) k_ok3 (Or.inl (tw 313 rfl rfl)) rfl ?_
      refine am_go cd_M_drop hc_M_drop 12 6 (pc' := 26) (L' := [some (.ref 40), some (.int (nI b)), some (.int (nI j))]) (st' := [.int 0, .int ((64 * nI b) + nI j), .ref 45]) rfl ?_
      refine am_iastore (64 * b + j) (am_at hc_M_drop 18 rfl) rfl (by decide) (by rw [← nI_add, ← pk_mul]; rfl) (by show 64 * b + j < 320; omega) (Nat.le_of_ble_eq_true rfl) ?_
      refine am_go cd_M_drop hc_M_drop 19 2 (pc' := 9) (L' := [some (.ref 40), some (.int (nI b)), some (.int (nI j + 1))]) (st' := []) rfl ?_
      have e1 := am_sg_s D 45 (64 * b) j (fun _ => zI 0)
      rw [nI_1]
      rw [show am_u (am_sg D 45 (64 * b) j (fun _ => zI 0)) 45 (64 * b + j) 0 = am_sg D 45 (64 * b) (j + 1) (fun _ => zI 0) from e1]
      exact ih (j + 1) (by omega)
  have h0 := loop 64 0 rfl
  rw [am_sg_0] at h0
  exact h0
set_option maxHeartbeats 4000000 in
theorem c_M_withdraw {l : Launch} {x : am_X} {e L : Nat} {d : am_D} {cash esc pd pt ow : Nat → Int32} {res : Nat → Int} {wt : Nat → Nat → Int} {T : Nat → Nat} {n : Nat} {se : Int32} {cl : Bool} (h : RM cash esc pd pt ow res wt T n se cl d) (v : Int32) : cM l x (e + 1) L m_M_withdraw [.ref 40, .int v] d (fun r d' => r = some (.int (if opB cl v then 1 else 0)) ∧ RM (if opB cl v then upd cash (cN v) (cash (cN v) + esc (cN v)) else cash) (if opB cl v then upd esc (cN v) 0 else esc) pd (if opB cl v then upd pt (cN v) 0 else pt) ow res (if opB cl v then updw wt (cN v) (fun _ => 0) else wt) T n se cl d' ∧ fM d d') := by
  obtain ⟨h1, h2, h3, h4, h5, h6, h7, h8, h9, h10⟩ := id h
  refine cM.go (by decide) (by simp [Value.category]) (Nat.le_of_ble_eq_true rfl) ?_
  refine am_go cd_M_withdraw hc_M_withdraw 0 1 (pc' := 1) (L' := [some (.ref 40), some (.int v)]) (st' := [.ref 40]) rfl ?_
  refine am_getf 3 0 k_r3 (am_at hc_M_withdraw 1 rfl) rfl (by decide) rfl (by decide) k_ok3 (Or.inl (tw 306 rfl rfl)) (congrArg Value.int h10) ?_
  cases cl with
  | true =>
    simp only [bI_t]
    refine am_if_ne 14 (am_at hc_M_withdraw 2 rfl) (by decide) (fun q0 => ?_) (fun q0 => absurd q0 (by decide))
    have hno : ¬ opB true v := fun z => by cases z.1
    simp only [if_neg hno]
    refine am_go cd_M_withdraw hc_M_withdraw 6 1 (pc' := 15) (L' := [some (.ref 40), some (.int v)]) (st' := [.int 0]) rfl ?_
    exact am_iret (am_at hc_M_withdraw 7 rfl) rfl rfl ⟨rfl, rfl, rfl, h, fM.rf⟩
  | false =>
    simp only [bI_f]
    refine am_if_ne 14 (am_at hc_M_withdraw 2 rfl) (by decide) (fun q0 => absurd rfl q0) (fun q0 => ?_)
    refine am_go cd_M_withdraw hc_M_withdraw 3 1 (pc' := 8) (L' := [some (.ref 40), some (.int v)]) (st' := [.int v]) rfl ?_
    refine cW.callS1 11 [.int (if isB v then 1 else 0)] (st := []) [.int v] (am_at hc_M_withdraw 4 rfl) g_M_bidder (Or.inl (tw 368 rfl rfl)) (tw 369 rfl rfl) rfl rfl (Nat.le_of_ble_eq_true rfl) (c_mB v) rfl rfl ?_
    by_cases hb : isB v
    · simp only [if_pos hb]
      refine am_if_ne 16 (am_at hc_M_withdraw 5 rfl) (by decide) (fun q1 => ?_) (fun q1 => absurd q1 (by decide))
      have hok : opB false v := ⟨rfl, hb⟩
      simp only [if_pos hok]
      obtain ⟨b, hb5, rfl⟩ := isB_of hb
      simp only [nI_cl (show b < 1000000 by omega)]
      refine am_go cd_M_withdraw hc_M_withdraw 8 2 (pc' := 18) (L' := [some (.ref 40), some (.int (nI b))]) (st' := [.int (nI b), .ref 40]) rfl ?_
      refine cW.callV (st := []) [.int (nI b)] (am_at hc_M_withdraw 10 rfl) g_M_drop (Or.inl (tw 381 rfl rfl)) (tw 383 rfl rfl) (tp 18 rfl rfl) 3 k_r3 rfl (by decide) rfl rfl rfl rfl (Nat.le_of_ble_eq_true rfl) (c_M_drop h hb5) ?_
      rintro _ d1 ⟨rfl, hA, hf⟩
      show cW _ _ (e + 1) _ m_M_withdraw 21 [some (.ref 40), some (.int (nI b))] [] _ _
      refine am_go cd_M_withdraw hc_M_withdraw 11 1 (pc' := 22) (L' := [some (.ref 40), some (.int (nI b))]) (st' := [.ref 40]) rfl ?_
      refine am_getf 3 1 k_r3 (am_at hc_M_withdraw 12 rfl) rfl (by decide) rfl (by decide) k_ok3 (Or.inl (tw 307 rfl rfl)) rfl ?_
      refine am_go cd_M_withdraw hc_M_withdraw 13 2 (pc' := 27) (L' := [some (.ref 40), some (.int (nI b))]) (st' := [.int (nI b), .ref 41, .int (nI b), .ref 41]) rfl ?_
      refine am_iaload (b) (am_at hc_M_withdraw 15 rfl) rfl (Or.inl (by decide)) rfl (by show b < 5; omega) (Nat.le_of_ble_eq_true rfl) ?_
      rw [show d1 41 b = cash b from hA.1 b hb5]
      refine am_go cd_M_withdraw hc_M_withdraw 16 1 (pc' := 29) (L' := [some (.ref 40), some (.int (nI b))]) (st' := [.ref 40, .int (cash b), .int (nI b), .ref 41]) rfl ?_
      refine am_getf 3 2 k_r3 (am_at hc_M_withdraw 17 rfl) rfl (by decide) rfl (by decide) k_ok3 (Or.inl (tw 308 rfl rfl)) rfl ?_
      refine am_go cd_M_withdraw hc_M_withdraw 18 1 (pc' := 33) (L' := [some (.ref 40), some (.int (nI b))]) (st' := [.int (nI b), .ref 42, .int (cash b), .int (nI b), .ref 41]) rfl ?_
      refine am_iaload (b) (am_at hc_M_withdraw 19 rfl) rfl (Or.inl (by decide)) rfl (by show b < 5; omega) (Nat.le_of_ble_eq_true rfl) ?_
      rw [show d1 42 b = esc b from hA.2.1 b hb5]
      refine am_go cd_M_withdraw hc_M_withdraw 20 1 (pc' := 35) (L' := [some (.ref 40), some (.int (nI b))]) (st' := [.int (cash b + esc b), .int (nI b), .ref 41]) rfl ?_
      refine am_iastore (b) (am_at hc_M_withdraw 21 rfl) rfl (by decide) rfl (by show b < 5; omega) (Nat.le_of_ble_eq_true rfl) ?_
      refine am_go cd_M_withdraw hc_M_withdraw 22 1 (pc' := 37) (L' := [some (.ref 40), some (.int (nI b))]) (st' := [.ref 40]) rfl ?_
      refine am_getf 3 2 k_r3 (am_at hc_M_withdraw 23 rfl) rfl (by decide) rfl (by decide) k_ok3 (Or.inl (tw 308 rfl rfl)) rfl ?_
      refine am_go cd_M_withdraw hc_M_withdraw 24 2 (pc' := 42) (L' := [some (.ref 40), some (.int (nI b))]) (st' := [.int 0, .int (nI b), .ref 42]) rfl ?_
      refine am_iastore (b) (am_at hc_M_withdraw 26 rfl) rfl (by decide) rfl (by show b < 5; omega) (Nat.le_of_ble_eq_true rfl) ?_
      refine am_go cd_M_withdraw hc_M_withdraw 27 1 (pc' := 44) (L' := [some (.ref 40), some (.int (nI b))]) (st' := [.int 1]) rfl ?_
      exact am_iret (am_at hc_M_withdraw 28 rfl) rfl rfl ⟨rfl, rfl, rfl, hA.cash.esc, (hf.tr (fM.u (by decide))).tr (fM.u (by decide))⟩
    · simp only [if_neg hb]
      refine am_if_ne 16 (am_at hc_M_withdraw 5 rfl) (by decide) (fun q1 => absurd rfl q1) (fun q1 => ?_)
      have hno : ¬ opB false v := fun z => hb z.2
      simp only [if_neg hno]
      refine am_go cd_M_withdraw hc_M_withdraw 6 1 (pc' := 15) (L' := [some (.ref 40), some (.int v)]) (st' := [.int 0]) rfl ?_
      exact am_iret (am_at hc_M_withdraw 7 rfl) rfl rfl ⟨rfl, rfl, rfl, h, fM.rf⟩
