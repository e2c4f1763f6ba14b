/-- the class's cells hold this state of the house -/
def RA (cash esc pd pt ow : Nat → Int32) (res : Nat → Int) (wt : Nat → Nat → Int) (T : Nat → Nat) (n : Nat) (se : Int32) (cl : Bool) (d : am_D) : Prop :=
  (∀ b, b < 5 → d 1 b = cash b) ∧ (∀ b, b < 5 → d 2 b = esc b) ∧ (∀ b, b < 5 → d 5 b = pd b) ∧ (∀ b, b < 5 → d 6 b = pt b) ∧ (∀ j, j < 6 → d 4 j = ow j) ∧ (∀ j, j < 6 → d 3 j = zI (res j) ∧ 0 ≤ res j ∧ res j ≤ 999) ∧ (∀ b, b < 5 → tb_ok (wt b) ∧ ∀ s, s < 64 → d (8 + b) s = zI (wt b s)) ∧ rd_ok d T n ∧ d 0 9 = se ∧ d 0 10 = bI cl ∧ ∀ s, s < 64 → d 37 s = zI (rk s)
/-- the reference's cells hold it -/
def RM (cash esc pd pt ow : Nat → Int32) (res : Nat → Int) (wt : Nat → Nat → Int) (T : Nat → Nat) (n : Nat) (se : Int32) (cl : Bool) (d : am_D) : Prop :=
  (∀ b, b < 5 → d 41 b = cash b) ∧ (∀ b, b < 5 → d 42 b = esc b) ∧ (∀ b, b < 5 → d 52 b = pd b) ∧ (∀ b, b < 5 → d 46 b = pt b) ∧ (∀ j, j < 6 → d 51 j = ow j) ∧ (∀ j, j < 6 → d 43 j = zI (res j) ∧ 0 ≤ res j ∧ res j ≤ 999) ∧ (∀ b, b < 5 → tb_ok (wt b) ∧ ∀ s, s < 64 → d 45 (64 * b + s) = zI (wt b s)) ∧ (d 40 5 = nI n ∧ n ≤ 40 ∧ ∀ j, j < n → d 44 j = nI (T j) ∧ T j < 128) ∧ d 40 3 = se ∧ d 40 0 = bI cl
def fA (d d' : am_D) : Prop := ∀ a, 40 ≤ a → d' a = d a
def fM (d d' : am_D) : Prop := ∀ a, a < 40 ∨ 53 ≤ a → d' a = d a
theorem fA.rf {d : am_D} : fA d d := fun _ _ => rfl
theorem fM.rf {d : am_D} : fM d d := fun _ _ => rfl
theorem fA.tr {d d1 d2 : am_D} (h : fA d d1) (h2 : fA d1 d2) : fA d d2 := fun a ha => (h2 a ha).trans (h a ha)
theorem fM.tr {d d1 d2 : am_D} (h : fM d d1) (h2 : fM d1 d2) : fM d d2 := fun a ha => (h2 a ha).trans (h a ha)
theorem fA.u {d : am_D} {a j : Nat} {v : Int32} (h : a < 40) : fA d (am_u d a j v) := fun b hb => am_u_ne b (by omega)
theorem fM.u {d : am_D} {a j : Nat} {v : Int32} (h : 40 ≤ a ∧ a < 53) : fM d (am_u d a j v) := fun b hb => am_u_ne b (by omega)
theorem fA.t {d : am_D} {a k : Nat} {F : Nat → Int32} (h : a < 40) : fA d (am_tb d a k F) := fun b hb => am_tb_ne (by omega)
theorem fM.t {d : am_D} {a k : Nat} {F : Nat → Int32} (h : 40 ≤ a ∧ a < 53) : fM d (am_tb d a k F) := fun b hb => am_tb_ne (by omega)
theorem RA.M {cash esc pd pt ow : Nat → Int32} {res : Nat → Int} {wt : Nat → Nat → Int} {T : Nat → Nat} {n : Nat} {se : Int32} {cl : Bool} {d d' : am_D} (h : RM cash esc pd pt ow res wt T n se cl d) (hf : fA d d') : RM cash esc pd pt ow res wt T n se cl d' := by
  unfold RM at h ⊢
  rw [hf 40 (by decide), hf 41 (by decide), hf 42 (by decide), hf 43 (by decide), hf 44 (by decide), hf 45 (by decide), hf 46 (by decide), hf 51 (by decide), hf 52 (by decide)]
  exact h
theorem RM.A {cash esc pd pt ow : Nat → Int32} {res : Nat → Int} {wt : Nat → Nat → Int} {T : Nat → Nat} {n : Nat} {se : Int32} {cl : Bool} {d d' : am_D} (h : RA cash esc pd pt ow res wt T n se cl d) (hf : fM d d') : RA cash esc pd pt ow res wt T n se cl d' := by
  obtain ⟨h1, h2, h3, h4, h5, h6, h7, h8, h9, h10, h11⟩ := h
  refine ⟨?_, ?_, ?_, ?_, ?_, ?_, fun b hb => ⟨(h7 b hb).1, fun s hs => ?_⟩, h8.to ?_ ?_, ?_, ?_, ?_⟩
  · rw [hf 1 (by decide)]; exact h1
  · rw [hf 2 (by decide)]; exact h2
  · rw [hf 5 (by decide)]; exact h3
  · rw [hf 6 (by decide)]; exact h4
  · rw [hf 4 (by decide)]; exact h5
  · rw [hf 3 (by decide)]; exact h6
  · rw [hf (8 + b) (by omega)]; exact (h7 b hb).2 s hs
  · rw [hf 13 (by decide)]
  · exact hf 14 (by decide)
  · rw [hf 0 (by decide)]; exact h9
  · rw [hf 0 (by decide)]; exact h10
  · rw [hf 37 (by decide)]; exact h11
theorem upd_at {f : Nat → Int32} {k : Nat} {v : Int32} {d : am_D} {a N : Nat} (h : ∀ b, b < N → d a b = f b) : ∀ b, b < N → am_u d a k v a b = upd f k v b := fun b hb => by
  unfold am_u upd
  by_cases z : b = k
  · simp [z]
  · simp [z, h b hb]
theorem RA.cash {cash esc pd pt ow : Nat → Int32} {res : Nat → Int} {wt : Nat → Nat → Int} {T : Nat → Nat} {n : Nat} {se : Int32} {cl : Bool} {d : am_D} {k : Nat} {v : Int32} (h : RA cash esc pd pt ow res wt T n se cl d) : RA (upd cash k v) esc pd pt ow res wt T n se cl (am_u d 1 k v) := by
  obtain ⟨h1, h2, h3, h4, h5, h6, h7, h8, h9, h10, h11⟩ := h
  exact ⟨upd_at h1, fun b hb => by rw [am_u_ne 2 (by decide)]; exact h2 b hb, fun b hb => by rw [am_u_ne 5 (by decide)]; exact h3 b hb, fun b hb => by rw [am_u_ne 6 (by decide)]; exact h4 b hb, fun b hb => by rw [am_u_ne 4 (by decide)]; exact h5 b hb, fun b hb => by rw [am_u_ne 3 (by decide)]; exact h6 b hb, fun b hb => ⟨(h7 b hb).1, fun s hs => by rw [am_u_ne (8 + b) (by omega)]; exact (h7 b hb).2 s hs⟩, h8.to (by rw [am_u_ne 13 (by decide)]) (am_u_ne 14 (by decide)), by rw [am_u_ne 0 (by decide)]; exact h9, by rw [am_u_ne 0 (by decide)]; exact h10, fun s hs => by rw [am_u_ne 37 (by decide)]; exact h11 s hs⟩
theorem RA.esc {cash esc pd pt ow : Nat → Int32} {res : Nat → Int} {wt : Nat → Nat → Int} {T : Nat → Nat} {n : Nat} {se : Int32} {cl : Bool} {d : am_D} {k : Nat} {v : Int32} (h : RA cash esc pd pt ow res wt T n se cl d) : RA cash (upd esc k v) pd pt ow res wt T n se cl (am_u d 2 k v) := by
  obtain ⟨h1, h2, h3, h4, h5, h6, h7, h8, h9, h10, h11⟩ := h
  exact ⟨fun b hb => by rw [am_u_ne 1 (by decide)]; exact h1 b hb, upd_at h2, fun b hb => by rw [am_u_ne 5 (by decide)]; exact h3 b hb, fun b hb => by rw [am_u_ne 6 (by decide)]; exact h4 b hb, fun b hb => by rw [am_u_ne 4 (by decide)]; exact h5 b hb, fun b hb => by rw [am_u_ne 3 (by decide)]; exact h6 b hb, fun b hb => ⟨(h7 b hb).1, fun s hs => by rw [am_u_ne (8 + b) (by omega)]; exact (h7 b hb).2 s hs⟩, h8.to (by rw [am_u_ne 13 (by decide)]) (am_u_ne 14 (by decide)), by rw [am_u_ne 0 (by decide)]; exact h9, by rw [am_u_ne 0 (by decide)]; exact h10, fun s hs => by rw [am_u_ne 37 (by decide)]; exact h11 s hs⟩
theorem RA.pd {cash esc pd pt ow : Nat → Int32} {res : Nat → Int} {wt : Nat → Nat → Int} {T : Nat → Nat} {n : Nat} {se : Int32} {cl : Bool} {d : am_D} {k : Nat} {v : Int32} (h : RA cash esc pd pt ow res wt T n se cl d) : RA cash esc (upd pd k v) pt ow res wt T n se cl (am_u d 5 k v) := by
  obtain ⟨h1, h2, h3, h4, h5, h6, h7, h8, h9, h10, h11⟩ := h
  exact ⟨fun b hb => by rw [am_u_ne 1 (by decide)]; exact h1 b hb, fun b hb => by rw [am_u_ne 2 (by decide)]; exact h2 b hb, upd_at h3, fun b hb => by rw [am_u_ne 6 (by decide)]; exact h4 b hb, fun b hb => by rw [am_u_ne 4 (by decide)]; exact h5 b hb, fun b hb => by rw [am_u_ne 3 (by decide)]; exact h6 b hb, fun b hb => ⟨(h7 b hb).1, fun s hs => by rw [am_u_ne (8 + b) (by omega)]; exact (h7 b hb).2 s hs⟩, h8.to (by rw [am_u_ne 13 (by decide)]) (am_u_ne 14 (by decide)), by rw [am_u_ne 0 (by decide)]; exact h9, by rw [am_u_ne 0 (by decide)]; exact h10, fun s hs => by rw [am_u_ne 37 (by decide)]; exact h11 s hs⟩
theorem RA.pt {cash esc pd pt ow : Nat → Int32} {res : Nat → Int} {wt : Nat → Nat → Int} {T : Nat → Nat} {n : Nat} {se : Int32} {cl : Bool} {d : am_D} {k : Nat} {v : Int32} (h : RA cash esc pd pt ow res wt T n se cl d) : RA cash esc pd (upd pt k v) ow res wt T n se cl (am_u d 6 k v) := by
  obtain ⟨h1, h2, h3, h4, h5, h6, h7, h8, h9, h10, h11⟩ := h
  exact ⟨fun b hb => by rw [am_u_ne 1 (by decide)]; exact h1 b hb, fun b hb => by rw [am_u_ne 2 (by decide)]; exact h2 b hb, fun b hb => by rw [am_u_ne 5 (by decide)]; exact h3 b hb, upd_at h4, fun b hb => by rw [am_u_ne 4 (by decide)]; exact h5 b hb, fun b hb => by rw [am_u_ne 3 (by decide)]; exact h6 b hb, fun b hb => ⟨(h7 b hb).1, fun s hs => by rw [am_u_ne (8 + b) (by omega)]; exact (h7 b hb).2 s hs⟩, h8.to (by rw [am_u_ne 13 (by decide)]) (am_u_ne 14 (by decide)), by rw [am_u_ne 0 (by decide)]; exact h9, by rw [am_u_ne 0 (by decide)]; exact h10, fun s hs => by rw [am_u_ne 37 (by decide)]; exact h11 s hs⟩
theorem RA.se {cash esc pd pt ow : Nat → Int32} {res : Nat → Int} {wt : Nat → Nat → Int} {T : Nat → Nat} {n : Nat} {se : Int32} {cl : Bool} {d : am_D} {v : Int32} (h : RA cash esc pd pt ow res wt T n se cl d) : RA cash esc pd pt ow res wt T n v cl (am_u d 0 9 v) := by
  obtain ⟨h1, h2, h3, h4, h5, h6, h7, h8, h9, h10, h11⟩ := h
  exact ⟨fun b hb => by rw [am_u_ne 1 (by decide)]; exact h1 b hb, fun b hb => by rw [am_u_ne 2 (by decide)]; exact h2 b hb, fun b hb => by rw [am_u_ne 5 (by decide)]; exact h3 b hb, fun b hb => by rw [am_u_ne 6 (by decide)]; exact h4 b hb, fun b hb => by rw [am_u_ne 4 (by decide)]; exact h5 b hb, fun b hb => by rw [am_u_ne 3 (by decide)]; exact h6 b hb, fun b hb => ⟨(h7 b hb).1, fun s hs => by rw [am_u_ne (8 + b) (by omega)]; exact (h7 b hb).2 s hs⟩, h8.to (by rw [am_u_ne 13 (by decide)]) (am_u_ne 14 (by decide)), am_u_i, (am_u_o (by decide)).trans h10, fun s hs => by rw [am_u_ne 37 (by decide)]; exact h11 s hs⟩
theorem RA.cl {cash esc pd pt ow : Nat → Int32} {res : Nat → Int} {wt : Nat → Nat → Int} {T : Nat → Nat} {n : Nat} {se : Int32} {cl : Bool} {d : am_D} {c : Bool} (h : RA cash esc pd pt ow res wt T n se cl d) : RA cash esc pd pt ow res wt T n se c (am_u d 0 10 (bI c)) := by
  obtain ⟨h1, h2, h3, h4, h5, h6, h7, h8, h9, h10, h11⟩ := h
  exact ⟨fun b hb => by rw [am_u_ne 1 (by decide)]; exact h1 b hb, fun b hb => by rw [am_u_ne 2 (by decide)]; exact h2 b hb, fun b hb => by rw [am_u_ne 5 (by decide)]; exact h3 b hb, fun b hb => by rw [am_u_ne 6 (by decide)]; exact h4 b hb, fun b hb => by rw [am_u_ne 4 (by decide)]; exact h5 b hb, fun b hb => by rw [am_u_ne 3 (by decide)]; exact h6 b hb, fun b hb => ⟨(h7 b hb).1, fun s hs => by rw [am_u_ne (8 + b) (by omega)]; exact (h7 b hb).2 s hs⟩, h8.to (by rw [am_u_ne 13 (by decide)]) (am_u_ne 14 (by decide)), (am_u_o (by decide)).trans h9, am_u_i, fun s hs => by rw [am_u_ne 37 (by decide)]; exact h11 s hs⟩
theorem RA.res {cash esc pd pt ow : Nat → Int32} {res : Nat → Int} {wt : Nat → Nat → Int} {T : Nat → Nat} {n : Nat} {se : Int32} {cl : Bool} {d : am_D} {k : Nat} {v : Int} (hv : 0 ≤ v ∧ v ≤ 999) (h : RA cash esc pd pt ow res wt T n se cl d) : RA cash esc pd pt ow (fun j => if j = k then v else res j) wt T n se cl (am_u d 3 k (zI v)) := by
  obtain ⟨h1, h2, h3, h4, h5, h6, h7, h8, h9, h10, h11⟩ := h
  exact ⟨fun b hb => by rw [am_u_ne 1 (by decide)]; exact h1 b hb, fun b hb => by rw [am_u_ne 2 (by decide)]; exact h2 b hb, fun b hb => by rw [am_u_ne 5 (by decide)]; exact h3 b hb, fun b hb => by rw [am_u_ne 6 (by decide)]; exact h4 b hb, fun b hb => by rw [am_u_ne 4 (by decide)]; exact h5 b hb, fun j hj => by
    dsimp only
    by_cases z : j = k
    · subst z; rw [am_u_i, if_pos rfl]; exact ⟨rfl, hv⟩
    · rw [am_u_o (fun q => z q.2), if_neg z]; exact h6 j hj, fun b hb => ⟨(h7 b hb).1, fun s hs => by rw [am_u_ne (8 + b) (by omega)]; exact (h7 b hb).2 s hs⟩, h8.to (by rw [am_u_ne 13 (by decide)]) (am_u_ne 14 (by decide)), by rw [am_u_ne 0 (by decide)]; exact h9, by rw [am_u_ne 0 (by decide)]; exact h10, fun s hs => by rw [am_u_ne 37 (by decide)]; exact h11 s hs⟩
theorem RA.off {cash esc pd pt ow : Nat → Int32} {res : Nat → Int} {wt : Nat → Nat → Int} {T : Nat → Nat} {n : Nat} {se : Int32} {cl : Bool} {d d' : am_D} (h : RA cash esc pd pt ow res wt T n se cl d) (h0 : ∀ j, j = 9 ∨ j = 10 → d' 0 j = d 0 j) (h1 : ∀ a, a = 1 ∨ a = 2 ∨ a = 3 ∨ a = 4 ∨ a = 5 ∨ a = 6 ∨ (8 ≤ a ∧ a < 13) ∨ a = 14 ∨ a = 37 → d' a = d a) (h13 : d' 13 1 = d 13 1) : RA cash esc pd pt ow res wt T n se cl d' := by
  obtain ⟨g1, g2, g3, g4, g5, g6, g7, g8, g9, g10, g11⟩ := h
  refine ⟨?_, ?_, ?_, ?_, ?_, ?_, fun b hb => ⟨(g7 b hb).1, fun s hs => ?_⟩, g8.to h13 (h1 14 (by decide)), ?_, ?_, ?_⟩
  · rw [h1 1 (by decide)]; exact g1
  · rw [h1 2 (by decide)]; exact g2
  · rw [h1 5 (by decide)]; exact g3
  · rw [h1 6 (by decide)]; exact g4
  · rw [h1 4 (by decide)]; exact g5
  · rw [h1 3 (by decide)]; exact g6
  · rw [h1 (8 + b) (by omega)]; exact (g7 b hb).2 s hs
  · rw [h0 9 (by decide)]; exact g9
  · rw [h0 10 (by decide)]; exact g10
  · rw [h1 37 (by decide)]; exact g11
def updw (wt : Nat → Nat → Int) (k : Nat) (v : Nat → Int) : Nat → Nat → Int := fun b => if b = k then v else wt b
theorem RA.wt {cash esc pd pt ow : Nat → Int32} {res : Nat → Int} {wt : Nat → Nat → Int} {T : Nat → Nat} {n : Nat} {se : Int32} {cl : Bool} {d : am_D} {k : Nat} {v : Nat → Int} {F : Nat → Int32} (hk : k < 5) (hv : tb_ok v) (hF : ∀ s, s < 64 → F s = zI (v s)) (h : RA cash esc pd pt ow res wt T n se cl d) : RA cash esc pd pt ow res (updw wt k v) T n se cl (am_tb d (8 + k) 64 F) := by
  obtain ⟨g1, g2, g3, g4, g5, g6, g7, g8, g9, g10, g11⟩ := h
  refine ⟨?_, ?_, ?_, ?_, ?_, ?_, fun b hb => ?_, g8.to (by rw [am_tb_ne (by omega)]) (am_tb_ne (by omega)), ?_, ?_, ?_⟩
  · rw [am_tb_ne (by omega)]; exact g1
  · rw [am_tb_ne (by omega)]; exact g2
  · rw [am_tb_ne (by omega)]; exact g3
  · rw [am_tb_ne (by omega)]; exact g4
  · rw [am_tb_ne (by omega)]; exact g5
  · rw [am_tb_ne (by omega)]; exact g6
  · unfold updw
    by_cases z : b = k
    · subst z
      rw [if_pos rfl]
      exact ⟨hv, fun s hs => (am_tb_lt hs).trans (hF s hs)⟩
    · rw [if_neg z]
      exact ⟨(g7 b hb).1, fun s hs => by rw [am_tb_ne (by omega)]; exact (g7 b hb).2 s hs⟩
  · rw [am_tb_ne (by omega)]; exact g9
  · rw [am_tb_ne (by omega)]; exact g10
  · rw [am_tb_ne (by omega)]; exact g11
theorem RA.ow {cash esc pd pt ow : Nat → Int32} {res : Nat → Int} {wt : Nat → Nat → Int} {T : Nat → Nat} {n : Nat} {se : Int32} {cl : Bool} {d : am_D} {F : Nat → Int32} (h : RA cash esc pd pt ow res wt T n se cl d) : RA cash esc pd pt F res wt T n se cl (am_tb d 4 6 F) := by
  obtain ⟨g1, g2, g3, g4, g5, g6, g7, g8, g9, g10, g11⟩ := h
  refine ⟨?_, ?_, ?_, ?_, fun j hj => am_tb_lt hj, ?_, fun b hb => ⟨(g7 b hb).1, fun s hs => ?_⟩, g8.to (by rw [am_tb_ne (by omega)]) (am_tb_ne (by omega)), ?_, ?_, ?_⟩
  · rw [am_tb_ne (by omega)]; exact g1
  · rw [am_tb_ne (by omega)]; exact g2
  · rw [am_tb_ne (by omega)]; exact g3
  · rw [am_tb_ne (by omega)]; exact g4
  · rw [am_tb_ne (by omega)]; exact g6
  · rw [am_tb_ne (by omega)]; exact (g7 b hb).2 s hs
  · rw [am_tb_ne (by omega)]; exact g9
  · rw [am_tb_ne (by omega)]; exact g10
  · rw [am_tb_ne (by omega)]; exact g11
/-- an empty text; a text with one more code -/
theorem RA.n0 {cash esc pd pt ow : Nat → Int32} {res : Nat → Int} {wt : Nat → Nat → Int} {T : Nat → Nat} {n : Nat} {se : Int32} {cl : Bool} {d : am_D} (h : RA cash esc pd pt ow res wt T n se cl d) : RA cash esc pd pt ow res wt T 0 se cl (am_u d 13 1 0) := by
  obtain ⟨g1, g2, g3, g4, g5, g6, g7, g8, g9, g10, g11⟩ := h
  exact ⟨fun b hb => by rw [am_u_ne 1 (by decide)]; exact g1 b hb, fun b hb => by rw [am_u_ne 2 (by decide)]; exact g2 b hb, fun b hb => by rw [am_u_ne 5 (by decide)]; exact g3 b hb, fun b hb => by rw [am_u_ne 6 (by decide)]; exact g4 b hb, fun b hb => by rw [am_u_ne 4 (by decide)]; exact g5 b hb, fun b hb => by rw [am_u_ne 3 (by decide)]; exact g6 b hb, fun b hb => ⟨(g7 b hb).1, fun s hs => by rw [am_u_ne (8 + b) (by omega)]; exact (g7 b hb).2 s hs⟩, ⟨am_u_i, by decide, fun j hj => by omega⟩, by rw [am_u_ne 0 (by decide)]; exact g9, by rw [am_u_ne 0 (by decide)]; exact g10, fun s hs => by rw [am_u_ne 37 (by decide)]; exact g11 s hs⟩
theorem RA.n1 {cash esc pd pt ow : Nat → Int32} {res : Nat → Int} {wt : Nat → Nat → Int} {T : Nat → Nat} {n : Nat} {se : Int32} {cl : Bool} {d : am_D} {c : Nat} (hn : n < 40) (hc : c < 128) (h : RA cash esc pd pt ow res wt T n se cl d) : RA cash esc pd pt ow res wt (fun j => if j = n then c else T j) (n + 1) se cl (am_u (am_u d 14 n (nI c)) 13 1 (nI (n + 1))) := by
  obtain ⟨g1, g2, g3, g4, g5, g6, g7, g8, g9, g10, g11⟩ := h
  refine ⟨fun b hb => by rw [am_u_ne 1 (by decide), am_u_ne 1 (by decide)]; exact g1 b hb, fun b hb => by rw [am_u_ne 2 (by decide), am_u_ne 2 (by decide)]; exact g2 b hb, fun b hb => by rw [am_u_ne 5 (by decide), am_u_ne 5 (by decide)]; exact g3 b hb, fun b hb => by rw [am_u_ne 6 (by decide), am_u_ne 6 (by decide)]; exact g4 b hb, fun b hb => by rw [am_u_ne 4 (by decide), am_u_ne 4 (by decide)]; exact g5 b hb, fun b hb => by rw [am_u_ne 3 (by decide), am_u_ne 3 (by decide)]; exact g6 b hb, fun b hb => ⟨(g7 b hb).1, fun s hs => by rw [am_u_ne (8 + b) (by omega), am_u_ne (8 + b) (by omega)]; exact (g7 b hb).2 s hs⟩, ⟨am_u_i, by omega, fun j hj => ?_⟩, by rw [am_u_ne 0 (by decide), am_u_ne 0 (by decide)]; exact g9, by rw [am_u_ne 0 (by decide), am_u_ne 0 (by decide)]; exact g10, fun s hs => by rw [am_u_ne 37 (by decide), am_u_ne 37 (by decide)]; exact g11 s hs⟩
  rw [am_u_ne 14 (by decide)]
  dsimp only
  by_cases z : j = n
  · subst z; rw [am_u_i, if_pos rfl]; exact ⟨rfl, hc⟩
  · rw [am_u_o (fun q => z q.2), if_neg z]; exact g8.2.2 j (by omega)
