/-! settings begin -/
theorem c_setBegin (d : Nat) {G : mG} {I : Nat → Nat → Int32} {L : Nat → Nat → Int64} {s : Nat} (v : Int32) (hS : LayS G s) : mcal mT (d + 2) 75 [.ref s, .int v] (G, I, L) = some (.inl none, (G, up2 (up2 (up2 (up2 (up2 (va_up (va_up (va_up I (s + 1) (pre 8 (fun _ => 16) (I (s + 1)))) (s + 2) (pre 24 (fun _ => 0) (I (s + 2)))) (s + 3) (pre 24 (fun _ => 0) (I (s + 3)))) s 3 0) s 4 0) s 5 0) s 6 0) s 10 v, L)) := by
  obtain ⟨a0, b1, c1, d1, b2, c2, d2, b3, c3, d3, -⟩ := uS hS
  rw [q_X7_begin_, e_X7_begin_0]
  simp only [gk_t a0, gr_t b1, mcV_of (c_fillI d 16 c1 d1 (by decide)), gr_t b2, mcV_of (c_fillI d 0 c2 d2 (by decide)), gr_t b3, mcV_of (c_fillI d 0 c3 d3 (by decide))]
  simp (disch := omega) only [up_ne]
