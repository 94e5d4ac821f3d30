/-! ===== the states of both behind a change ===== -/
def upf (f : Nat → Int) (i : Nat) (v : Int) : Nat → Int := fun k => if k = i then v else f k
theorem rd_upf {f : Nat → Int} {i : Nat} {v j : Int} (hi : i < 132) : rd (upf f i v) 132 j = if j = (i : Int) then v else rd f 132 j := by
  unfold rd upf
  by_cases z : 0 ≤ j ∧ j < ((132 : Nat) : Int)
  · rw [if_pos z]
    by_cases y : j = (i : Int)
    · rw [if_pos y, if_pos (by omega)]
    · rw [if_neg y, if_neg (by omega), if_pos z]
  · rw [if_neg z, if_neg (by omega), if_neg z]
theorem up_upf {h : HP} {a i : Nat} {v : Int} : up h a i v a = upf (h a) i v := by funext k; exact up_at
theorem wr_upf {h : HP} {a : Nat} {i v : Int} (h0 : 0 ≤ i) (h1 : i < 132) : wrA h a 132 i v a = upf (h a) i.toNat v := by rw [wrA_in h0 (by omega), up_upf]
theorem StC_val {f cs : Nat → Int} {m s : Nat} {x : Int} (H : StC f cs) (S : StOK cs) (hm : m < 8) (hs : s < 6) : StC (upf f (4 + 6 * m + s) x) (upf cs (24 + 6 * m + s) x) := by
  obtain ⟨⟨a0, a1, a2, a3⟩, b, c, d⟩ := H
  have l := S.2.2.2.1
  refine ⟨⟨?_, ?_, ?_, ?_⟩, fun m' s' p0 p1 q0 q1 => ?_, fun p k p0 p1 q0 q1 => ?_, fun t t0 t1 => ?_⟩
  · rw [rd_upf (by omega), rd_upf (by omega), if_neg (by omega), if_neg (by omega)]; exact a0
  · rw [rd_upf (by omega), rd_upf (by omega), if_neg (by omega), if_neg (by omega)]; exact a1
  · rw [rd_upf (by omega), rd_upf (by omega), if_neg (by omega), if_neg (by omega)]; exact a2
  · rw [rd_upf (by omega), rd_upf (by omega), if_neg (by omega), if_neg (by omega)]; exact a3
  · rw [rd_upf (by omega), rd_upf (by omega)]
    by_cases z : m' = (m : Int) ∧ s' = (s : Int)
    · rw [if_pos (by omega), if_pos (by omega)]
    · rw [if_neg (by omega), if_neg (by omega)]; exact b m' s' p0 p1 q0 q1
  · rw [rd_upf (by omega), rd_upf (by omega), if_neg (by omega), if_neg (by omega)]; exact c p k p0 p1 q0 q1
  · rw [rd_upf (by omega), if_neg (by omega)] at t1
    rw [rd_upf (by omega), rd_upf (by omega), rd_upf (by omega), rd_upf (by omega), if_neg (by omega), if_neg (by omega), if_neg (by omega), if_neg (by omega)]
    exact d t t0 t1
theorem StOK_val {cs : Nat → Int} {i : Nat} {x : Int} (S : StOK cs) (h0 : 24 ≤ i) (h1 : i < 72) (hx : 0 ≤ x ∧ x ≤ 3000) : StOK (upf cs i x) := by
  obtain ⟨a, b, c, d, e, f, g, k⟩ := S
  refine ⟨?_, ?_, ?_, ?_, fun j j0 j1 => ?_, fun j j0 j1 => ?_, fun j j0 j1 => ?_, fun j j0 j1 => ?_⟩
  · rw [rd_upf (by omega), if_neg (by omega)]; exact a
  · rw [rd_upf (by omega), if_neg (by omega)]; exact b
  · rw [rd_upf (by omega), if_neg (by omega)]; exact c
  · rw [rd_upf (by omega), if_neg (by omega)]; exact d
  · rw [rd_upf (by omega), if_neg (by omega)]; exact e j j0 j1
  · rw [rd_upf (by omega), if_neg (by omega)]; exact f j j0 j1
  · rw [rd_upf (by omega)]
    split
    · exact hx
    · exact g j j0 j1
  · rw [rd_upf (by omega), if_neg (by omega)]; exact k j j0 j1
theorem StC_ease {f cs : Nat → Int} {p k : Nat} {x : Int} (H : StC f cs) (S : StOK cs) (hp : p < 6) (hk : k < 10) : StC (upf f (52 + 10 * p + k) x) (upf cs (72 + 10 * p + k) x) := by
  obtain ⟨⟨a0, a1, a2, a3⟩, b, c, d⟩ := H
  have l := S.2.2.2.1
  refine ⟨⟨?_, ?_, ?_, ?_⟩, fun m' s' p0 p1 q0 q1 => ?_, fun p' k' p0 p1 q0 q1 => ?_, fun t t0 t1 => ?_⟩
  · rw [rd_upf (by omega), rd_upf (by omega), if_neg (by omega), if_neg (by omega)]; exact a0
  · rw [rd_upf (by omega), rd_upf (by omega), if_neg (by omega), if_neg (by omega)]; exact a1
  · rw [rd_upf (by omega), rd_upf (by omega), if_neg (by omega), if_neg (by omega)]; exact a2
  · rw [rd_upf (by omega), rd_upf (by omega), if_neg (by omega), if_neg (by omega)]; exact a3
  · rw [rd_upf (by omega), rd_upf (by omega), if_neg (by omega), if_neg (by omega)]; exact b m' s' p0 p1 q0 q1
  · rw [rd_upf (by omega), rd_upf (by omega)]
    by_cases z : p' = (p : Int) ∧ k' = (k : Int)
    · rw [if_pos (by omega), if_pos (by omega)]
    · rw [if_neg (by omega), if_neg (by omega)]; exact c p' k' p0 p1 q0 q1
  · rw [rd_upf (by omega), if_neg (by omega)] at t1
    rw [rd_upf (by omega), rd_upf (by omega), rd_upf (by omega), rd_upf (by omega), if_neg (by omega), if_neg (by omega), if_neg (by omega), if_neg (by omega)]
    exact d t t0 t1
theorem StOK_ease {cs : Nat → Int} {i : Nat} {x : Int} (S : StOK cs) (h0 : 72 ≤ i) (h1 : i < 132) (hx : -999 ≤ x ∧ x ≤ 999) : StOK (upf cs i x) := by
  obtain ⟨a, b, c, d, e, f, g, k⟩ := S
  refine ⟨?_, ?_, ?_, ?_, fun j j0 j1 => ?_, fun j j0 j1 => ?_, fun j j0 j1 => ?_, fun j j0 j1 => ?_⟩
  · rw [rd_upf (by omega), if_neg (by omega)]; exact a
  · rw [rd_upf (by omega), if_neg (by omega)]; exact b
  · rw [rd_upf (by omega), if_neg (by omega)]; exact c
  · rw [rd_upf (by omega), if_neg (by omega)]; exact d
  · rw [rd_upf (by omega), if_neg (by omega)]; exact e j j0 j1
  · rw [rd_upf (by omega), if_neg (by omega)]; exact f j j0 j1
  · rw [rd_upf (by omega), if_neg (by omega)]; exact g j j0 j1
  · rw [rd_upf (by omega)]
    split
    · exact hx
    · exact k j j0 j1
theorem StC_gauge {f cs : Nat → Int} {a b c : Int} (H : StC f cs) (S : StOK cs) : StC (upf (upf (upf f 0 a) 1 b) 2 c) (upf (upf (upf cs 0 a) 1 b) 2 c) := by
  obtain ⟨⟨a0, a1, a2, a3⟩, p, q, d⟩ := H
  have l := S.2.2.2.1
  have R : ∀ (g : Nat → Int) j, rd (upf (upf (upf g 0 a) 1 b) 2 c) 132 j = if j = 2 then c else if j = 1 then b else if j = 0 then a else rd g 132 j := fun g j => by
    rw [rd_upf (by omega), rd_upf (by omega), rd_upf (by omega)]; rfl
  refine ⟨⟨?_, ?_, ?_, ?_⟩, fun m' s' p0 p1 q0 q1 => ?_, fun p' k' p0 p1 q0 q1 => ?_, fun t t0 t1 => ?_⟩
  · rw [R, R, if_neg (by omega), if_neg (by omega), if_pos rfl, if_neg (by omega), if_neg (by omega), if_pos rfl]
  · rw [R, R, if_neg (by omega), if_pos rfl, if_neg (by omega), if_pos rfl]
  · rw [R, R, if_pos rfl, if_pos rfl]
  · rw [R, R, if_neg (by omega), if_neg (by omega), if_neg (by omega), if_neg (by omega), if_neg (by omega), if_neg (by omega)]; exact a3
  · rw [R, R, if_neg (by omega), if_neg (by omega), if_neg (by omega), if_neg (by omega), if_neg (by omega), if_neg (by omega)]; exact p m' s' p0 p1 q0 q1
  · rw [R, R, if_neg (by omega), if_neg (by omega), if_neg (by omega), if_neg (by omega), if_neg (by omega), if_neg (by omega)]; exact q p' k' p0 p1 q0 q1
  · rw [R, if_neg (by omega), if_neg (by omega), if_neg (by omega)] at t1
    rw [R, R, R, R, if_neg (by omega), if_neg (by omega), if_neg (by omega), if_neg (by omega), if_neg (by omega), if_neg (by omega), if_neg (by omega), if_neg (by omega), if_neg (by omega), if_neg (by omega), if_neg (by omega), if_neg (by omega)]
    exact d t t0 t1
theorem StOK_gauge {cs : Nat → Int} {a b c : Int} (S : StOK cs) (ha : 5 ≤ a ∧ a ≤ 99) (hb : 5 ≤ b ∧ b ≤ 99) (hc : 1 ≤ c ∧ c ≤ 99) : StOK (upf (upf (upf cs 0 a) 1 b) 2 c) := by
  obtain ⟨-, -, -, d, e, f, g, k⟩ := S
  have R : ∀ j, rd (upf (upf (upf cs 0 a) 1 b) 2 c) 132 j = if j = 2 then c else if j = 1 then b else if j = 0 then a else rd cs 132 j := fun j => by
    rw [rd_upf (by omega), rd_upf (by omega), rd_upf (by omega)]; rfl
  refine ⟨?_, ?_, ?_, ?_, fun j j0 j1 => ?_, fun j j0 j1 => ?_, fun j j0 j1 => ?_, fun j j0 j1 => ?_⟩
  · rw [R, if_neg (by omega), if_neg (by omega), if_pos rfl]; exact ha
  · rw [R, if_neg (by omega), if_pos rfl]; exact hb
  · rw [R, if_pos rfl]; exact hc
  · rw [R, if_neg (by omega), if_neg (by omega), if_neg (by omega)]; exact d
  · rw [R, if_neg (by omega), if_neg (by omega), if_neg (by omega)]; exact e j j0 j1
  · rw [R, if_neg (by omega), if_neg (by omega), if_neg (by omega)]; exact f j j0 j1
  · rw [R, if_neg (by omega), if_neg (by omega), if_neg (by omega)]; exact g j j0 j1
  · rw [R, if_neg (by omega), if_neg (by omega), if_neg (by omega)]; exact k j j0 j1
theorem StC_add {f cs : Nat → Int} {l : Nat} {c m : Int} (H : StC f cs) (hl : rd cs 132 3 = (l : Int)) (hl2 : l < 10) : StC (upf (upf (upf f (112 + 2 * l) c) (112 + 2 * l + 1) m) 3 ((l : Int) + 1)) (upf (upf (upf cs (4 + l) c) (14 + l) m) 3 ((l : Int) + 1)) := by
  obtain ⟨⟨a0, a1, a2, a3⟩, p, q, d⟩ := H
  have R : ∀ j, rd (upf (upf (upf f (112 + 2 * l) c) (112 + 2 * l + 1) m) 3 ((l : Int) + 1)) 132 j = if j = 3 then (l : Int) + 1 else if j = 112 + 2 * (l : Int) + 1 then m else if j = 112 + 2 * (l : Int) then c else rd f 132 j := fun j => by
    rw [rd_upf (by omega), rd_upf (by omega), rd_upf (by omega)]; rfl
  have T : ∀ j, rd (upf (upf (upf cs (4 + l) c) (14 + l) m) 3 ((l : Int) + 1)) 132 j = if j = 3 then (l : Int) + 1 else if j = 14 + (l : Int) then m else if j = 4 + (l : Int) then c else rd cs 132 j := fun j => by
    rw [rd_upf (by omega), rd_upf (by omega), rd_upf (by omega)]; rfl
  refine ⟨⟨?_, ?_, ?_, ?_⟩, fun m' s' p0 p1 q0 q1 => ?_, fun p' k' p0 p1 q0 q1 => ?_, fun t t0 t1 => ?_⟩
  · rw [R, T, if_neg (by omega), if_neg (by omega), if_neg (by omega), if_neg (by omega), if_neg (by omega), if_neg (by omega)]; exact a0
  · rw [R, T, if_neg (by omega), if_neg (by omega), if_neg (by omega), if_neg (by omega), if_neg (by omega), if_neg (by omega)]; exact a1
  · rw [R, T, if_neg (by omega), if_neg (by omega), if_neg (by omega), if_neg (by omega), if_neg (by omega), if_neg (by omega)]; exact a2
  · rw [R, T, if_pos rfl, if_pos rfl]
  · rw [R, T, if_neg (by omega), if_neg (by omega), if_neg (by omega), if_neg (by omega), if_neg (by omega), if_neg (by omega)]; exact p m' s' p0 p1 q0 q1
  · rw [R, T, if_neg (by omega), if_neg (by omega), if_neg (by omega), if_neg (by omega), if_neg (by omega), if_neg (by omega)]; exact q p' k' p0 p1 q0 q1
  · rw [T, if_pos rfl] at t1
    rw [R, R, T, T]
    by_cases z : t = (l : Int)
    · rw [if_neg (by omega), if_neg (by omega), if_pos (by omega), if_neg (by omega), if_neg (by omega), if_pos (by omega), if_neg (by omega), if_pos (by omega), if_neg (by omega), if_pos (by omega)]
      exact ⟨rfl, rfl⟩
    · rw [if_neg (by omega), if_neg (by omega), if_neg (by omega), if_neg (by omega), if_neg (by omega), if_neg (by omega), if_neg (by omega), if_neg (by omega), if_neg (by omega), if_neg (by omega), if_neg (by omega), if_neg (by omega)]
      exact d t t0 (by omega)
theorem StOK_add {cs : Nat → Int} {l : Nat} {c m : Int} (S : StOK cs) (hl : rd cs 132 3 = (l : Int)) (hl2 : l < 10) (hc : 0 ≤ c ∧ c ≤ 3) (hm : 0 ≤ m ∧ m ≤ 9999) : StOK (upf (upf (upf cs (4 + l) c) (14 + l) m) 3 ((l : Int) + 1)) := by
  obtain ⟨a, b, c', d, e, f, g, k⟩ := S
  have T : ∀ j, rd (upf (upf (upf cs (4 + l) c) (14 + l) m) 3 ((l : Int) + 1)) 132 j = if j = 3 then (l : Int) + 1 else if j = 14 + (l : Int) then m else if j = 4 + (l : Int) then c else rd cs 132 j := fun j => by
    rw [rd_upf (by omega), rd_upf (by omega), rd_upf (by omega)]; rfl
  refine ⟨?_, ?_, ?_, ?_, fun j j0 j1 => ?_, fun j j0 j1 => ?_, fun j j0 j1 => ?_, fun j j0 j1 => ?_⟩
  · rw [T, if_neg (by omega), if_neg (by omega), if_neg (by omega)]; exact a
  · rw [T, if_neg (by omega), if_neg (by omega), if_neg (by omega)]; exact b
  · rw [T, if_neg (by omega), if_neg (by omega), if_neg (by omega)]; exact c'
  · rw [T, if_pos rfl]; omega
  · rw [T, if_neg (by omega), if_neg (by omega)]
    split
    · exact hc
    · exact e j j0 j1
  · rw [T, if_neg (by omega)]
    split
    · exact hm
    · rw [if_neg (by omega)]; exact f j j0 j1
  · rw [T, if_neg (by omega), if_neg (by omega), if_neg (by omega)]; exact g j j0 j1
  · rw [T, if_neg (by omega), if_neg (by omega), if_neg (by omega)]; exact k j j0 j1
