/-! ===== the model's constructor (by mk9n.py) ===== -/
section ZS2
variable {s : Nat → Int} {l : Int}
theorem z_cpy (h : HP) {a b k : Nat} (na : a < 900) (nb : b < 900) : cpy (zS s l h) a b k = zS s l (cpy h a b k) := by
  funext c p
  by_cases e : c = b
  · subst e
    rw [z_c _ nb]
    unfold cpy
    rw [z_c _ nb, z_c _ na]
  · rw [cpy_cell e]
    unfold zS
    by_cases e1 : c = 900
    · rw [if_pos e1, if_pos e1]
    · rw [if_neg e1, if_neg e1]
      by_cases e2 : c = 901
      · rw [if_pos e2, if_pos e2]
      · rw [if_neg e2, if_neg e2, cpy_cell e]
theorem z_bgA (h : HP) : bgA (zS s l h) = zS s l (bgA h) := by
  unfold bgA
  simp (disch := decide) only [z_up, z_c, z_cpy]
theorem z_bgB (h : HP) : bgB (zS s l h) = zS s l (bgB h) := by
  unfold bgB
  simp (disch := decide) only [z_bgA, z_up, z_c, z_cpy]
theorem z_bgC (h : HP) : bgC (zS s l h) = zS s l (bgC h) := by
  unfold bgC
  simp (disch := decide) only [z_bgB, z_up, z_c, z_cpy]
theorem z_bgD (h : HP) : bgD (zS s l h) = zS s l (bgD h) := by
  unfold bgD
  simp (disch := decide) only [z_bgC, z_up, z_c, z_cpy]
theorem z_bgE (h : HP) : bgE (zS s l h) = zS s l (bgE h) := by
  unfold bgE
  simp (disch := decide) only [z_bgD, z_up, z_c, z_cpy]
theorem z_bgF (h : HP) : bgF (zS s l h) = zS s l (bgF h) := by
  unfold bgF
  simp (disch := decide) only [z_bgE, z_up, z_c, z_cpy]
theorem z_bgG (h : HP) : bgG (zS s l h) = zS s l (bgG h) := by
  unfold bgG
  simp (disch := decide) only [z_bgF, z_up, z_c, z_cpy]
theorem z_bgH (h : HP) : bgH (zS s l h) = zS s l (bgH h) := by
  unfold bgH
  simp (disch := decide) only [z_bgG, z_up, z_c, z_cpy]
theorem m_calls {M : List CT} {h : HP} {k : Nat} {a b c d : Int} (hk : k < 24) : Ok 177 [vR 50, vI (k : Int), vI a, vI b, vI c, vI d] (LL M) h (rt none (LL M) (up (up (up (up h 68 (8 * k) a) 68 (8 * k + 1) b) 68 (8 * k + 2) c) 68 (8 * k + 3) d)) := by
  refine ok_body B_X9_calls rfl (fun X hX => ?_)
  refine hX 60 [] 0 _ _ _ _ _ _ ?_
  refine And.intro (show inR (8 * (k : Int)) from ⟨by omega, by omega⟩) ?_
  refine And.intro (show 0 ≤ 8 * (k : Int) ∧ 8 * (k : Int) < ((192 : Nat) : Int) from ⟨by omega, by omega⟩) ?_
  refine And.intro (show inR (8 * (k : Int)) from ⟨by omega, by omega⟩) ?_
  refine And.intro (show inR (8 * (k : Int) + 1) from ⟨by omega, by omega⟩) ?_
  refine And.intro (show 0 ≤ 8 * (k : Int) + 1 ∧ 8 * (k : Int) + 1 < ((192 : Nat) : Int) from ⟨by omega, by omega⟩) ?_
  refine And.intro (show inR (8 * (k : Int)) from ⟨by omega, by omega⟩) ?_
  refine And.intro (show inR (8 * (k : Int) + 2) from ⟨by omega, by omega⟩) ?_
  refine And.intro (show 0 ≤ 8 * (k : Int) + 2 ∧ 8 * (k : Int) + 2 < ((192 : Nat) : Int) from ⟨by omega, by omega⟩) ?_
  refine And.intro (show inR (8 * (k : Int)) from ⟨by omega, by omega⟩) ?_
  refine And.intro (show inR (8 * (k : Int) + 3) from ⟨by omega, by omega⟩) ?_
  refine And.intro (show 0 ≤ 8 * (k : Int) + 3 ∧ 8 * (k : Int) + 3 < ((192 : Nat) : Int) from ⟨by omega, by omega⟩) ?_
  refine rt_mk rfl ?_
  show up (up (up (up h 68 (8 * (k : Int)).toNat a) 68 (8 * (k : Int) + 1).toNat b) 68 (8 * (k : Int) + 2).toNat c) 68 (8 * (k : Int) + 3).toNat d = _
  rw [show (8 * (k : Int)).toNat = 8 * k by omega, show (8 * (k : Int) + 1).toNat = 8 * k + 1 by omega, show (8 * (k : Int) + 2).toNat = 8 * k + 2 by omega, show (8 * (k : Int) + 3).toNat = 8 * k + 3 by omega]
end ZS2
def hM0 : HP := up hC 50 24 (-1)
def hM1 : HP := up (up (up (up (up (up (up (up (up (up (up (up (up (up (up (up (up (up (up (up (hM0) 50 25 (2)) 50 26 (2)) 50 28 (1)) 67 0 (20)) 67 1 (30)) 67 2 (10)) 67 3 (1)) 67 4 (400)) 67 5 (450)) 67 10 (100)) 67 11 (120)) 67 113 (100)) 65 0 (2)) 66 3 (1)) 66 5 (-1)) 66 7 (-1)) 66 8 (1)) 66 10 (-1)) 66 13 (1)) 66 15 (-1)
def hM2 : HP := up (up (up (up (hM1) 68 0 (115)) 68 1 (0)) 68 2 (0)) 68 3 (0)
def hM3 : HP := up (up (up (up (hM2) 68 8 (109)) 68 9 (0)) 68 10 (0)) 68 11 (0)
def hM4 : HP := up (up (up (up (hM3) 68 48 (104)) 68 49 (105)) 68 50 (112)) 68 51 (0)
def hM5 : HP := up (up (up (up (hM4) 68 56 (108)) 68 57 (111)) 68 58 (110)) 68 59 (103)
def hM6 : HP := up (up (up (up (hM5) 68 144 (98)) 68 145 (97)) 68 146 (99)) 68 147 (107)
def hM : HP := bgH hM6
theorem hC_c {c : Nat} (hc : 50 ≤ c) : hC c = fun _ => 0 := by
  unfold hC
  rw [cpA_cell (by omega), copy_cells.1 c (by omega), up_cell (by omega), rtE_cell rtB_h2 TKI_B rwB_B ptB_B (by omega)]
  exact hB_z (by omega) (by omega) (by omega) (by omega)
theorem m_new {s : Nat → Int} {l : Int} : Ok 173 [vR 50] (LC [.inl (8, List.replicate 48 0)]) (zS s l hC) (rt none (LL []) (zS s l hM)) := by
  have eC : ∀ c, 50 ≤ c → c < 80 → zS s l hC c = fun _ => 0 := fun c a b => (z_c hC (by omega)).trans (hC_c a)
  have eM : ∀ c, 51 ≤ c → c < 80 → zS s l hM0 c = fun _ => 0 := fun c a b => (z_c hM0 (by omega)).trans ((up_cell (by omega)).trans (hC_c (by omega)))
  refine ok_body B_X9_init rfl (fun X hX => ?_)
  refine hX 20 [11] 0 _ _ _ _ _ _ ?_
  show X 11 _ [] (LC [.inl (8, [0, 0, 0, 0, 0, 51, 0, 0, 0, 0, 0, 0, 0, 0, 0, 0, 0, 0, 0, 0, 0, 0, 0, 0, 0, 0, 0, 0, 0, 0, 0, 0, 0, 0, 0, 0, 0, 0, 0, 0, 0, 0, 0, 0, 0, 0, 0, 0]), .inr (0, 4)]) (upA (zS s l hC) 51 (fun _ => 0)) _ _
  rw [upA_id (eC 51 (by decide) (by decide))]
  refine hX 20 [19] 11 _ _ _ _ _ _ ?_
  show X 19 _ [] (LC [.inl (8, [0, 0, 0, 0, 0, 51, 52, 0, 0, 0, 0, 0, 0, 0, 0, 0, 0, 0, 0, 0, 0, 0, 0, 0, 0, 0, 0, 0, 0, 0, 0, 0, 0, 0, 0, 0, 0, 0, 0, 0, 0, 0, 0, 0, 0, 0, 0, 0]), .inr (0, 4), .inr (0, 32)]) (upA (zS s l hC) 52 (fun _ => 0)) _ _
  rw [upA_id (eC 52 (by decide) (by decide))]
  refine hX 20 [27] 19 _ _ _ _ _ _ ?_
  show X 27 _ [] (LC [.inl (8, [0, 0, 0, 0, 0, 51, 52, 53, 0, 0, 0, 0, 0, 0, 0, 0, 0, 0, 0, 0, 0, 0, 0, 0, 0, 0, 0, 0, 0, 0, 0, 0, 0, 0, 0, 0, 0, 0, 0, 0, 0, 0, 0, 0, 0, 0, 0, 0]), .inr (0, 4), .inr (0, 32), .inr (0, 32)]) (upA (zS s l hC) 53 (fun _ => 0)) _ _
  rw [upA_id (eC 53 (by decide) (by decide))]
  refine hX 20 [35] 27 _ _ _ _ _ _ ?_
  show X 35 _ [] (LC [.inl (8, [0, 0, 0, 0, 0, 51, 52, 53, 54, 0, 0, 0, 0, 0, 0, 0, 0, 0, 0, 0, 0, 0, 0, 0, 0, 0, 0, 0, 0, 0, 0, 0, 0, 0, 0, 0, 0, 0, 0, 0, 0, 0, 0, 0, 0, 0, 0, 0]), .inr (0, 4), .inr (0, 32), .inr (0, 32), .inr (0, 6)]) (upA (zS s l hC) 54 (fun _ => 0)) _ _
  rw [upA_id (eC 54 (by decide) (by decide))]
  refine hX 20 [44] 35 _ _ _ _ _ _ ?_
  show X 44 _ [] (LC [.inl (8, [0, 0, 0, 0, 0, 51, 52, 53, 54, 55, 0, 0, 0, 0, 0, 0, 0, 0, 0, 0, 0, 0, 0, 0, 0, 0, 0, 0, 0, 0, 0, 0, 0, 0, 0, 0, 0, 0, 0, 0, 0, 0, 0, 0, 0, 0, 0, 0]), .inr (0, 4), .inr (0, 32), .inr (0, 32), .inr (0, 6), .inr (0, 480)]) (upA (zS s l hC) 55 (fun _ => 0)) _ _
  rw [upA_id (eC 55 (by decide) (by decide))]
  refine hX 20 [53] 44 _ _ _ _ _ _ ?_
  show X 53 _ [] (LC [.inl (8, [0, 0, 0, 0, 0, 51, 52, 53, 54, 55, 56, 0, 0, 0, 0, 0, 0, 0, 0, 0, 0, 0, 0, 0, 0, 0, 0, 0, 0, 0, 0, 0, 0, 0, 0, 0, 0, 0, 0, 0, 0, 0, 0, 0, 0, 0, 0, 0]), .inr (0, 4), .inr (0, 32), .inr (0, 32), .inr (0, 6), .inr (0, 480), .inr (0, 192)]) (upA (zS s l hC) 56 (fun _ => 0)) _ _
  rw [upA_id (eC 56 (by decide) (by decide))]
  refine hX 20 [62] 53 _ _ _ _ _ _ ?_
  show X 62 _ [] (LC [.inl (8, [0, 0, 0, 0, 0, 51, 52, 53, 54, 55, 56, 57, 0, 0, 0, 0, 0, 0, 0, 0, 0, 0, 0, 0, 0, 0, 0, 0, 0, 0, 0, 0, 0, 0, 0, 0, 0, 0, 0, 0, 0, 0, 0, 0, 0, 0, 0, 0]), .inr (0, 4), .inr (0, 32), .inr (0, 32), .inr (0, 6), .inr (0, 480), .inr (0, 192), .inr (0, 132)]) (upA (zS s l hC) 57 (fun _ => 0)) _ _
  rw [upA_id (eC 57 (by decide) (by decide))]
  refine hX 20 [71] 62 _ _ _ _ _ _ ?_
  show X 71 _ [] (LC [.inl (8, [0, 0, 0, 0, 0, 51, 52, 53, 54, 55, 56, 57, 58, 0, 0, 0, 0, 0, 0, 0, 0, 0, 0, 0, 0, 0, 0, 0, 0, 0, 0, 0, 0, 0, 0, 0, 0, 0, 0, 0, 0, 0, 0, 0, 0, 0, 0, 0]), .inr (0, 4), .inr (0, 32), .inr (0, 32), .inr (0, 6), .inr (0, 480), .inr (0, 192), .inr (0, 132), .inr (0, 1056)]) (upA (zS s l hC) 58 (fun _ => 0)) _ _
  rw [upA_id (eC 58 (by decide) (by decide))]
  refine hX 20 [80] 71 _ _ _ _ _ _ ?_
  show X 80 _ [] (LC [.inl (8, [0, 0, 0, 0, 0, 51, 52, 53, 54, 55, 56, 57, 58, 59, 0, 0, 0, 0, 0, 0, 0, 0, 0, 0, 0, 0, 0, 0, 0, 0, 0, 0, 0, 0, 0, 0, 0, 0, 0, 0, 0, 0, 0, 0, 0, 0, 0, 0]), .inr (0, 4), .inr (0, 32), .inr (0, 32), .inr (0, 6), .inr (0, 480), .inr (0, 192), .inr (0, 132), .inr (0, 1056), .inr (0, 264)]) (upA (zS s l hC) 59 (fun _ => 0)) _ _
  rw [upA_id (eC 59 (by decide) (by decide))]
  refine hX 20 [87] 80 _ _ _ _ _ _ ?_
  show X 87 _ [] (LC [.inl (8, [0, 0, 0, 0, 0, 51, 52, 53, 54, 55, 56, 57, 58, 59, 60, 0, 0, 0, 0, 0, 0, 0, 0, 0, 0, 0, 0, 0, 0, 0, 0, 0, 0, 0, 0, 0, 0, 0, 0, 0, 0, 0, 0, 0, 0, 0, 0, 0]), .inr (0, 4), .inr (0, 32), .inr (0, 32), .inr (0, 6), .inr (0, 480), .inr (0, 192), .inr (0, 132), .inr (0, 1056), .inr (0, 264), .inr (3, 2)]) (upA (zS s l hC) 60 (fun _ => 0)) _ _
  rw [upA_id (eC 60 (by decide) (by decide))]
  refine hX 20 [96] 87 _ _ _ _ _ _ ?_
  show X 96 _ [] (LC [.inl (8, [0, 0, 0, 0, 0, 51, 52, 53, 54, 55, 56, 57, 58, 59, 60, 0, 61, 0, 0, 0, 0, 0, 0, 0, 0, 0, 0, 0, 0, 0, 0, 0, 0, 0, 0, 0, 0, 0, 0, 0, 0, 0, 0, 0, 0, 0, 0, 0]), .inr (0, 4), .inr (0, 32), .inr (0, 32), .inr (0, 6), .inr (0, 480), .inr (0, 192), .inr (0, 132), .inr (0, 1056), .inr (0, 264), .inr (3, 2), .inr (0, 1500)]) (upA (zS s l hC) 61 (fun _ => 0)) _ _
  rw [upA_id (eC 61 (by decide) (by decide))]
  refine hX 20 [101] 96 _ _ _ _ _ _ ?_
  show X 101 _ [] (LC [.inl (8, [0, 0, 0, 0, 0, 51, 52, 53, 54, 55, 56, 57, 58, 59, 60, 0, 61, 0, 0, 0, 0, 0, 0, 0, 0, 0, 0, 0, 0, 0, 0, 0, 0, 0, 0, 0, 0, 0, 0, 0, 0, 0, 0, 0, 0, 0, 0, 0]), .inr (0, 4), .inr (0, 32), .inr (0, 32), .inr (0, 6), .inr (0, 480), .inr (0, 192), .inr (0, 132), .inr (0, 1056), .inr (0, 264), .inr (3, 2), .inr (0, 1500)]) (up (zS s l hC) 50 24 (-1)) _ _
  rw [z_up _ (by decide)]
  show X 101 _ [] (LC [.inl (8, [0, 0, 0, 0, 0, 51, 52, 53, 54, 55, 56, 57, 58, 59, 60, 0, 61, 0, 0, 0, 0, 0, 0, 0, 0, 0, 0, 0, 0, 0, 0, 0, 0, 0, 0, 0, 0, 0, 0, 0, 0, 0, 0, 0, 0, 0, 0, 0]), .inr (0, 4), .inr (0, 32), .inr (0, 32), .inr (0, 6), .inr (0, 480), .inr (0, 192), .inr (0, 132), .inr (0, 1056), .inr (0, 264), .inr (3, 2), .inr (0, 1500)]) (zS s l hM0) _ _
  refine hX 20 [108] 101 _ _ _ _ _ _ ?_
  show X 108 _ [] (LC [.inl (8, [0, 0, 0, 0, 0, 51, 52, 53, 54, 55, 56, 57, 58, 59, 60, 0, 61, 0, 0, 0, 0, 0, 0, 0, 0, 0, 0, 0, 0, 62, 0, 0, 0, 0, 0, 0, 0, 0, 0, 0, 0, 0, 0, 0, 0, 0, 0, 0]), .inr (0, 4), .inr (0, 32), .inr (0, 32), .inr (0, 6), .inr (0, 480), .inr (0, 192), .inr (0, 132), .inr (0, 1056), .inr (0, 264), .inr (3, 2), .inr (0, 1500), .inr (0, 4)]) (upA (zS s l hM0) 62 (fun _ => 0)) _ _
  rw [upA_id (eM 62 (by decide) (by decide))]
  refine hX 20 [116] 108 _ _ _ _ _ _ ?_
  show X 116 _ [] (LC [.inl (8, [0, 0, 0, 0, 0, 51, 52, 53, 54, 55, 56, 57, 58, 59, 60, 0, 61, 0, 0, 0, 0, 0, 0, 0, 0, 0, 0, 0, 0, 62, 63, 0, 0, 0, 0, 0, 0, 0, 0, 0, 0, 0, 0, 0, 0, 0, 0, 0]), .inr (0, 4), .inr (0, 32), .inr (0, 32), .inr (0, 6), .inr (0, 480), .inr (0, 192), .inr (0, 132), .inr (0, 1056), .inr (0, 264), .inr (3, 2), .inr (0, 1500), .inr (0, 4), .inr (0, 32)]) (upA (zS s l hM0) 63 (fun _ => 0)) _ _
  rw [upA_id (eM 63 (by decide) (by decide))]
  refine hX 20 [124] 116 _ _ _ _ _ _ ?_
  show X 124 _ [] (LC [.inl (8, [0, 0, 0, 0, 0, 51, 52, 53, 54, 55, 56, 57, 58, 59, 60, 0, 61, 0, 0, 0, 0, 0, 0, 0, 0, 0, 0, 0, 0, 62, 63, 64, 0, 0, 0, 0, 0, 0, 0, 0, 0, 0, 0, 0, 0, 0, 0, 0]), .inr (0, 4), .inr (0, 32), .inr (0, 32), .inr (0, 6), .inr (0, 480), .inr (0, 192), .inr (0, 132), .inr (0, 1056), .inr (0, 264), .inr (3, 2), .inr (0, 1500), .inr (0, 4), .inr (0, 32), .inr (0, 32)]) (upA (zS s l hM0) 64 (fun _ => 0)) _ _
  rw [upA_id (eM 64 (by decide) (by decide))]
  refine hX 20 [132] 124 _ _ _ _ _ _ ?_
  show X 132 _ [] (LC [.inl (8, [0, 0, 0, 0, 0, 51, 52, 53, 54, 55, 56, 57, 58, 59, 60, 0, 61, 0, 0, 0, 0, 0, 0, 0, 0, 0, 0, 0, 0, 62, 63, 64, 65, 0, 0, 0, 0, 0, 0, 0, 0, 0, 0, 0, 0, 0, 0, 0]), .inr (0, 4), .inr (0, 32), .inr (0, 32), .inr (0, 6), .inr (0, 480), .inr (0, 192), .inr (0, 132), .inr (0, 1056), .inr (0, 264), .inr (3, 2), .inr (0, 1500), .inr (0, 4), .inr (0, 32), .inr (0, 32), .inr (0, 6)]) (upA (zS s l hM0) 65 (fun _ => 0)) _ _
  rw [upA_id (eM 65 (by decide) (by decide))]
  refine hX 20 [141] 132 _ _ _ _ _ _ ?_
  show X 141 _ [] (LC [.inl (8, [0, 0, 0, 0, 0, 51, 52, 53, 54, 55, 56, 57, 58, 59, 60, 0, 61, 0, 0, 0, 0, 0, 0, 0, 0, 0, 0, 0, 0, 62, 63, 64, 65, 66, 0, 0, 0, 0, 0, 0, 0, 0, 0, 0, 0, 0, 0, 0]), .inr (0, 4), .inr (0, 32), .inr (0, 32), .inr (0, 6), .inr (0, 480), .inr (0, 192), .inr (0, 132), .inr (0, 1056), .inr (0, 264), .inr (3, 2), .inr (0, 1500), .inr (0, 4), .inr (0, 32), .inr (0, 32), .inr (0, 6), .inr (0, 480)]) (upA (zS s l hM0) 66 (fun _ => 0)) _ _
  rw [upA_id (eM 66 (by decide) (by decide))]
  refine hX 20 [150] 141 _ _ _ _ _ _ ?_
  show X 150 _ [] (LC [.inl (8, [0, 0, 0, 0, 0, 51, 52, 53, 54, 55, 56, 57, 58, 59, 60, 0, 61, 0, 0, 0, 0, 0, 0, 0, 0, 0, 0, 0, 0, 62, 63, 64, 65, 66, 67, 0, 0, 0, 0, 0, 0, 0, 0, 0, 0, 0, 0, 0]), .inr (0, 4), .inr (0, 32), .inr (0, 32), .inr (0, 6), .inr (0, 480), .inr (0, 192), .inr (0, 132), .inr (0, 1056), .inr (0, 264), .inr (3, 2), .inr (0, 1500), .inr (0, 4), .inr (0, 32), .inr (0, 32), .inr (0, 6), .inr (0, 480), .inr (0, 132)]) (upA (zS s l hM0) 67 (fun _ => 0)) _ _
  rw [upA_id (eM 67 (by decide) (by decide))]
  refine hX 20 [159] 150 _ _ _ _ _ _ ?_
  show X 159 _ [] (LC [.inl (8, [0, 0, 0, 0, 0, 51, 52, 53, 54, 55, 56, 57, 58, 59, 60, 0, 61, 0, 0, 0, 0, 0, 0, 0, 0, 0, 0, 0, 0, 62, 63, 64, 65, 66, 67, 68, 0, 0, 0, 0, 0, 0, 0, 0, 0, 0, 0, 0]), .inr (0, 4), .inr (0, 32), .inr (0, 32), .inr (0, 6), .inr (0, 480), .inr (0, 192), .inr (0, 132), .inr (0, 1056), .inr (0, 264), .inr (3, 2), .inr (0, 1500), .inr (0, 4), .inr (0, 32), .inr (0, 32), .inr (0, 6), .inr (0, 480), .inr (0, 132), .inr (0, 192)]) (upA (zS s l hM0) 68 (fun _ => 0)) _ _
  rw [upA_id (eM 68 (by decide) (by decide))]
  refine hX 20 [168] 159 _ _ _ _ _ _ ?_
  show X 168 _ [] (LC [.inl (8, [0, 0, 0, 0, 0, 51, 52, 53, 54, 55, 56, 57, 58, 59, 60, 0, 61, 0, 0, 0, 0, 0, 0, 0, 0, 0, 0, 0, 0, 62, 63, 64, 65, 66, 67, 68, 69, 0, 0, 0, 0, 0, 0, 0, 0, 0, 0, 0]), .inr (0, 4), .inr (0, 32), .inr (0, 32), .inr (0, 6), .inr (0, 480), .inr (0, 192), .inr (0, 132), .inr (0, 1056), .inr (0, 264), .inr (3, 2), .inr (0, 1500), .inr (0, 4), .inr (0, 32), .inr (0, 32), .inr (0, 6), .inr (0, 480), .inr (0, 132), .inr (0, 192), .inr (0, 132)]) (upA (zS s l hM0) 69 (fun _ => 0)) _ _
  rw [upA_id (eM 69 (by decide) (by decide))]
  refine hX 20 [177] 168 _ _ _ _ _ _ ?_
  show X 177 _ [] (LC [.inl (8, [0, 0, 0, 0, 0, 51, 52, 53, 54, 55, 56, 57, 58, 59, 60, 0, 61, 0, 0, 0, 0, 0, 0, 0, 0, 0, 0, 0, 0, 62, 63, 64, 65, 66, 67, 68, 69, 70, 0, 0, 0, 0, 0, 0, 0, 0, 0, 0]), .inr (0, 4), .inr (0, 32), .inr (0, 32), .inr (0, 6), .inr (0, 480), .inr (0, 192), .inr (0, 132), .inr (0, 1056), .inr (0, 264), .inr (3, 2), .inr (0, 1500), .inr (0, 4), .inr (0, 32), .inr (0, 32), .inr (0, 6), .inr (0, 480), .inr (0, 132), .inr (0, 192), .inr (0, 132), .inr (0, 27000)]) (upA (zS s l hM0) 70 (fun _ => 0)) _ _
  rw [upA_id (eM 70 (by decide) (by decide))]
  refine hX 20 [185] 177 _ _ _ _ _ _ ?_
  show X 185 _ [] (LC [.inl (8, [0, 0, 0, 0, 0, 51, 52, 53, 54, 55, 56, 57, 58, 59, 60, 0, 61, 0, 0, 0, 0, 0, 0, 0, 0, 0, 0, 0, 0, 62, 63, 64, 65, 66, 67, 68, 69, 70, 71, 0, 0, 0, 0, 0, 0, 0, 0, 0]), .inr (0, 4), .inr (0, 32), .inr (0, 32), .inr (0, 6), .inr (0, 480), .inr (0, 192), .inr (0, 132), .inr (0, 1056), .inr (0, 264), .inr (3, 2), .inr (0, 1500), .inr (0, 4), .inr (0, 32), .inr (0, 32), .inr (0, 6), .inr (0, 480), .inr (0, 132), .inr (0, 192), .inr (0, 132), .inr (0, 27000), .inr (0, 11)]) (upA (zS s l hM0) 71 (fun _ => 0)) _ _
  rw [upA_id (eM 71 (by decide) (by decide))]
  refine hX 20 [193] 185 _ _ _ _ _ _ ?_
  show X 193 _ [] (LC [.inl (8, [0, 0, 0, 0, 0, 51, 52, 53, 54, 55, 56, 57, 58, 59, 60, 0, 61, 0, 0, 0, 0, 0, 0, 0, 0, 0, 0, 0, 0, 62, 63, 64, 65, 66, 67, 68, 69, 70, 71, 0, 0, 0, 72, 0, 0, 0, 0, 0]), .inr (0, 4), .inr (0, 32), .inr (0, 32), .inr (0, 6), .inr (0, 480), .inr (0, 192), .inr (0, 132), .inr (0, 1056), .inr (0, 264), .inr (3, 2), .inr (0, 1500), .inr (0, 4), .inr (0, 32), .inr (0, 32), .inr (0, 6), .inr (0, 480), .inr (0, 132), .inr (0, 192), .inr (0, 132), .inr (0, 27000), .inr (0, 11), .inr (1, 24)]) (upA (zS s l hM0) 72 (fun _ => 0)) _ _
  rw [upA_id (eM 72 (by decide) (by decide))]
  refine hX 20 [201] 193 _ _ _ _ _ _ ?_
  show X 201 _ [] (LC [.inl (8, [0, 0, 0, 0, 0, 51, 52, 53, 54, 55, 56, 57, 58, 59, 60, 0, 61, 0, 0, 0, 0, 0, 0, 0, 0, 0, 0, 0, 0, 62, 63, 64, 65, 66, 67, 68, 69, 70, 71, 0, 0, 0, 72, 73, 0, 0, 0, 0]), .inr (0, 4), .inr (0, 32), .inr (0, 32), .inr (0, 6), .inr (0, 480), .inr (0, 192), .inr (0, 132), .inr (0, 1056), .inr (0, 264), .inr (3, 2), .inr (0, 1500), .inr (0, 4), .inr (0, 32), .inr (0, 32), .inr (0, 6), .inr (0, 480), .inr (0, 132), .inr (0, 192), .inr (0, 132), .inr (0, 27000), .inr (0, 11), .inr (1, 24), .inr (1, 10)]) (upA (zS s l hM0) 73 (fun _ => 0)) _ _
  rw [upA_id (eM 73 (by decide) (by decide))]
  refine hX 20 [209] 201 _ _ _ _ _ _ ?_
  show X 209 _ [] (LC [.inl (8, [0, 0, 0, 0, 0, 51, 52, 53, 54, 55, 56, 57, 58, 59, 60, 0, 61, 0, 0, 0, 0, 0, 0, 0, 0, 0, 0, 0, 0, 62, 63, 64, 65, 66, 67, 68, 69, 70, 71, 0, 0, 0, 72, 73, 74, 0, 0, 0]), .inr (0, 4), .inr (0, 32), .inr (0, 32), .inr (0, 6), .inr (0, 480), .inr (0, 192), .inr (0, 132), .inr (0, 1056), .inr (0, 264), .inr (3, 2), .inr (0, 1500), .inr (0, 4), .inr (0, 32), .inr (0, 32), .inr (0, 6), .inr (0, 480), .inr (0, 132), .inr (0, 192), .inr (0, 132), .inr (0, 27000), .inr (0, 11), .inr (1, 24), .inr (1, 10), .inr (0, 6)]) (upA (zS s l hM0) 74 (fun _ => 0)) _ _
  rw [upA_id (eM 74 (by decide) (by decide))]
  refine hX 20 [217] 209 _ _ _ _ _ _ ?_
  show X 217 _ [] (LC [.inl (8, [0, 0, 0, 0, 0, 51, 52, 53, 54, 55, 56, 57, 58, 59, 60, 0, 61, 0, 0, 0, 0, 0, 0, 0, 0, 0, 0, 0, 0, 62, 63, 64, 65, 66, 67, 68, 69, 70, 71, 0, 0, 0, 72, 73, 74, 75, 0, 0]), .inr (0, 4), .inr (0, 32), .inr (0, 32), .inr (0, 6), .inr (0, 480), .inr (0, 192), .inr (0, 132), .inr (0, 1056), .inr (0, 264), .inr (3, 2), .inr (0, 1500), .inr (0, 4), .inr (0, 32), .inr (0, 32), .inr (0, 6), .inr (0, 480), .inr (0, 132), .inr (0, 192), .inr (0, 132), .inr (0, 27000), .inr (0, 11), .inr (1, 24), .inr (1, 10), .inr (0, 6), .inr (0, 6)]) (upA (zS s l hM0) 75 (fun _ => 0)) _ _
  rw [upA_id (eM 75 (by decide) (by decide))]
  refine hX 20 [226] 217 _ _ _ _ _ _ ?_
  show X 226 _ [] (LC [.inl (8, [0, 0, 0, 0, 0, 51, 52, 53, 54, 55, 56, 57, 58, 59, 60, 0, 61, 0, 0, 0, 0, 0, 0, 0, 0, 0, 0, 0, 0, 62, 63, 64, 65, 66, 67, 68, 69, 70, 71, 0, 0, 0, 72, 73, 74, 75, 0, 76]), .inr (0, 4), .inr (0, 32), .inr (0, 32), .inr (0, 6), .inr (0, 480), .inr (0, 192), .inr (0, 132), .inr (0, 1056), .inr (0, 264), .inr (3, 2), .inr (0, 1500), .inr (0, 4), .inr (0, 32), .inr (0, 32), .inr (0, 6), .inr (0, 480), .inr (0, 132), .inr (0, 192), .inr (0, 132), .inr (0, 27000), .inr (0, 11), .inr (1, 24), .inr (1, 10), .inr (0, 6), .inr (0, 6), .inr (0, 27000)]) (upA (zS s l hM0) 76 (fun _ => 0)) _ _
  rw [upA_id (eM 76 (by decide) (by decide))]
  refine hX 200 [] 226 _ _ _ _ _ _ ?_
  refine And.intro ⟨by decide, by decide⟩ ?_
  refine And.intro ⟨by decide, by decide⟩ ?_
  refine And.intro ⟨by decide, by decide⟩ ?_
  refine And.intro ⟨by decide, by decide⟩ ?_
  refine And.intro ⟨by decide, by decide⟩ ?_
  refine And.intro ⟨by decide, by decide⟩ ?_
  refine And.intro ⟨by decide, by decide⟩ ?_
  refine And.intro ⟨by decide, by decide⟩ ?_
  refine And.intro ⟨by decide, by decide⟩ ?_
  refine And.intro ⟨by decide, by decide⟩ ?_
  refine And.intro ⟨by decide, by decide⟩ ?_
  refine And.intro ⟨by decide, by decide⟩ ?_
  refine And.intro ⟨by decide, by decide⟩ ?_
  refine And.intro ⟨by decide, by decide⟩ ?_
  refine And.intro ⟨by decide, by decide⟩ ?_
  refine And.intro ⟨by decide, by decide⟩ ?_
  refine And.intro ⟨by decide, by decide⟩ ?_
  show Ok 177 [vR 50, vI ((0 : Nat) : Int), vI 115, vI 0, vI 0, vI 0] (LL []) (up (up (up (up (up (up (up (up (up (up (up (up (up (up (up (up (up (up (up (up (zS s l hM0) 50 25 (2)) 50 26 (2)) 50 28 (1)) 67 0 (20)) 67 1 (30)) 67 2 (10)) 67 3 (1)) 67 4 (400)) 67 5 (450)) 67 10 (100)) 67 11 (120)) 67 113 (100)) 65 0 (2)) 66 3 (1)) 66 5 (-1)) 66 7 (-1)) 66 8 (1)) 66 10 (-1)) 66 13 (1)) 66 15 (-1)) _
  have z1 : up (up (up (up (up (up (up (up (up (up (up (up (up (up (up (up (up (up (up (up (zS s l hM0) 50 25 (2)) 50 26 (2)) 50 28 (1)) 67 0 (20)) 67 1 (30)) 67 2 (10)) 67 3 (1)) 67 4 (400)) 67 5 (450)) 67 10 (100)) 67 11 (120)) 67 113 (100)) 65 0 (2)) 66 3 (1)) 66 5 (-1)) 66 7 (-1)) 66 8 (1)) 66 10 (-1)) 66 13 (1)) 66 15 (-1) = zS s l hM1 := by
    simp (disch := decide) only [z_up]
    rfl
  rw [z1]
  refine Ok_rt (m_calls (M := []) (by decide)) ?_
  show Ok 177 [vR 50, vI ((1 : Nat) : Int), vI 109, vI 0, vI 0, vI 0] (LL []) (up (up (up (up (zS s l hM1) 68 0 (115)) 68 1 (0)) 68 2 (0)) 68 3 (0)) _
  have y0 : up (up (up (up (zS s l hM1) 68 0 (115)) 68 1 (0)) 68 2 (0)) 68 3 (0) = zS s l hM2 := by
    simp (disch := decide) only [z_up]
    rfl
  rw [y0]
  show Ok 177 [vR 50, vI ((1 : Nat) : Int), vI 109, vI 0, vI 0, vI 0] (LL []) (zS s l hM2) _
  refine Ok_rt (m_calls (M := []) (by decide)) ?_
  show Ok 177 [vR 50, vI ((6 : Nat) : Int), vI 104, vI 105, vI 112, vI 0] (LL []) (up (up (up (up (zS s l hM2) 68 8 (109)) 68 9 (0)) 68 10 (0)) 68 11 (0)) _
  have y1 : up (up (up (up (zS s l hM2) 68 8 (109)) 68 9 (0)) 68 10 (0)) 68 11 (0) = zS s l hM3 := by
    simp (disch := decide) only [z_up]
    rfl
  rw [y1]
  show Ok 177 [vR 50, vI ((6 : Nat) : Int), vI 104, vI 105, vI 112, vI 0] (LL []) (zS s l hM3) _
  refine Ok_rt (m_calls (M := []) (by decide)) ?_
  show Ok 177 [vR 50, vI ((7 : Nat) : Int), vI 108, vI 111, vI 110, vI 103] (LL []) (up (up (up (up (zS s l hM3) 68 48 (104)) 68 49 (105)) 68 50 (112)) 68 51 (0)) _
  have y2 : up (up (up (up (zS s l hM3) 68 48 (104)) 68 49 (105)) 68 50 (112)) 68 51 (0) = zS s l hM4 := by
    simp (disch := decide) only [z_up]
    rfl
  rw [y2]
  show Ok 177 [vR 50, vI ((7 : Nat) : Int), vI 108, vI 111, vI 110, vI 103] (LL []) (zS s l hM4) _
  refine Ok_rt (m_calls (M := []) (by decide)) ?_
  show Ok 177 [vR 50, vI ((18 : Nat) : Int), vI 98, vI 97, vI 99, vI 107] (LL []) (up (up (up (up (zS s l hM4) 68 56 (108)) 68 57 (111)) 68 58 (110)) 68 59 (103)) _
  have y3 : up (up (up (up (zS s l hM4) 68 56 (108)) 68 57 (111)) 68 58 (110)) 68 59 (103) = zS s l hM5 := by
    simp (disch := decide) only [z_up]
    rfl
  rw [y3]
  show Ok 177 [vR 50, vI ((18 : Nat) : Int), vI 98, vI 97, vI 99, vI 107] (LL []) (zS s l hM5) _
  refine Ok_rt (m_calls (M := []) (by decide)) ?_
  show Ok 208 [vR 50] (LL []) (up (up (up (up (zS s l hM5) 68 144 (98)) 68 145 (97)) 68 146 (99)) 68 147 (107)) _
  have y4 : up (up (up (up (zS s l hM5) 68 144 (98)) 68 145 (97)) 68 146 (99)) 68 147 (107) = zS s l hM6 := by
    simp (disch := decide) only [z_up]
    rfl
  rw [y4]
  refine Ok_rt m_begins ?_
  exact ⟨rfl, rfl, z_bgH _⟩
