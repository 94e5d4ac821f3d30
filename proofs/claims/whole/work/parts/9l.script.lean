/-! ===== what a script holds is no matter of the reading (by mk9l.py) ===== -/
/-- a heap with the law's script -/
def zS (s : Nat → Int) (l : Int) (h : HP) : HP := fun a => if a = 900 then s else if a = 901 then (fun _ => l) else h a
section ZS
variable {s : Nat → Int} {l : Int}
theorem z_c (h : HP) {c : Nat} (n : c < 900) : zS s l h c = h c := by unfold zS; rw [if_neg (by omega), if_neg (by omega)]
theorem z_up (h : HP) {a b : Nat} {v : Int} (n : a < 900) : up (zS s l h) a b v = zS s l (up h a b v) := by
  funext p q
  by_cases e : p = a
  · subst e
    rw [z_c _ n]
    unfold up
    rw [if_pos rfl, if_pos rfl, z_c _ n]
  · rw [up_cell e]
    unfold zS
    by_cases e1 : p = 900
    · rw [if_pos e1, if_pos e1]
    · rw [if_neg e1, if_neg e1]
      by_cases e2 : p = 901
      · rw [if_pos e2, if_pos e2]
      · rw [if_neg e2, if_neg e2, up_cell e]
theorem z_upA (h : HP) {a : Nat} {f : Nat → Int} (n : a < 900) : upA (zS s l h) a f = zS s l (upA h a f) := by
  funext p
  unfold upA zS
  by_cases e : p = a
  · subst e
    rw [if_pos rfl, if_neg (by omega), if_neg (by omega)]
    exact (if_pos rfl).symm
  · rw [if_neg e]
    by_cases e1 : p = 900
    · rw [if_pos e1, if_pos e1]
    · rw [if_neg e1, if_neg e1]
      by_cases e2 : p = 901
      · rw [if_pos e2, if_pos e2]
      · rw [if_neg e2, if_neg e2]
        exact (if_neg e).symm
theorem z_ite {P : Prop} [Decidable P] (x y : HP) : (if P then zS s l x else zS s l y) = zS s l (if P then x else y) := by split <;> rfl
theorem z_rdA (h : HP) {a len : Nat} {i : Int} (n : a < 900) : rdA (zS s l h) a len i = rdA h a len i := by unfold rdA; rw [z_c _ n]
theorem z_wrA (h : HP) {a len : Nat} {i v : Int} (n : a < 900) : wrA (zS s l h) a len i v = zS s l (wrA h a len i v) := by unfold wrA; rw [z_up _ n, z_ite]
theorem z_cpA (h : HP) {a la b lb : Nat} {i j n : Int} (na : a < 900) (nb : b < 900) : cpA (zS s l h) a la i b lb j n = zS s l (cpA h a la i b lb j n) := by
  unfold cpA
  simp only [z_rdA h na, z_c h nb]
  exact z_upA h nb
theorem z_flF {a len : Nat} {w : Int} (n : a < 900) : ∀ (m : Nat) (i : Int) (h : HP), flF a len w m i (zS s l h) = zS s l (flF a len w m i h)
  | 0, _, _ => rfl
  | m + 1, i, h => by
    unfold flF
    rw [z_wrA h n]
    exact z_flF n m _ _
theorem z_cpF {a la b lb : Nat} (na : a < 900) (nb : b < 900) : ∀ (m : Nat) (i : Int) (h : HP), cpF a la b lb m i (zS s l h) = zS s l (cpF a la b lb m i h)
  | 0, _, _ => rfl
  | m + 1, i, h => by
    unfold cpF
    rw [z_rdA h na, z_wrA h nb]
    exact z_cpF na nb m _ _
theorem z_addNameN (h : HP) {i : Int} {w : Int} {n : Int} : addNameN (zS s l h) 5 i w n = zS s l (addNameN h 5 i w n) := by
  unfold addNameN
  simp (disch := decide) only [z_c, z_ite, z_wrA]
theorem z_addNameH (h : HP) {i : Int} {w : Int} : addNameH (zS s l h) 5 i w = zS s l (addNameH h 5 i w) := by
  unfold addNameH
  simp (disch := decide) only [z_c, z_ite, z_rdA, z_wrA, z_addNameN]
theorem z_addRowH (h : HP) {i : Int} {x : Int} {y : Int} : addRowH (zS s l h) 5 i x y = zS s l (addRowH h 5 i x y) := by
  unfold addRowH
  simp (disch := decide) only [z_c, z_ite, z_rdA, z_wrA]
theorem z_addPartN (h : HP) {x : Int} {b : Int} : addPartN (zS s l h) 5 x b = zS s l (addPartN h 5 x b) := by
  unfold addPartN
  simp (disch := decide) only [z_c, z_ite, z_wrA, z_flF]
theorem z_addPartH (h : HP) {i : Int} {x : Int} {n : Int} : addPartH (zS s l h) 5 i x n = zS s l (addPartH h 5 i x n) := by
  unfold addPartH
  simp (disch := decide) only [z_c, z_ite, z_wrA, z_addPartN]
theorem z_copyPH (h : HP) : copyPH (zS s l h) = zS s l (copyPH h) := by
  unfold copyPH
  simp (disch := decide) only [z_c, z_ite, z_cpA, z_cpF]
theorem z_txB (h : HP) : txB (zS s l h) = txB h := by
  funext i
  unfold txB
  rw [z_c _ (by decide), z_c _ (by decide)]
theorem z_addBH (h : HP) {x : Int} : addBH (zS s l h) x = zS s l (addBH h x) := by
  unfold addBH
  simp (disch := decide) only [z_c, z_up, z_ite]
theorem z_addTx {sid : Nat} : ∀ (m : Nat) (i : Int) (h : HP), addTx sid m i (zS s l h) = zS s l (addTx sid m i h)
  | 0, _, _ => rfl
  | m + 1, i, h => by
    unfold addTx
    rw [z_addBH]
    exact z_addTx m _ _
theorem z_failH (h : HP) {x : Int} {c : Int} : failH (zS s l h) x c = zS s l (failH h x c) := by
  unfold failH
  simp (disch := decide) only [z_c, z_up, z_ite]
theorem z_passA (h : HP) : passA (zS s l h) = zS s l (passA h) := by
  unfold passA
  simp (disch := decide) only [z_c, z_up, z_ite, z_rdA]
theorem z_passH (h : HP) : passH (zS s l h) = zS s l (passH h) := by
  unfold passH
  simp (disch := decide) only [z_c, z_up, z_ite, z_rdA, z_passA]
theorem z_tvH (h : HP) : tvH (zS s l h) = tvH h := by
  unfold tvH
  simp (disch := decide) only [z_c, z_ite, z_rdA]
theorem z_numH (h : HP) {a : Int} {b : Int} : numH (zS s l h) a b = zS s l (numH h a b) := by
  unfold numH
  simp (disch := decide) only [z_c, z_ite, z_failH, z_passH, z_tvH]
theorem z_nameB (h : HP) : nameB (zS s l h) = nameB h := by
  unfold nameB
  simp (disch := decide) only [z_c, z_ite, z_tvH]
theorem z_numN (h : HP) {i : Int} {w : Int} : numN (zS s l h) i w = numN h i w := by
  unfold numN
  simp (disch := decide) only [z_c, z_ite, z_rdA]
theorem z_runE (h : HP) {i : Int} : runE (zS s l h) i = runE h i := by
  unfold runE
  simp (disch := decide) only [z_c, z_ite, z_txB]
theorem z_wdIs (h : HP) {i : Int} {j : Int} {sid : Nat} : wdIs (zS s l h) i j sid = wdIs h i j sid := by
  unfold wdIs
  simp (disch := decide) only [z_c, z_ite, z_txB]
theorem z_wdK (h : HP) (i j : Int) : ∀ (m k : Nat), wdK (zS s l h) i j m k = wdK h i j m k
  | 0, _ => rfl
  | m + 1, k => by
    unfold wdK
    simp only [z_wdIs, z_wdK h i j m]
theorem z_kdT (h : HP) {i : Int} {j : Int} : kdT (zS s l h) i j = kdT h i j := by
  unfold kdT
  simp (disch := decide) only [z_c, z_ite, z_txB, z_wdK]
theorem z_tokB (h : HP) {t : Int} {a : Int} {b : Int} {k : Int} : tokB (zS s l h) t a b k = zS s l (tokB h t a b k) := by
  unfold tokB
  simp (disch := decide) only [z_c, z_ite, z_wrA]
theorem z_tokH (h : HP) {t : Int} {a : Int} {b : Int} {k : Int} : tokH (zS s l h) t a b k = zS s l (tokH h t a b k) := by
  unfold tokH
  simp (disch := decide) only [z_c, z_ite, z_wrA, z_txB, z_tokB]
theorem z_splT (tl : Int) : ∀ (m : Nat) (t p : Int) (h : HP), splT tl m t p (zS s l h) = zS s l (splT tl m t p h)
  | 0, t, p, h => by unfold splT; exact z_tokH h
  | m + 1, t, p, h => by
    unfold splT
    simp only [z_txB, z_runE, z_kdT, z_tokH, z_splT tl m, z_ite]
theorem z_nnA (h : HP) {i : Int} : nnA (zS s l h) i = zS s l (nnA h i) := by
  unfold nnA
  simp (disch := decide) only [z_c, z_ite, z_rdA, z_failH, z_tvH, z_nameB, z_numN]
theorem z_nnB (h : HP) {i : Int} : nnB (zS s l h) i = zS s l (nnB h i) := by
  unfold nnB
  simp (disch := decide) only [z_c, z_ite, z_addNameH, z_tvH, z_nnA]
theorem z_ptH (h : HP) {k : Int} : ptH (zS s l h) k = zS s l (ptH h k) := by
  unfold ptH
  simp (disch := decide) only [z_c, z_ite, z_failH, z_passH]
theorem z_tlH (h : HP) {i : Int} {j : Int} {k : Int} {x : Int} : tlH (zS s l h) i j k x = zS s l (tlH h i j k x) := by
  unfold tlH
  simp (disch := decide) only [z_c, z_ite, z_wrA]
theorem z_spH (h : HP) {i : Int} {x : Int} : spH (zS s l h) i x = zS s l (spH h i x) := by
  unfold spH
  simp (disch := decide) only [z_c, z_ite, z_rdA, z_addPartH]
theorem z_spV (h : HP) {i : Int} : spV (zS s l h) i = spV h i := by
  unfold spV
  simp (disch := decide) only [z_c, z_ite, z_rdA]
theorem z_rgA (h : HP) : rgA (zS s l h) = zS s l (rgA h) := by
  unfold rgA
  simp (disch := decide) only [z_c, z_ite, z_ptH]
theorem z_rgB (h : HP) : rgB (zS s l h) = zS s l (rgB h) := by
  unfold rgB
  simp (disch := decide) only [z_c, z_ite, z_wrA, z_tvH, z_numH, z_rgA]
theorem z_rgC (h : HP) : rgC (zS s l h) = zS s l (rgC h) := by
  unfold rgC
  simp (disch := decide) only [z_c, z_ite, z_wrA, z_tvH, z_numH, z_rgB]
theorem z_rgD (h : HP) : rgD (zS s l h) = zS s l (rgD h) := by
  unfold rgD
  simp (disch := decide) only [z_c, z_ite, z_ptH, z_rgC]
theorem z_rgE (h : HP) : rgE (zS s l h) = zS s l (rgE h) := by
  unfold rgE
  simp (disch := decide) only [z_c, z_ite, z_wrA, z_tvH, z_numH, z_rgD]
theorem z_rgH (h : HP) : rgH (zS s l h) = zS s l (rgH h) := by
  unfold rgH
  simp (disch := decide) only [z_c, z_ite, z_ptH, z_rgE]
theorem z_rcH (h : HP) {i : Int} {j : Int} : rcH (zS s l h) i j = zS s l (rcH h i j) := by
  unfold rcH
  simp (disch := decide) only [z_c, z_ite, z_tvH, z_numH, z_ptH, z_tlH]
theorem z_rlA (h : HP) : rlA (zS s l h) = zS s l (rlA h) := by
  unfold rlA
  simp (disch := decide) only [z_c, z_ite, z_rdA, z_failH, z_ptH]
theorem z_rlB (h : HP) : rlB (zS s l h) = zS s l (rlB h) := by
  unfold rlB
  simp (disch := decide) only [z_c, z_ite, z_numH, z_rlA]
theorem z_rlC (h : HP) : rlC (zS s l h) = zS s l (rlC h) := by
  unfold rlC
  simp (disch := decide) only [z_c, z_ite, z_rdA, z_wrA, z_tvH, z_numH, z_rlA, z_rlB]
theorem z_rlH (h : HP) : rlH (zS s l h) = zS s l (rlH h) := by
  unfold rlH
  simp (disch := decide) only [z_c, z_ite, z_ptH, z_rlC]
theorem z_nnP (h : HP) {i : Int} : nnP (zS s l h) i = zS s l (nnP h i) := by
  unfold nnP
  simp (disch := decide) only [z_c, z_ite, z_passH, z_nnB]
theorem z_szL : ∀ (m : Nat) (h : HP), szL m (zS s l h) = zS s l (szL m h)
  | 0, _ => rfl
  | m + 1, h => by
    unfold szL
    simp (disch := decide) only [z_c, z_nnP, z_szL m, z_ite]
theorem z_rsH (h : HP) : rsH (zS s l h) = zS s l (rsH h) := by
  unfold rsH
  simp (disch := decide) only [z_c, z_ite, z_ptH, z_nnP, z_szL]
theorem z_enH (h : HP) : enH (zS s l h) = enH h := by
  unfold enH
  simp (disch := decide) only [z_c, z_ite, z_rdA]
theorem z_tkS (h : HP) : ∀ (m : Nat) (i a : Int), tkS (zS s l h) m i a = tkS h m i a
  | 0, _, _ => rfl
  | m + 1, i, a => by
    unfold tkS
    simp only [z_txB, z_tkS h m]
theorem z_tkT (h : HP) : tkT (zS s l h) = tkT h := by
  unfold tkT
  simp (disch := decide) only [z_c, z_ite, z_enH, z_tkS]
theorem z_icA (h : HP) : ∀ (m : Nat) (i : Int), icA (zS s l h) m i = icA h m i
  | 0, _ => rfl
  | m + 1, i => by
    unfold icA
    simp only [z_txB, z_icA h m]
theorem z_icV (h : HP) : icV (zS s l h) = icV h := by
  unfold icV
  simp (disch := decide) only [z_c, z_ite, z_enH, z_icA]
theorem z_meL (id : Int) : ∀ (m : Nat) (k : Int) (h : HP), meL id m k (zS s l h) = zS s l (meL id m k h)
  | 0, _, _ => rfl
  | m + 1, k, h => by
    unfold meL
    simp (disch := decide) only [z_c, z_numH, z_tvH, z_wrA, z_ite, z_meL id m]
theorem z_rmA (h : HP) : rmA (zS s l h) = zS s l (rmA h) := by
  unfold rmA
  simp (disch := decide) only [z_c, z_ite, z_rdA, z_failH, z_ptH]
theorem z_rmI (h : HP) : rmI (zS s l h) = rmI h := by
  unfold rmI
  simp (disch := decide) only [z_c, z_ite, z_rdA, z_nnA, z_rmA]
theorem z_rmB (h : HP) : rmB (zS s l h) = zS s l (rmB h) := by
  unfold rmB
  simp (disch := decide) only [z_c, z_ite, z_nnP, z_rmA]
theorem z_rmH (h : HP) : rmH (zS s l h) = zS s l (rmH h) := by
  unfold rmH
  simp (disch := decide) only [z_c, z_ite, z_rdA, z_ptH, z_meL, z_rmI, z_rmB]
theorem z_knH (h : HP) {i : Int} : knH (zS s l h) i = zS s l (knH h i) := by
  unfold knH
  simp (disch := decide) only [z_c, z_ite, z_failH, z_passH, z_tvH, z_nameB, z_numN]
theorem z_wdA (h : HP) {i : Int} {j : Int} : wdA (zS s l h) i j = zS s l (wdA h i j) := by
  unfold wdA
  simp (disch := decide) only [z_c, z_ite, z_tvH, z_numN, z_tlH, z_knH]
theorem z_wdE (g : HP) : wdE (zS s l g) = wdE g := by
  unfold wdE
  simp (disch := decide) only [z_c, z_ite, z_passH, z_tvH]
theorem z_wdEH (g : HP) : wdEH (zS s l g) = zS s l (wdEH g) := by
  unfold wdEH
  simp (disch := decide) only [z_c, z_ite, z_passH, z_numH]
theorem z_wdPA (g : HP) : wdPA (zS s l g) = zS s l (wdPA g) := by
  unfold wdPA
  simp (disch := decide) only [z_c, z_ite, z_passH, z_numH]
theorem z_wdP (g : HP) : wdP (zS s l g) = wdP g := by
  unfold wdP
  simp (disch := decide) only [z_c, z_ite, z_passH, z_tvH]
theorem z_wdQ (g : HP) : wdQ (zS s l g) = wdQ g := by
  unfold wdQ
  simp (disch := decide) only [z_c, z_ite, z_passH, z_tvH, z_wdPA]
theorem z_wdFH (g : HP) : wdFH (zS s l g) = zS s l (wdFH g) := by
  unfold wdFH
  simp (disch := decide) only [z_c, z_ite, z_passH, z_numH, z_wdPA, z_wdP]
theorem z_wdS (g : HP) {i : Int} {j : Int} {e : Int} : wdS (zS s l g) i j e = zS s l (wdS g i j e) := by
  unfold wdS
  simp (disch := decide) only [z_c, z_ite, z_wrA]
theorem z_wdG (g : HP) {i : Int} {j : Int} {e : Int} : wdG (zS s l g) i j e = zS s l (wdG g i j e) := by
  unfold wdG
  simp (disch := decide) only [z_c, z_ite, z_tlH, z_wdP, z_wdQ, z_wdFH, z_wdS]
theorem z_wdH (h : HP) {i : Int} {j : Int} : wdH (zS s l h) i j = zS s l (wdH h i j) := by
  unfold wdH
  simp (disch := decide) only [z_c, z_ite, z_wdA, z_wdE, z_wdEH, z_wdG]
theorem z_caB (h : HP) {i : Int} : caB (zS s l h) i = zS s l (caB h i) := by
  unfold caB
  simp (disch := decide) only [z_c, z_ite, z_ptH, z_spH]
theorem z_caJ (h : HP) {i : Int} : caJ (zS s l h) i = caJ h i := by
  unfold caJ
  simp (disch := decide) only [z_c, z_ite, z_ptH, z_spV]
theorem z_caH (h : HP) {i : Int} : caH (zS s l h) i = zS s l (caH h i) := by
  unfold caH
  simp (disch := decide) only [z_c, z_ite, z_ptH, z_rcH, z_wdH, z_caB, z_caJ]
theorem z_woB (h : HP) {i : Int} : woB (zS s l h) i = zS s l (woB h i) := by
  unfold woB
  simp (disch := decide) only [z_c, z_ite, z_ptH, z_spH]
theorem z_woJ (h : HP) {i : Int} : woJ (zS s l h) i = woJ h i := by
  unfold woJ
  simp (disch := decide) only [z_c, z_ite, z_ptH, z_spV]
theorem z_woC (h : HP) {i : Int} : woC (zS s l h) i = zS s l (woC h i) := by
  unfold woC
  simp (disch := decide) only [z_c, z_ite, z_tvH, z_numN, z_tlH, z_rcH, z_knH, z_woB, z_woJ]
theorem z_woD (h : HP) {i : Int} : woD (zS s l h) i = zS s l (woD h i) := by
  unfold woD
  simp (disch := decide) only [z_c, z_ite, z_passH, z_tvH, z_numN, z_tlH, z_knH, z_woJ, z_woC]
theorem z_woH (h : HP) {i : Int} : woH (zS s l h) i = zS s l (woH h i) := by
  unfold woH
  simp (disch := decide) only [z_c, z_ite, z_ptH, z_woD]
theorem z_shB (h : HP) {i : Int} : shB (zS s l h) i = zS s l (shB h i) := by
  unfold shB
  simp (disch := decide) only [z_c, z_ite, z_ptH, z_spH]
theorem z_shJ (h : HP) {i : Int} : shJ (zS s l h) i = shJ h i := by
  unfold shJ
  simp (disch := decide) only [z_c, z_ite, z_ptH, z_spV]
theorem z_shC (h : HP) {i : Int} : shC (zS s l h) i = zS s l (shC h i) := by
  unfold shC
  simp (disch := decide) only [z_c, z_ite, z_ptH, z_wdH, z_shB, z_shJ]
theorem z_shD (h : HP) {i : Int} : shD (zS s l h) i = zS s l (shD h i) := by
  unfold shD
  simp (disch := decide) only [z_c, z_ite, z_tvH, z_numN, z_ptH, z_tlH, z_knH, z_shJ, z_shC]
theorem z_shE (h : HP) {i : Int} : shE (zS s l h) i = zS s l (shE h i) := by
  unfold shE
  simp (disch := decide) only [z_c, z_ite, z_tvH, z_numH, z_tlH, z_rcH, z_shJ, z_shD]
theorem z_shH (h : HP) {i : Int} : shH (zS s l h) i = zS s l (shH h i) := by
  unfold shH
  simp (disch := decide) only [z_c, z_ite, z_ptH, z_shE]
theorem z_crA (h : HP) {j : Int} : crA (zS s l h) j = zS s l (crA h j) := by
  unfold crA
  simp (disch := decide) only [z_c, z_ite, z_failH, z_icV]
theorem z_crT (h : HP) {j : Int} : crT (zS s l h) j = crT h j := by
  unfold crT
  simp (disch := decide) only [z_c, z_ite, z_tkT, z_crA]
theorem z_crM (h : HP) {j : Int} : crM (zS s l h) j = crM h j := by
  unfold crM
  simp (disch := decide) only [z_c, z_ite, z_enH, z_crA]
theorem z_crB (h : HP) {i : Int} {j : Int} : crB (zS s l h) i j = zS s l (crB h i j) := by
  unfold crB
  simp (disch := decide) only [z_c, z_ite, z_rdA, z_failH, z_crA, z_crT]
theorem z_crC (h : HP) {i : Int} {j : Int} : crC (zS s l h) i j = zS s l (crC h i j) := by
  unfold crC
  simp (disch := decide) only [z_c, z_ite, z_addRowH, z_crT, z_crM, z_crB]
theorem z_crH (h : HP) {i : Int} {j : Int} : crH (zS s l h) i j = zS s l (crH h i j) := by
  unfold crH
  simp (disch := decide) only [z_c, z_ite, z_passH, z_crC]
theorem z_chA (h : HP) : chA (zS s l h) = zS s l (chA h) := by
  unfold chA
  simp (disch := decide) only [z_c, z_ite, z_rdA, z_failH, z_ptH]
theorem z_chI (h : HP) : chI (zS s l h) = chI h := by
  unfold chI
  simp (disch := decide) only [z_c, z_ite, z_rdA, z_nnA, z_chA]
theorem z_chB (h : HP) : chB (zS s l h) = zS s l (chB h) := by
  unfold chB
  simp (disch := decide) only [z_c, z_ite, z_nnP, z_chA]
theorem z_chL (i : Int) : ∀ (m : Nat) (k : Int) (h : HP), chL i m k (zS s l h) = zS s l (chL i m k h)
  | 0, _, _ => rfl
  | m + 1, k, h => by
    unfold chL
    simp (disch := decide) only [z_c, z_crH, z_ite, z_chL i m]
theorem z_chC (h : HP) : chC (zS s l h) = zS s l (chC h) := by
  unfold chC
  simp (disch := decide) only [z_c, z_ite, z_crH, z_chI, z_chB, z_chL]
theorem z_clB (g : HP) {i : Int} : clB (zS s l g) i = clB g i := by
  unfold clB
  simp (disch := decide) only [z_c, z_ite, z_rdA]
theorem z_chH (h : HP) : chH (zS s l h) = zS s l (chH h) := by
  unfold chH
  simp (disch := decide) only [z_c, z_ite, z_failH, z_ptH, z_chI, z_chC, z_clB]
theorem z_piA (h : HP) : piA (zS s l h) = zS s l (piA h) := by
  unfold piA
  simp (disch := decide) only [z_c, z_ite, z_rdA, z_failH, z_ptH]
theorem z_piI (h : HP) : piI (zS s l h) = piI h := by
  unfold piI
  simp (disch := decide) only [z_c, z_ite, z_rdA, z_nnA, z_piA]
theorem z_piB (h : HP) : piB (zS s l h) = zS s l (piB h) := by
  unfold piB
  simp (disch := decide) only [z_c, z_ite, z_ptH, z_nnP, z_piA]
theorem z_piF (g : HP) {k : Int} : piF k (zS s l g) = zS s l (piF k g) := by
  unfold piF
  simp (disch := decide) only [z_c, z_ite, z_failH]
theorem z_piS (g : HP) {i : Int} {k : Int} : piS i k (zS s l g) = zS s l (piS i k g) := by
  unfold piS
  simp (disch := decide) only [z_c, z_ite, z_woH, z_shH, z_piF]
theorem z_piL (i : Int) : ∀ (m : Nat) (k : Int) (h : HP), piL i m k (zS s l h) = zS s l (piL i m k h)
  | 0, _, _ => rfl
  | m + 1, k, h => by
    unfold piL
    simp (disch := decide) only [z_c, z_piS, z_ite, z_piL i m]
theorem z_piH (h : HP) : piH (zS s l h) = zS s l (piH h) := by
  unfold piH
  simp (disch := decide) only [z_c, z_ite, z_ptH, z_caH, z_piI, z_piB, z_piL]
theorem z_lpR {F : HP → HP} {k : Int} (hF : ∀ h, F (zS s l h) = zS s l (F h)) : ∀ (m : Nat) (h : HP), lpR F k m (zS s l h) = zS s l (lpR F k m h)
  | 0, _ => rfl
  | m + 1, h => by
    unfold lpR
    simp (disch := decide) only [z_c, hF, z_ite, z_lpR hF m]
theorem z_rtI (h : HP) : rtI (zS s l h) = zS s l (rtI h) := by
  unfold rtI
  simp (disch := decide) only [z_c, z_ite, z_flF]
theorem z_rtS (h : HP) : rtS (zS s l h) = zS s l (rtS h) := by
  unfold rtS
  simp (disch := decide) only [z_c, z_ite, z_splT, z_rtI]
theorem z_rtZ (h : HP) : rtZ (zS s l h) = zS s l (rtZ h) := by
  unfold rtZ
  simp (disch := decide) only [z_c, z_up, z_ite, z_rtS]
theorem z_rt0 (h : HP) : rt0 (zS s l h) = zS s l (rt0 h) := by
  unfold rt0
  simp (disch := decide) only [z_c, z_ite, z_passH, z_rtZ]
theorem z_rt1 (h : HP) : rt1 (zS s l h) = zS s l (rt1 h) := by
  unfold rt1
  simp (disch := decide) only [z_c, z_ite, z_rgH, z_rsH, z_rt0]
theorem z_rt2 (h : HP) : rt2 (zS s l h) = zS s l (rt2 h) := by
  unfold rt2
  rw [z_rt1]
  exact z_lpR (fun g => z_rmH g) _ _
theorem z_rt3 (h : HP) : rt3 (zS s l h) = zS s l (rt3 h) := by
  unfold rt3
  rw [z_rt2]
  exact z_lpR (fun g => z_chH g) _ _
theorem z_rt4 (h : HP) : rt4 (zS s l h) = zS s l (rt4 h) := by
  unfold rt4
  rw [z_rt3]
  exact z_lpR (fun g => z_piH g) _ _
theorem z_rt5 (h : HP) : rt5 (zS s l h) = zS s l (rt5 h) := by
  unfold rt5
  rw [z_rt4]
  exact z_lpR (fun g => z_rlH g) _ _
theorem z_rtE (h : HP) : rtE (zS s l h) = zS s l (rtE h) := by
  unfold rtE
  simp (disch := decide) only [z_c, z_ite, z_failH, z_rt5]
end ZS
