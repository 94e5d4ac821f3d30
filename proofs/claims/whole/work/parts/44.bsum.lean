/-! ===== sums of rows: the class's closed forms ===== -/
def sumN (f : Nat → Int) : Nat → Int
  | 0 => 0
  | m + 1 => sumN f m + f m
theorem sumN_cons (f : Nat → Int) : ∀ m, sumN f (m + 1) = f 0 + sumN (fun j => f (j + 1)) m
  | 0 => by unfold sumN sumN; omega
  | m + 1 => by
    rw [sumN, sumN_cons f m]
    show f 0 + sumN (fun j => f (j + 1)) m + f (m + 1) = f 0 + (sumN (fun j => f (j + 1)) m + f (m + 1))
    omega
theorem sumN_congr {f g : Nat → Int} : ∀ {m : Nat}, (∀ j, j < m → f j = g j) → sumN f m = sumN g m
  | 0, _ => rfl
  | m + 1, h => by unfold sumN; rw [sumN_congr (fun j hj => h j (by omega)), h m (by omega)]
theorem sumN_add (f g : Nat → Int) : ∀ m, sumN (fun j => f j + g j) m = sumN f m + sumN g m
  | 0 => rfl
  | m + 1 => by unfold sumN; rw [sumN_add f g m]; omega
theorem sumN_mul (c : Int) (f : Nat → Int) : ∀ m, sumN (fun j => c * f j) m = c * sumN f m
  | 0 => by unfold sumN; omega
  | m + 1 => by unfold sumN; rw [sumN_mul c f m, Int.mul_add]
theorem sumN_const (c : Int) : ∀ m : Nat, sumN (fun _ => c) m = (m : Int) * c
  | 0 => by unfold sumN; omega
  | m + 1 => by unfold sumN; rw [sumN_const c m, show ((m + 1 : Nat) : Int) = (m : Int) + 1 from rfl, Int.add_mul]; omega
theorem sumN_rev : ∀ (m : Nat) (f : Nat → Int), sumN f m = sumN (fun j => f (m - 1 - j)) m
  | 0, _ => rfl
  | m + 1, f => by
    rw [sumN_cons (fun j => f (m + 1 - 1 - j)) m, sumN, sumN_rev m f]
    rw [show f (m + 1 - 1 - 0) = f m from rfl, sumN_congr (f := fun j => f (m + 1 - 1 - (j + 1))) (g := fun j => f (m - 1 - j)) (m := m) (fun j _ => by show f (m + 1 - 1 - (j + 1)) = f (m - 1 - j); rw [show m + 1 - 1 - (j + 1) = m - 1 - j by omega])]
    omega
theorem sumN_app (f : Nat → Int) (m : Nat) : ∀ k, sumN f (m + k) = sumN f m + sumN (fun j => f (m + j)) k
  | 0 => by show sumN f m = sumN f m + 0; omega
  | k + 1 => by
    show sumN f (m + k) + f (m + k) = sumN f m + (sumN (fun j => f (m + j)) k + f (m + k))
    rw [sumN_app f m k]; omega
theorem smF_sumN (f : Int → Int) : ∀ (m : Nat) (i a : Int), smF f m i a = a + sumN (fun j => f (i + j)) m
  | 0, i, a => by unfold smF sumN; omega
  | m + 1, i, a => by
    unfold smF
    rw [smF_sumN f m (i + 1) (a + f i), sumN_cons (fun j => f (i + j)) m]
    rw [sumN_congr (f := fun j => f (i + 1 + j)) (g := fun j => f (i + ((j + 1 : Nat) : Int))) (m := m) (fun j _ => by show f (i + 1 + j) = f (i + ((j + 1 : Nat) : Int)); rw [show i + 1 + (j : Int) = i + ((j + 1 : Nat) : Int) by omega])]
    rw [show i + ((0 : Nat) : Int) = i by omega]
    omega
theorem gcF_gcd : ∀ (e m a b : Nat), b < 2 ^ e → gcF (m + (2 * e + 1)) (a : Int) (b : Int) = (Nat.gcd a b : Nat)
  | 0, m, a, b, h => by
    have hb : b = 0 := by have : (2 : Nat) ^ 0 = 1 := rfl; omega
    subst hb
    show (if ((0 : Nat) : Int) = 0 then (a : Int) else _) = _
    rw [if_pos (show ((0 : Nat) : Int) = 0 from rfl), Nat.gcd_zero_right]
  | e + 1, m, a, b, h => by
    rw [show m + (2 * (e + 1) + 1) = (m + (2 * e + 1)) + 1 + 1 by omega]
    unfold gcF
    by_cases hb : b = 0
    · subst hb; rw [if_pos (show ((0 : Nat) : Int) = 0 from rfl), Nat.gcd_zero_right]
    · rw [if_neg (by omega), ← Int.ofNat_tmod]
      have hg : Nat.gcd a b = Nat.gcd b (a % b) := by rw [Nat.gcd_comm a b, Nat.gcd_rec b a, Nat.gcd_comm]
      have hc := Nat.mod_lt a (show 0 < b by omega)
      generalize a % b = c at *
      unfold gcF
      by_cases hc0 : c = 0
      · subst hc0; rw [if_pos (show ((0 : Nat) : Int) = 0 from rfl), hg, Nat.gcd_zero_right]
      · rw [if_neg (by omega), ← Int.ofNat_tmod]
        have hg2 : Nat.gcd b c = Nat.gcd c (b % c) := by rw [Nat.gcd_comm b c, Nat.gcd_rec c b, Nat.gcd_comm]
        have hd := Nat.mod_lt b (show 0 < c by omega)
        have hd2 : 2 * (b % c) < b := by
          have f := Nat.div_add_mod b c
          have q1 : 1 ≤ b / c := Nat.div_pos (by omega) (by omega)
          have q2 : c ≤ c * (b / c) := Nat.le_mul_of_pos_right c q1
          omega
        have hp : 2 ^ (e + 1) = 2 * 2 ^ e := by rw [Nat.pow_succ, Nat.mul_comm]
        rw [hg, hg2]
        exact gcF_gcd e m c (b % c) (by omega)
/-- how many of the first m numbers are multiples of r -/
theorem cz_all (r : Nat) (hr : 0 < r) : ∀ t, sumN (fun j => if j % r = 0 then 1 else 0) (r * t) = (t : Int)
  | 0 => rfl
  | t + 1 => by
    rw [Nat.mul_succ, sumN_app, cz_all r hr t]
    obtain ⟨q, rfl⟩ : ∃ q, r = q + 1 := ⟨r - 1, by omega⟩
    rw [sumN_cons, if_pos (by rw [Nat.add_zero]; exact Nat.mul_mod_right _ _)]
    rw [sumN_congr (f := fun j => if ((q + 1) * t + (j + 1)) % (q + 1) = 0 then (1 : Int) else 0) (g := fun _ => 0) (m := q) (fun j hj => by
      show (if ((q + 1) * t + (j + 1)) % (q + 1) = 0 then (1 : Int) else 0) = 0
      rw [Nat.mul_add_mod, Nat.mod_eq_of_lt (by omega), if_neg (by omega)])]
    rw [sumN_const]
    omega
theorem z_iff {R n : Nat} (hR : 0 < R) (j : Nat) : (j * n) % R = 0 ↔ j % (R / Nat.gcd R n) = 0 := by
  have hg : 0 < Nat.gcd R n := Nat.gcd_pos_of_pos_left n hR
  have e1 : Nat.gcd R n * (R / Nat.gcd R n) = R := Nat.mul_div_cancel' (Nat.gcd_dvd_left R n)
  have e2 : Nat.gcd R n * (n / Nat.gcd R n) = n := Nat.mul_div_cancel' (Nat.gcd_dvd_right R n)
  have hc := Nat.coprime_div_gcd_div_gcd hg
  generalize Nat.gcd R n = g at *
  generalize R / g = R1 at *
  generalize n / g = n1 at *
  constructor
  · intro h
    have d := Nat.dvd_of_mod_eq_zero h
    refine Nat.mod_eq_zero_of_dvd (hc.dvd_of_dvd_mul_right ?_)
    refine Nat.dvd_of_mul_dvd_mul_left hg ?_
    rw [e1, ← Nat.mul_assoc, Nat.mul_comm g j, Nat.mul_assoc, e2]
    exact d
  · intro h
    obtain ⟨t, ht⟩ := Nat.dvd_of_mod_eq_zero h
    refine Nat.mod_eq_zero_of_dvd ⟨t * n1, ?_⟩
    rw [ht, ← e1, ← e2, Nat.mul_assoc R1 t, ← Nat.mul_assoc t g, Nat.mul_comm t g, Nat.mul_assoc g t, ← Nat.mul_assoc R1 g, Nat.mul_comm R1 g]
theorem z_sum {R n : Nat} (hR : 0 < R) : sumN (fun j => if (j * n) % R = 0 then 1 else 0) R = (Nat.gcd R n : Nat) := by
  have hg : 0 < Nat.gcd R n := Nat.gcd_pos_of_pos_left n hR
  have e1 : (R / Nat.gcd R n) * Nat.gcd R n = R := Nat.div_mul_cancel (Nat.gcd_dvd_left R n)
  have h1 : 0 < R / Nat.gcd R n := Nat.div_pos (Nat.le_of_dvd hR (Nat.gcd_dvd_left R n)) hg
  have c := cz_all (R / Nat.gcd R n) h1 (Nat.gcd R n)
  rw [e1] at c
  rw [← c]
  refine sumN_congr (fun j _ => ?_)
  by_cases z : (j * n) % R = 0
  · rw [if_pos z, if_pos ((z_iff hR j).mp z)]
  · rw [if_neg z, if_neg (fun y => z ((z_iff hR j).mpr y))]
theorem mirror {R n j : Nat} (hR : 0 < R) (hj : j ≤ R) : ((j : Int) * n - 1) / R + (((R - j : Nat) : Int) * n - 1) / R = (n : Int) - 1 - (if (j * n) % R = 0 then 1 else 0) := by
  have e := Nat.div_add_mod (j * n) R
  have r1 := Nat.mod_lt (j * n) hR
  have a1 : (j : Int) * n = (R : Int) * ((j * n / R : Nat) : Int) + ((j * n % R : Nat) : Int) := by rw [← Int.natCast_mul, ← Int.natCast_mul, ← Int.natCast_add, e]
  have a2 : ((R - j : Nat) : Int) * n = (R : Int) * n - (j : Int) * n := by rw [show ((R - j : Nat) : Int) = (R : Int) - j by omega, Int.sub_mul]
  generalize j * n % R = r at *
  generalize hx : ((j * n / R : Nat) : Int) = a at *
  rw [a2, a1]
  have b1 : a * R = R * a := Int.mul_comm _ _
  have b2 : ((n : Int) - a - 1) * R = R * n - R * a - R := by rw [Int.sub_mul, Int.sub_mul, Int.mul_comm (n : Int), b1]; omega
  have b3 : (a - 1) * R = R * a - R := by rw [Int.sub_mul, b1]; omega
  by_cases z : r = 0
  · subst z
    rw [if_pos rfl, ediv_of (c := a - 1) (by omega) (by omega) (by omega), ediv_of (c := n - a - 1) (by omega) (by omega) (by omega)]
    omega
  · rw [if_neg z, ediv_of (c := a) (by omega) (by omega) (by omega), ediv_of (c := n - a - 1) (by omega) (by omega) (by omega)]
    omega
theorem sum_e {R n : Nat} (h1 : 1 ≤ n) (hR : n ≤ R) : 2 * sumN (fun q => (((q : Int) + 2) * n - 1) / R) R = (R : Int) * n - R + n - (Nat.gcd R n : Nat) + 2 * n := by
  have hR0 : 0 < R := by omega
  obtain ⟨e, he⟩ : ∃ e : Nat → Int, e = fun j : Nat => ((j : Int) * n - 1) / R := ⟨_, rfl⟩
  have e0 : e 0 = -1 := by rw [he]; exact ediv_of (by omega) (by omega) (by omega)
  have e1 : e 1 = 0 := by rw [he]; exact ediv_of (by omega) (by omega) (by omega)
  have c1 : (R : Int) * n = n * R := Int.mul_comm _ _
  have eR : e R = n - 1 := by rw [he]; exact ediv_of (by omega) (by rw [Int.sub_mul]; omega) (by rw [Int.sub_mul]; omega)
  have eR1 : e (R + 1) = n := by
    rw [he]
    have : ((R + 1 : Nat) : Int) * n = (R : Int) * n + n := by rw [show ((R + 1 : Nat) : Int) = (R : Int) + 1 from rfl, Int.add_mul]; omega
    exact ediv_of (by omega) (by rw [this]; omega) (by rw [this]; omega)
  have hm : sumN (fun j => e j + e (R - j)) R = sumN (fun j => ((n : Int) - 1) + (-1) * (if (j * n) % R = 0 then 1 else 0)) R := sumN_congr (fun j hj => by
    have := mirror (n := n) hR0 (show j ≤ R by omega)
    rw [he]
    show ((j : Int) * n - 1) / R + (((R - j : Nat) : Int) * n - 1) / R = _
    rw [this]; omega)
  rw [sumN_add, sumN_add, sumN_const, sumN_mul, z_sum hR0] at hm
  have hrev : sumN (fun j => e (R - j)) R = sumN (fun j => e (j + 1)) R := by
    rw [sumN_rev R (fun j => e (j + 1))]
    exact sumN_congr (fun j hj => by show e (R - j) = e (R - 1 - j + 1); rw [show R - j = R - 1 - j + 1 by omega])
  have hs1 := sumN_cons e R
  have hs2 : sumN e (R + 1) = sumN e R + e R := rfl
  have ht1 := sumN_cons (fun j => e (j + 1)) R
  have ht2 : sumN (fun j => e (j + 1)) (R + 1) = sumN (fun j => e (j + 1)) R + e (R + 1) := rfl
  have ht3 : sumN (fun j => e (j + 1 + 1)) R = sumN (fun q => (((q : Int) + 2) * n - 1) / R) R := by rw [he]; rfl
  rw [hrev] at hm
  rw [← ht3]
  have m1 : (R : Int) * ((n : Int) - 1) = R * n - R := by rw [Int.mul_sub]; omega
  have x2 : e (0 + 1) = 0 := e1
  omega
theorem sum_dn {n R : Int} (h1 : 1 ≤ n) (hR : n ≤ R) (hR2 : R ≤ 2980) : sumN (fun q => dnF n R ((q : Int) + 1)) R.toNat = n * (R + 1) - sSR R n := by
  obtain ⟨n, rfl⟩ : ∃ m : Nat, n = (m : Int) := ⟨n.toNat, by omega⟩
  obtain ⟨R, rfl⟩ : ∃ m : Nat, R = (m : Int) := ⟨R.toNat, by omega⟩
  have s := sum_e (R := R) (n := n) (by omega) (by omega)
  have g := gcF_gcd 13 37 R n (by have : (2 : Nat) ^ 13 = 8192 := rfl; omega)
  have e : sumN (fun q => dnF n R ((q : Int) + 1)) (R : Int).toNat = sumN (fun q => (((q : Int) + 2) * n - 1) / R) R := by
    rw [Int.toNat_natCast]
    refine sumN_congr (fun j _ => ?_)
    show dnF n R ((j : Int) + 1) = _
    unfold dnF
    rw [if_neg (by omega), show (j : Int) + 1 + 1 = j + 2 by omega]
  rw [e]
  unfold sSR
  rw [show gcF 64 (R : Int) (n : Int) = ((Nat.gcd R n : Nat) : Int) from g]
  generalize sumN (fun q => (((q : Int) + 2) * n - 1) / R) R = S at *
  generalize ((Nat.gcd R n : Nat) : Int) = G at *
  have m1 : (n : Int) * ((R : Int) + 1) = R * n + n := by rw [Int.mul_add, Int.mul_comm (n : Int)]; omega
  have hp : 0 ≤ (R : Int) * n := Int.mul_nonneg (by omega) (by omega)
  rw [m1]
  have hb : n * 1 ≤ n * R := Nat.mul_le_mul_left n (by omega)
  by_cases z : 0 ≤ (R : Int) * n + R - n + G
  · rw [Int.tdiv_eq_ediv_of_nonneg z]; omega
  · have hG : G < 0 := by omega
    rw [show (R : Int) * n + R - n + G = 2 * (R * n + n - S) by omega, Int.mul_tdiv_cancel_left _ (by decide)]
    omega
/-- the stitches of a part's rows together -/
theorem sO_sum {D : KD} {n k : Nat} (hK : KOK D n) (hk : k < n) (hw : why D k = 0) : sumN (fun q => sS D k q) (kR D k).toNat = sO D k := by
  have kk := hK k hk
  have R0 := kk.2.2.2.1
  by_cases hH : kH D k = -1
  · by_cases hs : shp D k = 0
    · unfold sO
      rw [if_neg (fun y => y hH), if_pos hs, sumN_congr (g := fun _ => hv D (k + 1)) (fun j _ => sS_even hH hs _), sumN_const, show (((kR D k).toNat : Nat) : Int) = kR D k by omega]
    · have hkd : kK D k = 2 := by
        by_cases y : kK D k = 2
        · exact y
        · exact absurd (show shp D k = 0 from if_pos (Or.inl y)) hs
      have p1 := kk.2.2.2.2.2.2.2.1 hkd
      have w := why0_shape hkd p1.1 hH hw
      have b := shp_bd hK hk
      have sd := sum_dn (n := shp D k) (R := kR D k) (by omega) w.2 R0.2
      unfold sO
      rw [if_neg (fun y => y hH), if_neg hs, ← sd]
      have u : ∀ q : Nat, upT q (shp D k) (kR D k) = dnF (shp D k) (kR D k) ((q : Int) + 1) := fun q => up_dn (by omega) w.2 (by omega)
      by_cases y : hv D k < hv D (k + 1)
      · rw [if_pos y, sumN_congr (g := fun q => hv D k + kP D k * dnF (shp D k) (kR D k) ((q : Int) + 1)) (fun j _ => by
          show sS D k j = _
          unfold sS; rw [if_neg (fun y => y hH), if_neg hs, if_pos y, u j]), sumN_add, sumN_const, sumN_mul, show (((kR D k).toNat : Nat) : Int) = kR D k by omega, Int.mul_comm (kP D k)]
      · rw [if_neg y, sumN_congr (g := fun q => hv D k + (-(kP D k)) * dnF (shp D k) (kR D k) ((q : Int) + 1)) (fun j _ => by
          show sS D k j = _
          unfold sS; rw [if_neg (fun y => y hH), if_neg hs, if_neg y, u j, Int.neg_mul]; omega), sumN_add, sumN_const, sumN_mul, show (((kR D k).toNat : Nat) : Int) = kR D k by omega, Int.neg_mul, Int.mul_comm (kP D k)]
        omega
  · obtain ⟨z1, z2, z3, z4, z5, z6, z7⟩ : kK D k = 1 ∧ (0 ≤ kH D k ∧ kH D k ≤ 3) ∧ (1 ≤ kW D k ∧ kW D k ≤ 36) ∧ (1 ≤ kN D k ∧ kN D k ≤ 8) ∧ kR D k % kN D k = 0 ∧ (∀ i, 0 ≤ i → i < kN D k → 1 ≤ kM D k i ∧ kM D k i ≤ 12) ∧ kM D k (kN D k - 1) = kW D k := by
      rcases kk.2.2.2.2.2.2.1 with y | y
      · exact absurd y hH
      · exact y
    obtain ⟨N, hN⟩ : ∃ N : Nat, kN D k = (N : Int) := ⟨(kN D k).toNat, by omega⟩
    obtain ⟨t, ht⟩ : ∃ t : Nat, (kR D k).toNat = N * t := ⟨(kR D k).toNat / N, by
      have e : (kR D k).toNat % N = 0 := by have : ((kR D k).toNat : Int) % (N : Int) = 0 := by rw [← hN, show (((kR D k).toNat : Nat) : Int) = kR D k by omega]; exact z5
                                            omega
      have := Nat.div_add_mod (kR D k).toNat N
      omega⟩
    have eR : kR D k = (N : Int) * t := by rw [← Int.natCast_mul, ← ht]; omega
    have hb : ∀ t : Nat, sumN (fun q => sS D k q) (N * t) = (t : Int) * (rpt D k * mBA D k) := by
      intro t
      induction t with
      | zero => show (0 : Int) = 0 * _; omega
      | succ t ih =>
        rw [Nat.mul_succ, sumN_app, ih]
        have e1 : sumN (fun j => sS D k ((N * t + j : Nat) : Int)) N = rpt D k * mBA D k := by
          unfold mBA
          rw [smF_sumN, hN, show ((N : Int) - 0).toNat = N by omega, Int.zero_add, ← sumN_mul]
          refine sumN_congr (fun j hj => ?_)
          show sS D k ((N * t + j : Nat) : Int) = rpt D k * kM D k (0 + (j : Int))
          unfold sS
          rw [if_pos hH, if_neg (by omega), hN, ← Int.ofNat_tmod, Nat.mul_add_mod, Nat.mod_eq_of_lt hj, Int.zero_add]
        rw [e1, show ((t + 1 : Nat) : Int) = (t : Int) + 1 from rfl, Int.add_mul]
        omega
    unfold sO
    rw [ht, hb t, if_pos hH, if_neg (by omega), hN, eR, Int.mul_tdiv_cancel_left _ (by omega), Int.mul_assoc]
