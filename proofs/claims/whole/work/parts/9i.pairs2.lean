/-! ===== pairs: partRows, shaping, width, mean, dealt, lotsUsed, possible, the error, differences ===== -/
def qF (k : Int) (b : Option PV) (h : HP) : Prop := ∃ x : UInt32, b = some (vF x) ∧ (k = 0 → nb32 x.toNat ∧ h 78 0 = (((FP.f2d x).toNat : Nat) : Int))
def qD (k : Int) (b : Option PV) (h : HP) : Prop := ∃ x : UInt64, b = some (vD x) ∧ (k = 0 → nb64 x.toNat ∧ h 78 0 = ((x.toNat : Nat) : Int))
section PAIR2
variable {h g h1 : HP} {s p r i c x : Int}
theorem P_partRows (J : JV h) : Ok 296 [vR 1, vI s, vI p, vI r, vR 77] (LL MO) h (fstP qI 238 [vR 50, vI s, vI p, vI r]) := by
  by_cases hx : ((isSz h s ∧ isPc h p) ∧ isPa h p r) ∧ r < (mdN h s p : Nat)
  · obtain ⟨k, rfl⟩ := Int.eq_ofNat_of_zero_le hx.1.2.1
    have hk : k < mdN h s p := Int.ofNat_lt.mp hx.2
    obtain ⟨⟨⟨h1, h2⟩, h3⟩, -⟩ := hx
    exact LW_partRows (K_partRows J.1.1.1 h1 h2 h3 hk) (fun o Λ' g P => ⟨P.2.1, Or.inl ⟨_, P.1, p_v J P.2.2 (fun h1' S J1 => by
      rw [sq_sz S] at h1; rw [sq_pc S] at h2; rw [sq_pa S] at h3; rw [sq_md S] at hk
      rw [sq_gD S]
      exact m_partRows J1.1.1.1 J1.1.1.2.1 h1 h2 h3 hk)⟩⟩)
  · refine LW_partRows (K_partRows_x J.1.1.1 hx) (fun o Λ' g P => ⟨P.2.1, ?_⟩)
    rcases P.1 with ⟨hy, e⟩ | ⟨hy, e⟩
    · refine Or.inr (Or.inr ⟨e, p_e J P.2.2 (x := 0) (by decide) (fun h1' S J1 => ?_)⟩)
      have hm : ¬ r < (mdN h s p : Nat) := fun y => hx ⟨hy, y⟩
      rw [sq_md S] at hm
      rw [sq_sz S, sq_pc S, sq_pa S] at hy
      exact m_partRows_y J1.1.1.1 J1.1.1.2.1 hy.1.1 hy.1.2 hy.2 hm
    · refine Or.inr (Or.inl ⟨e, p_e J P.2.2 (x := 0) (by decide) (fun h1' S J1 => ?_)⟩)
      rw [sq_sz S, sq_pc S, sq_pa S] at hy
      exact m_partRows_x J1.1.1.1 J1.1.1.2.1 (fun y => hy ⟨⟨y.1, y.2.1⟩, y.2.2⟩)
theorem P_shaping (J : JV h) (hir : inR i) : Ok 300 [vR 1, vI s, vI p, vI r, vI i, vR 77] (LL MO) h (fstP qI 243 [vR 50, vI s, vI p, vI r, vI i]) := by
  by_cases hx : ((isSz h s ∧ isPc h p) ∧ isPa h p r) ∧ r < (mdN h s p : Nat)
  · obtain ⟨k, rfl⟩ := Int.eq_ofNat_of_zero_le hx.1.2.1
    have hk : k < mdN h s p := Int.ofNat_lt.mp hx.2
    obtain ⟨⟨⟨h1, h2⟩, h3⟩, -⟩ := hx
    by_cases hi : 0 ≤ i ∧ i < shp (gD h s p) k
    · exact LW_shaping (K_shaping J.1.1.1 h1 h2 h3 hk hi) (fun o Λ' g P => ⟨P.2.1, Or.inl ⟨_, P.1, p_v J P.2.2 (fun h1' S J1 => by
        rw [sq_sz S] at h1; rw [sq_pc S] at h2; rw [sq_pa S] at h3; rw [sq_md S] at hk; rw [sq_gD S] at hi
        rw [sq_gD S]
        refine Ok_mono (fun o Λ' h' Q => ?_) (m_shaping J1.1.1.1 J1.1.1.2.1 h1 h2 h3 hk hir)
        rcases Q.2.2 with ⟨_, e, e0⟩ | ⟨n, _⟩
        · exact ⟨e, Q.1, Q.2.1, e0⟩
        · exact absurd hi n)⟩⟩)
    · exact LW_shaping (K_shaping_n J.1.1.1 h1 h2 h3 hk hi) (fun o Λ' g P => ⟨P.2.1, Or.inr (Or.inr (Or.inr ⟨P.1, p_e J P.2.2 (x := 0) (by decide) (fun h1' S J1 => by
        rw [sq_sz S] at h1; rw [sq_pc S] at h2; rw [sq_pa S] at h3; rw [sq_md S] at hk; rw [sq_gD S] at hi
        refine Ok_mono (fun o Λ' h' Q => ?_) (m_shaping J1.1.1.1 J1.1.1.2.1 h1 h2 h3 hk hir)
        rcases Q.2.2 with ⟨n, _⟩ | ⟨_, e, e0⟩
        · exact absurd n hi
        · exact ⟨e, Q.1, Q.2.1, e0⟩)⟩))⟩)
  · refine LW_shaping (K_shaping_x J.1.1.1 hx) (fun o Λ' g P => ⟨P.2.1, ?_⟩)
    rcases P.1 with ⟨hy, e⟩ | ⟨hy, e⟩
    · refine Or.inr (Or.inr (Or.inl ⟨e, p_e J P.2.2 (x := 0) (by decide) (fun h1' S J1 => ?_)⟩))
      have hm : ¬ r < (mdN h s p : Nat) := fun y => hx ⟨hy, y⟩
      rw [sq_md S] at hm
      rw [sq_sz S, sq_pc S, sq_pa S] at hy
      exact m_shaping_y J1.1.1.1 J1.1.1.2.1 hy.1.1 hy.1.2 hy.2 hm
    · refine Or.inr (Or.inl ⟨e, p_e J P.2.2 (x := 0) (by decide) (fun h1' S J1 => ?_)⟩)
      rw [sq_sz S, sq_pc S, sq_pa S] at hy
      exact m_shaping_x J1.1.1.1 J1.1.1.2.1 (fun y => hy ⟨⟨y.1, y.2.1⟩, y.2.2⟩)
theorem wd_fit (hC : CI h) (hs : isSz h s) (hp : isPc h p) {k : Nat} (hk : k < mdN h s p) (q1 : tp (gD h s p) k ≤ r) (q2 : r < tp (gD h s p) (k + 1)) :
    vf_n32 (FP.fmul (FP.i2f (Int32.ofInt (sS (gD h s p) k (r - tp (gD h s p) k)))) 1120403456) ∧ vf_n32 (wdF (sS (gD h s p) k (r - tp (gD h s p) k)) (rd (h 28) 132 0)) ∧ nb32 (wdF (sS (gD h s p) k (r - tp (gD h s p) k)) (rd (h 28) 132 0)).toNat := by
  have K := KOK_h hC hs hp
  have m := md_spec (gD h s p) (gN h p)
  have hk2 : k < md (gD h s p) (gN h p) := hk
  have e : tp (gD h s p) (k + 1) = tp (gD h s p) k + kR (gD h s p) k := rfl
  have b := sS_bd K.1 (k := k) (i := r - tp (gD h s p) k) (by omega) (m.2.1 k hk2) (by omega) (by omega)
  exact width_ok ⟨by omega, by omega⟩ hC.2.1
theorem p_vF {z : Nat} {as : List PV} {v : UInt32} (J : JV h) (f : FrQ h g) (hv : nb32 v.toNat) (M : ∀ h1, Sq h h1 → JV h1 → Ok z as (LL MO) h1 (vaP MO h1 (vF v))) : fstP qF z as (.inl (some (vI 0))) (LL MO) (up g 78 0 (((FP.f2d v).toNat : Nat) : Int)) :=
  have S := Sq_up (j := 78) (i := 0) (v := (((FP.f2d v).toNat : Nat) : Int)) (Sq_Q f) (by decide)
  ⟨rfl, 0, rfl, Ok_mono (fun o Λ' h' P => ⟨P.2.1, JV_M (JV_Sq J S) P.2.2.1, P.2.2.2, _, P.1, v, rfl, fun _ => ⟨hv, (congrFun (P.2.2.1.1 78 (by decide) (by decide)) 0).trans up_same⟩⟩) (M _ S (JV_Sq J S))⟩
theorem p_vD {z : Nat} {as : List PV} {v : UInt64} (J : JV h) (f : FrQ h g) (hv : nb64 v.toNat) (M : ∀ h1, Sq h h1 → JV h1 → Ok z as (LL MO) h1 (vaP MO h1 (vD v))) : fstP qD z as (.inl (some (vI 0))) (LL MO) (up g 78 0 ((v.toNat : Nat) : Int)) :=
  have S := Sq_up (j := 78) (i := 0) (v := ((v.toNat : Nat) : Int)) (Sq_Q f) (by decide)
  ⟨rfl, 0, rfl, Ok_mono (fun o Λ' h' P => ⟨P.2.1, JV_M (JV_Sq J S) P.2.2.1, P.2.2.2, _, P.1, v, rfl, fun _ => ⟨hv, (congrFun (P.2.2.1.1 78 (by decide) (by decide)) 0).trans up_same⟩⟩) (M _ S (JV_Sq J S))⟩
theorem P_width (J : JV h) : Ok 301 [vR 1, vI s, vI p, vI r, vR 78] (LL MO) h (fstP qF 244 [vR 50, vI s, vI p, vI r]) := by
  by_cases hx : (isSz h s ∧ isPc h p) ∧ 0 ≤ r ∧ r < rwN h s p
  · obtain ⟨k, k1, k2, k3⟩ := row_part (mdN h s p) r hx.2.1 hx.2.2
    obtain ⟨⟨hs, hp⟩, -⟩ := hx
    obtain ⟨f1, f2, f3⟩ := wd_fit J.1.1.1 hs hp k1 k2 k3
    exact LW_width (K_width J.1.1.1 hs hp k1 k2 k3 f1 f2) (fun o Λ' g P => ⟨P.2.1, Or.inl ⟨_, P.1, (f2d_ok f3).1, p_vF J P.2.2 f3 (fun h1 S J1 => by
      rw [sq_sz S] at hs; rw [sq_pc S] at hp; rw [sq_md S] at k1; rw [sq_gD S] at k2 k3
      have F := wd_fit J1.1.1.1 hs hp k1 k2 k3
      rw [sq_gD S, sq_c S (c := 28) (by decide) (by decide)]
      exact m_width J1.1.1.1 J1.1.1.2.1 hs hp k1 k2 k3 F.1 F.2.1)⟩⟩)
  · refine LW_width (K_width_x J.1.1.1 hx) (fun o Λ' g P => ⟨P.2.1, Or.inr ⟨P.1, rfl, 1, rfl, ?_⟩⟩)
    have S := Sq_Q P.2.2
    rw [sq_sz S, sq_pc S, sq_rw S] at hx
    exact Ok_mono (fun o Λ' h' Q => ⟨Q.2.1, JV_M (JV_Sq J S) Q.2.2.1, Q.2.2.2, _, Q.1, _, rfl, fun y => absurd y (by decide)⟩) (m_width_x (JV_Sq J S).1.1.1 (JV_Sq J S).1.1.2.1 hx)
theorem P_mean (J : JV h) : Ok 302 [vR 1, vI s, vI p, vR 78] (LL MO) h (fstP qD 245 [vR 50, vI s, vI p]) := by
  by_cases hx : isSz h s ∧ isPc h p
  · obtain ⟨hs, hp⟩ := hx
    have rb := rwN_bd J.1.1.1 hs hp
    have F := mean_ok (sm := sAll (gD h s p) (mdN h s p) 0 0) (rw9 := rwN h s p) ⟨rb.1, by omega⟩
    exact LW_mean (K_mean J.1.1.1 hs hp rb.1 F.1) (fun o Λ' g P => ⟨P.2.1, Or.inl ⟨_, P.1, p_vD J P.2.2 F.2 (fun h1 S J1 => by
      rw [sq_sz S] at hs; rw [sq_pc S] at hp
      rw [sq_gD S, sq_md S, sq_rw S] at F ⊢
      exact m_mean J1.1.1.1 J1.1.1.2.1 hs hp F.1)⟩⟩)
  · refine LW_mean (K_mean_x hx) (fun o Λ' g P => ⟨P.2.1, Or.inr ⟨P.1, rfl, 1, rfl, ?_⟩⟩)
    have S := Sq_Q P.2.2
    rw [sq_sz S, sq_pc S] at hx
    exact Ok_mono (fun o Λ' h' Q => ⟨Q.2.1, JV_M (JV_Sq J S) Q.2.2.1, Q.2.2.2, _, Q.1, _, rfl, fun y => absurd y (by decide)⟩) (m_mean_x (JV_Sq J S).1.1.1 (JV_Sq J S).1.1.2.1 hx)
theorem iand15m (a : Int) : iandI a 15 = a % 16 := by
  have e := ii_and a 15 (by omega)
  have e2 : (a % 4294967296).toNat &&& 15 = (a % 4294967296).toNat % 16 := Nat.and_two_pow_sub_one_eq_mod _ 4
  rw [show ((15 : Nat) : Int) = 15 from rfl] at e
  rw [e, e2]
  omega
theorem dig_at {B : Int} (b : 0 ≤ B ∧ B ≤ 270000000) {p : Nat} (hp : p < 6) : iandI (ishrI B (4 * (5 - (p : Int)))) 15 = B / 16 ^ (5 - p) % 16 := by
  have hb : inR B := ⟨by omega, by omega⟩
  rw [iand15m]
  have c : p = 0 ∨ p = 1 ∨ p = 2 ∨ p = 3 ∨ p = 4 ∨ p = 5 := by omega
  rcases c with rfl | rfl | rfl | rfl | rfl | rfl
  · have e := ishr_div hb 20 rfl
    exact congrArg (· % 16) e
  · have e := ishr_div hb 16 rfl
    exact congrArg (· % 16) e
  · have e := ishr_div hb 12 rfl
    exact congrArg (· % 16) e
  · have e := ishr_div hb 8 rfl
    exact congrArg (· % 16) e
  · have e := ishr_div hb 4 rfl
    exact congrArg (· % 16) e
  · have e := ishr_div hb 0 rfl
    exact congrArg (· % 16) e
theorem nd_n (hC : CI h) : ∃ n : Nat, rd (h 21) 4 3 = (n : Int) ∧ n ≤ 6 := by
  have b := hC.1.2.2.2.1
  exact ⟨(rd (h 21) 4 3).toNat, by omega, by omega⟩
theorem nd_s (hC : CI h) : ∃ n : Nat, rd (h 21) 4 0 = (n : Int) ∧ n ≤ 6 := by
  have b := hC.1.1
  exact ⟨(rd (h 21) 4 0).toNat, by omega, by omega⟩
theorem sq_al (S : Sq h h1) (s : Int) (n : Nat) : allK h s n = allK h1 s n := by unfold allK; simp only [sq_gD S, sq_gN S]
theorem sq_wC (S : Sq h h1) (s : Int) (n : Nat) (c : Int) : wC h s n c = wC h1 s n c := by funext p; unfold wC; rw [sq_nC S]
theorem sq_bB (S : Sq h h1) (s : Int) (n : Nat) (c : Int) : bB h s n c = bB h1 s n c := by unfold bB lotN; rw [sq_wC S, sq_c S (c := 28) (by decide) (by decide)]
theorem P_dealt (J : JV h) : Ok 305 [vR 1, vI s, vI p, vI c, vR 77] (LL MO) h (fstP qI 255 [vR 50, vI s, vI p, vI c]) := by
  by_cases hx : isSz h s ∧ isPc h p
  · by_cases hc : 0 ≤ c ∧ c ≤ 3
    · obtain ⟨n, hn, n6⟩ := nd_n J.1.1.1
      obtain ⟨hs, hp⟩ := hx
      refine LW_dealt (K_dealt J.1.1.1 hs hp hc hn) (fun o Λ' g P => ⟨P.1, ?_⟩)
      have mk : ∀ h1 : HP, Sq h h1 → JV h1 → _ := fun h1 S J1 => m_dealt (M := MO) J1.1.1.1 J1.1.1.2.1 (by rw [sq_sz S] at hs; exact hs) (by rw [sq_pc S] at hp; exact hp) hc (by rw [sq_c S (c := 21) (by decide) (by decide)] at hn; exact hn)
      rcases P.2.2 with ⟨na, e⟩ | ⟨ha, nd, hN, ⟨eb, e⟩ | ⟨eb, e⟩⟩
      · refine Or.inr (Or.inr (Or.inr (Or.inl ⟨e, p_e J P.2.1 (x := 0) (by decide) (fun h1 S J1 => Ok_mono (fun o Λ' h' Q => ?_) (mk h1 S J1))⟩)))
        rw [sq_al S] at na
        rcases Q.2.2 with ⟨-, e, e0⟩ | ⟨y, -⟩
        · exact ⟨e, Q.1, Q.2.1, e0⟩
        · exact absurd y na
      · refine Or.inr (Or.inr (Or.inr (Or.inr ⟨e, p_e J P.2.1 (x := 0) (by decide) (fun h1 S J1 => Ok_mono (fun o Λ' h' Q => ?_) (mk h1 S J1))⟩)))
        rw [bD_w hN hc, sq_bB S] at eb
        rw [sq_al S] at ha
        rcases Q.2.2 with ⟨y, -⟩ | ⟨-, ⟨-, e, e0⟩ | ⟨y, -⟩⟩
        · exact absurd ha y
        · exact ⟨e, Q.1, Q.2.1, e0⟩
        · exact absurd eb y
      · refine Or.inl ⟨_, e, p_v J P.2.1 (fun h1 S J1 => Ok_mono (fun o Λ' h' Q => ?_) (mk h1 S J1))⟩
        have hp6 : p.toNat < 6 := by have := hp.1; have := hp.2; omega
        have pe : p = ((p.toNat : Nat) : Int) := by have := hp.1; omega
        have hpn : p.toNat < n := by have := hp.1; have := hp.2; omega
        have ew : wN nd c p.toNat = wC h s n c p.toNat := by
          have y := hN p.toNat c.toNat hpn (by omega)
          rw [show ((c.toNat : Nat) : Int) = c by omega, ← pe] at y
          unfold wC
          rw [if_pos hpn, ← pe]
          exact y
        have ev : dlC h n c p nd = if 0 < wC h1 s n c p.toNat then bB h1 s n c / 16 ^ (5 - p.toNat) % 16 else -1 := by
          unfold dlC
          rw [ew, bD_w hN hc, ← sq_wC S, ← sq_bB S]
          rw [bD_w hN hc] at eb
          have bb := (bB_bd J.1.1.1 n6 (s := s) c).resolve_left eb
          have dg := dig_at bb hp6
          rw [← pe] at dg
          rw [dg]
        rw [bD_w hN hc, sq_bB S] at eb
        rw [sq_al S] at ha
        rcases Q.2.2 with ⟨y, -⟩ | ⟨-, ⟨y, -⟩ | ⟨-, e0, e⟩⟩
        · exact absurd ha y
        · exact absurd y eb
        · rw [ev]
          exact ⟨e, Q.1, Q.2.1, e0⟩
    · exact LW_dealt (K_dealt_c hx.1 hx.2 hc) (fun o Λ' g P => ⟨P.2.1, Or.inr (Or.inr (Or.inl ⟨P.1, p_e J (FrQ_eq P.2.2) (by decide) (fun h1 S J1 => by
        rw [sq_sz S, sq_pc S] at hx
        exact m_dealt_c J1.1.1.1 J1.1.1.2.1 hx.1 hx.2 hc)⟩))⟩)
  · exact LW_dealt (K_dealt_x hx) (fun o Λ' g P => ⟨P.2.1, Or.inr (Or.inl ⟨P.1, p_e J (FrQ_eq P.2.2) (by decide) (fun h1 S J1 => by
      rw [sq_sz S, sq_pc S] at hx
      exact m_dealt_x J1.1.1.1 J1.1.1.2.1 hx)⟩)⟩)
theorem P_lotsUsed (J : JV h) : Ok 306 [vR 1, vI s, vR 77] (LL MO) h (fstP qI 256 [vR 50, vI s]) := by
  by_cases hs : isSz h s
  · obtain ⟨n, hn, n6⟩ := nd_n J.1.1.1
    refine LW_lotsUsed (K_lotsUsed J.1.1.1 hs hn) (fun o Λ' g P => ⟨P.1, ?_⟩)
    have mk : ∀ h1 : HP, Sq h h1 → JV h1 → _ := fun h1 S J1 => m_lotsUsed (M := MO) J1.1.1.1 J1.1.1.2.1 (by rw [sq_sz S] at hs; exact hs) (by rw [sq_c S (c := 21) (by decide) (by decide)] at hn; exact hn)
    have ef : ∀ h1 : HP, Sq h h1 → lB (fun c => bB h s n c) 4 0 0 = lB (fun c => bB h1 s n c) 4 0 0 := fun h1 S => by
      have e : (fun c : Nat => bB h s n c) = fun c : Nat => bB h1 s n c := funext (fun c => sq_bB S s n c)
      rw [e]
    rcases P.2.2 with ⟨na, e⟩ | ⟨ha, nd, hN, ⟨eb, e⟩ | ⟨eb, e⟩⟩
    · refine Or.inr (Or.inr (Or.inl ⟨e, p_e J P.2.1 (x := 0) (by decide) (fun h1 S J1 => Ok_mono (fun o Λ' h' Q => ?_) (mk h1 S J1))⟩))
      rw [sq_al S] at na
      rcases Q.2.2 with ⟨-, e, e0⟩ | ⟨y, -⟩
      · exact ⟨e, Q.1, Q.2.1, e0⟩
      · exact absurd y na
    · refine Or.inr (Or.inr (Or.inr ⟨e, p_e J P.2.1 (x := 0) (by decide) (fun h1 S J1 => Ok_mono (fun o Λ' h' Q => ?_) (mk h1 S J1))⟩))
      rw [lAF_B J.1.1.1 n6 hN 4 0 0 (by decide), ef h1 S] at eb
      rw [sq_al S] at ha
      rcases Q.2.2 with ⟨y, -⟩ | ⟨-, ⟨-, e, e0⟩ | ⟨y, -⟩⟩
      · exact absurd ha y
      · exact ⟨e, Q.1, Q.2.1, e0⟩
      · exact absurd eb y
    · refine Or.inl ⟨_, e, p_v J P.2.1 (fun h1 S J1 => Ok_mono (fun o Λ' h' Q => ?_) (mk h1 S J1))⟩
      rw [lAF_B J.1.1.1 n6 hN 4 0 0 (by decide), ef h1 S] at eb ⊢
      rw [sq_al S] at ha
      rcases Q.2.2 with ⟨y, -⟩ | ⟨-, ⟨y, -⟩ | ⟨-, e0, e⟩⟩
      · exact absurd ha y
      · exact absurd y eb
      · exact ⟨e, Q.1, Q.2.1, e0⟩
  · exact LW_lotsUsed (K_lotsUsed_x hs) (fun o Λ' g P => ⟨P.2.1, Or.inr (Or.inl ⟨P.1, p_e J (FrQ_eq P.2.2) (by decide) (fun h1 S J1 => by
      rw [sq_sz S] at hs
      exact m_lotsUsed_x J1.1.1.1 J1.1.1.2.1 hs)⟩)⟩)
/-- possible: the two answers are compared at once -/
theorem P_possible (J : JV h) : Ok 153 [vR 1] (LL MO) h (fun o Λ' g => Λ' = LL MO ∧ ∃ x, o = .inl (some (vI x)) ∧ Ok 257 [vR 50] (LL MO) g (fun o Λ' h' => Λ' = LL MO ∧ JV h' ∧ o = .inl (some (vI x)))) := by
  obtain ⟨n, hn, n6⟩ := nd_n J.1.1.1
  obtain ⟨ns, hns, -⟩ := nd_s J.1.1.1
  refine Ok_mono (fun o Λ' g P => ⟨P.1, ?_⟩) (K_possible J.1.1.1 hn hns)
  obtain ⟨-, f, r, e, O⟩ := P
  refine ⟨r, e, ?_⟩
  have S := Sq_Q f
  have J1 := JV_Sq J S
  rw [sq_c S (c := 21) (by decide) (by decide)] at hn hns
  refine Ok_mono (fun o Λ' h' Q => ⟨Q.1, JV_M J1 Q.2.1, ?_⟩) (m_possible J1.1.1.1 J1.1.1.2.1 hn hns)
  obtain ⟨-, -, -, r', e', O'⟩ := Q
  have O2 : orF (canM h n) ns 0 0 r := orF_congr (fun t => canK_M J.1.1.1 n6) ns 0 0 r O
  have O3 : orF (canM h n) ns 0 0 r' := orF_congr (fun t => by
    unfold canM
    rw [sq_al S]
    simp only [sq_bB S]) ns 0 0 r' O'
  rw [e', orF_fun ns 0 0 r r' O2 O3]
theorem P_errorCode (J : JV h) : Ok 129 [vR 1] (LL MO) h (fun o Λ' g => Λ' = LL MO ∧ ∃ x, o = .inl (some (vI x)) ∧ Ok 209 [vR 50] (LL MO) g (fun o Λ' h' => Λ' = LL MO ∧ JV h' ∧ o = .inl (some (vI x)))) := by
  refine Ok_rt K_errorCode ⟨rfl, _, rfl, Ok_rt m_errorCode ⟨rfl, JV_M J FrM_0, ?_⟩⟩
  rw [J.1.2.2.2.2.1.1]
theorem P_errorPosition (J : JV h) : Ok 130 [vR 1] (LL MO) h (fun o Λ' g => Λ' = LL MO ∧ ∃ x, o = .inl (some (vI x)) ∧ Ok 210 [vR 50] (LL MO) g (fun o Λ' h' => Λ' = LL MO ∧ JV h' ∧ o = .inl (some (vI x)))) := by
  refine Ok_rt K_errorPosition ⟨rfl, _, rfl, Ok_rt m_errorPosition ⟨rfl, JV_M J FrM_0, ?_⟩⟩
  rw [J.1.2.2.2.2.1.2]
end PAIR2
