/-! ===== the law's entry: what is left is the world (by mk9t.py) ===== -/
theorem en_0 : ∀ q ∈ mcl_0.1, EntOK "KnitGraderLaw" code cp_L room_1 false q := ent_L (pg := pg_L_law_0) (by decide +kernel)
theorem en_212 : ∀ q ∈ mcl_212.1, EntOK "KnitGraderLaw" code cp_L room_1 false q := ent_L (pg := pg_L_law_212) (by decide +kernel)
theorem en_316 : ∀ q ∈ mcl_316.1, EntOK "KnitGraderLaw" code cp_L room_1 false q := ent_L (pg := pg_L_law_316) (by decide +kernel)
theorem en_372 : ∀ q ∈ mcl_372.1, EntOK "KnitGraderLaw" code cp_L room_1 false q := ent_L (pg := pg_L_law_372) (by decide +kernel)
theorem en_416 : ∀ q ∈ mcl_416.1, EntOK "KnitGraderLaw" code cp_L room_1 false q := ent_L (pg := pg_L_law_416) (by decide +kernel)
theorem en_429 : ∀ q ∈ mcl_429.1, EntOK "KnitGraderLaw" code cp_L room_1 false q := ent_L (pg := pg_L_law_429) (by decide +kernel)
theorem en_442 : ∀ q ∈ mcl_442.1, EntOK "KnitGraderLaw" code cp_L room_1 false q := ent_L (pg := pg_L_law_442) (by decide +kernel)
theorem en_498 : ∀ q ∈ mcl_498.1, EntOK "KnitGraderLaw" code cp_L room_1 false q := ent_L (pg := pg_L_law_498) (by decide +kernel)
theorem en_554 : ∀ q ∈ mcl_554.1, EntOK "KnitGraderLaw" code cp_L room_1 false q := ent_L (pg := pg_L_law_554) (by decide +kernel)
theorem en_622 : ∀ q ∈ mcl_622.1, EntOK "KnitGraderLaw" code cp_L room_1 false q := ent_L (pg := pg_L_law_622) (by decide +kernel)
theorem en_685 : ∀ q ∈ mcl_685.1, EntOK "KnitGraderLaw" code cp_L room_1 false q := ent_L (pg := pg_L_law_685) (by decide +kernel)
theorem en_753 : ∀ q ∈ mcl_753.1, EntOK "KnitGraderLaw" code cp_L room_1 false q := ent_L (pg := pg_L_law_753) (by decide +kernel)
theorem en_821 : ∀ q ∈ mcl_821.1, EntOK "KnitGraderLaw" code cp_L room_1 false q := ent_L (pg := pg_L_law_821) (by decide +kernel)
theorem en_917 : ∀ q ∈ mcl_917.1, EntOK "KnitGraderLaw" code cp_L room_1 false q := ent_L (pg := pg_L_law_917) (by decide +kernel)
theorem en_997 : ∀ q ∈ mcl_997.1, EntOK "KnitGraderLaw" code cp_L room_1 false q := ent_L (pg := pg_L_law_997) (by decide +kernel)
theorem en_1053 : ∀ q ∈ mcl_1053.1, EntOK "KnitGraderLaw" code cp_L room_1 false q := ent_L (pg := pg_L_law_1053) (by decide +kernel)
theorem en_1121 : ∀ q ∈ mcl_1121.1, EntOK "KnitGraderLaw" code cp_L room_1 false q := ent_L (pg := pg_L_law_1121) (by decide +kernel)
theorem en_1189 : ∀ q ∈ mcl_1189.1, EntOK "KnitGraderLaw" code cp_L room_1 false q := ent_L (pg := pg_L_law_1189) (by decide +kernel)
theorem en_1269 : ∀ q ∈ mcl_1269.1, EntOK "KnitGraderLaw" code cp_L room_1 false q := ent_L (pg := pg_L_law_1269) (by decide +kernel)
theorem en_1349 : ∀ q ∈ mcl_1349.1, EntOK "KnitGraderLaw" code cp_L room_1 false q := ent_L (pg := pg_L_law_1349) (by decide +kernel)
theorem en_1429 : ∀ q ∈ mcl_1429.1, EntOK "KnitGraderLaw" code cp_L room_1 false q := ent_L (pg := pg_L_law_1429) (by decide +kernel)
theorem en_1525 : ∀ q ∈ mcl_1525.1, EntOK "KnitGraderLaw" code cp_L room_1 false q := ent_L (pg := pg_L_law_1525) (by decide +kernel)
theorem en_1617 : ∀ q ∈ mcl_1617.1, EntOK "KnitGraderLaw" code cp_L room_1 false q := ent_L (pg := pg_L_law_1617) (by decide +kernel)
theorem en_1719 : ∀ q ∈ mcl_1719.1, EntOK "KnitGraderLaw" code cp_L room_1 false q := ent_L (pg := pg_L_law_1719) (by decide +kernel)
theorem en_1808 : ∀ q ∈ mcl_1808.1, EntOK "KnitGraderLaw" code cp_L room_1 false q := ent_L (pg := pg_L_law_1808) (by decide +kernel)
theorem en_1887 : ∀ q ∈ mcl_1887.1, EntOK "KnitGraderLaw" code cp_L room_1 false q := ent_L (pg := pg_L_law_1887) (by decide +kernel)
theorem en_1955 : ∀ q ∈ mcl_1955.1, EntOK "KnitGraderLaw" code cp_L room_1 false q := ent_L (pg := pg_L_law_1955) (by decide +kernel)
theorem en_2035 : ∀ q ∈ mcl_2035.1, EntOK "KnitGraderLaw" code cp_L room_1 false q := ent_L (pg := pg_L_law_2035) (by decide +kernel)
theorem en_2091 : ∀ q ∈ mcl_2091.1, EntOK "KnitGraderLaw" code cp_L room_1 false q := ent_L (pg := pg_L_law_2091) (by decide +kernel)
theorem en_2104 : ∀ q ∈ mcl_2104.1, EntOK "KnitGraderLaw" code cp_L room_1 false q := ent_L (pg := pg_L_law_2104) (by decide +kernel)
theorem en_2184 : ∀ q ∈ mcl_2184.1, EntOK "KnitGraderLaw" code cp_L room_1 false q := ent_L (pg := pg_L_law_2184) (by decide +kernel)
theorem en_2264 : ∀ q ∈ mcl_2264.1, EntOK "KnitGraderLaw" code cp_L room_1 false q := ent_L (pg := pg_L_law_2264) (by decide +kernel)
theorem en_2344 : ∀ q ∈ mcl_2344.1, EntOK "KnitGraderLaw" code cp_L room_1 false q := ent_L (pg := pg_L_law_2344) (by decide +kernel)
theorem en_2424 : ∀ q ∈ mcl_2424.1, EntOK "KnitGraderLaw" code cp_L room_1 false q := ent_L (pg := pg_L_law_2424) (by decide +kernel)
theorem en_2492 : ∀ q ∈ mcl_2492.1, EntOK "KnitGraderLaw" code cp_L room_1 false q := ent_L (pg := pg_L_law_2492) (by decide +kernel)
theorem en_2548 : ∀ q ∈ mcl_2548.1, EntOK "KnitGraderLaw" code cp_L room_1 false q := ent_L (pg := pg_L_law_2548) (by decide +kernel)
theorem en_2592 : ∀ q ∈ mcl_2592.1, EntOK "KnitGraderLaw" code cp_L room_1 false q := ent_L (pg := pg_L_law_2592) (by decide +kernel)
theorem en_2628 : ∀ q ∈ mcl_2628.1, EntOK "KnitGraderLaw" code cp_L room_1 false q := ent_L (pg := pg_L_law_2628) (by decide +kernel)
theorem en_2664 : ∀ q ∈ mcl_2664.1, EntOK "KnitGraderLaw" code cp_L room_1 false q := ent_L (pg := pg_L_law_2664) (by decide +kernel)
theorem en_2720 : ∀ q ∈ mcl_2720.1, EntOK "KnitGraderLaw" code cp_L room_1 false q := ent_L (pg := pg_L_law_2720) (by decide +kernel)
theorem ent_law : ∀ M ∈ MLs, ∀ q ∈ M.1, EntOK "KnitGraderLaw" code cp_L room_1 false q := by
  unfold MLs
  exact List.forall_mem_cons.mpr ⟨en_0, List.forall_mem_cons.mpr ⟨en_212, List.forall_mem_cons.mpr ⟨en_316, List.forall_mem_cons.mpr ⟨en_372, List.forall_mem_cons.mpr ⟨en_416, List.forall_mem_cons.mpr ⟨en_429, List.forall_mem_cons.mpr ⟨en_442, List.forall_mem_cons.mpr ⟨en_498, List.forall_mem_cons.mpr ⟨en_554, List.forall_mem_cons.mpr ⟨en_622, List.forall_mem_cons.mpr ⟨en_685, List.forall_mem_cons.mpr ⟨en_753, List.forall_mem_cons.mpr ⟨en_821, List.forall_mem_cons.mpr ⟨en_917, List.forall_mem_cons.mpr ⟨en_997, List.forall_mem_cons.mpr ⟨en_1053, List.forall_mem_cons.mpr ⟨en_1121, List.forall_mem_cons.mpr ⟨en_1189, List.forall_mem_cons.mpr ⟨en_1269, List.forall_mem_cons.mpr ⟨en_1349, List.forall_mem_cons.mpr ⟨en_1429, List.forall_mem_cons.mpr ⟨en_1525, List.forall_mem_cons.mpr ⟨en_1617, List.forall_mem_cons.mpr ⟨en_1719, List.forall_mem_cons.mpr ⟨en_1808, List.forall_mem_cons.mpr ⟨en_1887, List.forall_mem_cons.mpr ⟨en_1955, List.forall_mem_cons.mpr ⟨en_2035, List.forall_mem_cons.mpr ⟨en_2091, List.forall_mem_cons.mpr ⟨en_2104, List.forall_mem_cons.mpr ⟨en_2184, List.forall_mem_cons.mpr ⟨en_2264, List.forall_mem_cons.mpr ⟨en_2344, List.forall_mem_cons.mpr ⟨en_2424, List.forall_mem_cons.mpr ⟨en_2492, List.forall_mem_cons.mpr ⟨en_2548, List.forall_mem_cons.mpr ⟨en_2592, List.forall_mem_cons.mpr ⟨en_2628, List.forall_mem_cons.mpr ⟨en_2664, List.forall_mem_cons.mpr ⟨en_2720, fun _ h => absurd h List.not_mem_nil⟩⟩⟩⟩⟩⟩⟩⟩⟩⟩⟩⟩⟩⟩⟩⟩⟩⟩⟩⟩⟩⟩⟩⟩⟩⟩⟩⟩⟩⟩⟩⟩⟩⟩⟩⟩⟩⟩⟩⟩
/-- the addresses at the start: the script's, the texts', the tables' -/
def ad_0 (b : Nat) (st rf : Nat → Nat) : Nat → Nat := fun i => if 3000 ≤ i then rf (i - 3000) else if 1000 ≤ i then st (i - 1000) else b
/-- the heap at the start -/
def sc_0 (xs : Nat → Int32) : Nat → Int := fun j => (xs j).toInt
section ENTRY
variable {p : Program} {l : Launch} {e : Env} {s : State} {m : MethodId} {below : List Frame} {meth : Method} {c : Code} {b : Nat} {g : GE} {ad0 : Nat → Nat} {h0 : HP}
theorem law_HX (C : CX p l s m #[.ref b] meth c g ad0 h0 (fun q => s.heap.size ≤ q) code 9 "KnitGraderLaw") (hr : meth.sig.returnType = ret) (htab : c.exceptionTable.toList = []) : ∀ M ∈ MLs, HX (XW p l e room_1 s m #[.ref b] below meth c (lw_Z below #[.ref b] s) g ad0 [] h0 (fun q => s.heap.size ≤ q) 9) M := by
  intro M hM f cuts pc L st Λ h k n hs
  have e2 := MLs_snd M hM
  have x1 : M.2.2.1 = [] := by rw [e2]
  have x2 : M.2.1 = cp_L := by rw [e2]
  refine run_sound (R := room_1) C (isI := false) (fun z => nomatch z) (M := M) (post := LPost) (hh := []) htab (by rw [x1]; exact True.intro) (by rw [x2]; exact ent_law M hM) (by rw [e2]; rfl) (by rw [e2]; rfl) (by rw [x2]; exact cpo_L) lw_noX lw_noT (lw_outR C.1 C.2.1 hr C.2.2.2.2.2.1 e2) cuts f pc L st Λ h k n hs
theorem law_HZ {Q : State → Prop} {A0 : Nat → Prop} {sc : Nat → Int} {len : Int} (h9 : ∀ j : Nat, (j : Int) < len → h0 900 j = sc j) (h1 : h0 901 0 = len) : HZ (XW p l e room_1 s m #[.ref b] below meth c Q g ad0 [] h0 A0 9) sc len := fun pc L st Λ h k n H ad ls Hp locs hM =>
  H ⟨fun j hj => by rw [hM.2.2.2.2.2.2.2 900 (by decide)]; exact h9 j hj, by rw [hM.2.2.2.2.2.2.2 901 (by decide)]; exact h1⟩ ad ls Hp locs hM
theorem whole_world {D : va_G} {arr : Nat → ClassId} {sa rf : Nat → Nat} {L : Nat} {xs : Nat → Int32} (hL : L ≤ 3072) (C0 : lw_At p s m meth c b L xs) (htab : c.exceptionTable.toList = []) (hst : l.stackTraces = false) (hts : ∀ w ∈ TW, w.before #[.ref b] s = true)
    (K : va_K D vwCl (tysG (D, arr, sa, rf, b, L, xs)) s) (E : Ext (D, arr, sa, rf, b, L, xs) (fun q => s.heap.size ≤ q) s s.heap) :
    W p l e room_1 s m #[Value.ref b] below meth c s.heap [] 0 0 (lw_Z below #[Value.ref b] s) (entryFrame m ([Value.ref b] : List Value).toArray 9) := by
  obtain ⟨hx, hb, hr, hml, hown, -, -, -, hlk, -⟩ := C0
  have ado : adok (D, arr, sa, rf, b, L, xs) (ad_0 b sa rf) (zS (sc_0 xs) (L : Int) hO) := by
    refine ⟨fun i => ⟨fun hi => ?_, ?_⟩, ?_, fun j _ => ?_, ?_, ?_⟩
    · have hi2 : i < 19 := hi
      unfold ad_0
      rw [if_neg (by omega), if_pos (by omega), show 1000 + i - 1000 = i by omega]
    · unfold ad_0
      rw [if_pos (by omega), show 3000 + i - 3000 = i by omega]
    · rfl
    · rfl
    · rfl
    · show L < 2 ^ 31
      omega
  have C : CX p l s m #[.ref b] meth c (D, arr, sa, rf, b, L, xs) (ad_0 b sa rf) (zS (sc_0 xs) (L : Int) hO) (fun q => s.heap.size ≤ q) code 9 "KnitGraderLaw" :=
    ⟨hx, hb, hml, hown, hts, hlk, K, E, fun q hq => hq, hst, ado⟩
  have R := law_run (X := XW p l e room_1 s m #[.ref b] below meth c (lw_Z below #[.ref b] s) (D, arr, sa, rf, b, L, xs) (ad_0 b sa rf) [] (zS (sc_0 xs) (L : Int) hO) (fun q => s.heap.size ≤ q) 9) (s := sc_0 xs) (l := (L : Int))
    (law_HX C hr htab) (law_HZ (fun j _ => rfl) rfl) (fun j _ => ⟨Int32.le_toInt _, by have := Int32.toInt_lt (xs j); unfold sc_0; omega⟩) (by omega) (by omega)
  have le := LR_entry (n := 0) (ad := ad_0 b sa rf) (nL := 9) (as := [vR 900]) (by decide) (fun a ha => by
    have e9 : a = vR 900 := List.mem_singleton.mp ha
    subst e9
    unfold okv scp
    decide)
  have go := R (ad_0 b sa rf) _ s.heap [] ⟨fun k q hq => (by simp [cw] at hq), ⟨fun i j p q hp => (by simp [cw] at hp), fun k q hq => (by simp [cw] at hq)⟩, va_S.rf, fun i c hi => (by simp at hi), Nat.le_refl _, by decide, fun _ _ => rfl, fun _ _ => rfl⟩ le (fun v hv => nomatch hv)
  rw [lg_entry_eq]
  exact go
end ENTRY
