/-! ===== by wip/whole/gen12.py: the tables checked by program; each method's body ===== -/
def tbs : List (List Cond) := [k2_sels lw_privs, tables_1_1, tables_1_2, tables_1_3, tables_1_4, tables_1_5, tables_1_6, tables_1_7, tables_1_8]
def wAt (i : Nat) (w : Cond) : Bool := match nth tbs (i / 1000) with
  | some l => match nth l (i % 1000) with
    | some w' => decide (w' = w) && goodWord w
    | none => false
  | none => false
theorem nth_in {α : Type} {l : List α} {n : Nat} {a : α} (h : nth l n = some a) : a ∈ l := by rw [nth_eq] at h; exact List.mem_of_getElem? h
theorem tbs_in : ∀ l ∈ tbs, ∀ w ∈ l, w ∈ lw_tbl := by
  have e : lw_tbl = tbs.flatten := by simp only [lw_tbl, tbs, tables_1, List.flatten_cons, List.flatten_nil, List.append_nil]
  intro l hl w hw
  rw [e]
  exact List.mem_flatten.mpr ⟨l, hl, hw⟩
theorem wAt_mem {i : Nat} {w : Cond} (h : wAt i w = true) : w ∈ TW := by
  unfold wAt at h
  split at h
  · next l e1 =>
    split at h
    · next w' e2 =>
      simp only [Bool.and_eq_true, decide_eq_true_eq] at h
      obtain ⟨rfl, h2⟩ := h
      exact List.mem_filter.mpr ⟨tbs_in l (nth_in e1) _ (nth_in e2), h2⟩
    · cases h
  · cases h
theorem all_split {α : Type} {l : List α} {P : α → Prop} (n : Nat) (h1 : ∀ q ∈ l.take n, P q) (h2 : ∀ q ∈ l.drop n, P q) : ∀ q ∈ l, P q := by
  intro q hq
  rw [← List.take_append_drop n l] at hq
  exact (List.mem_append.mp hq).elim (h1 q) (h2 q)
abbrev MthQ : Type := Nat × Nat × Nat × Nat × Nat × Nat
def mthB (own : String) : List MthQ → List Nat → Bool
  | [], _ => true
  | q :: l, a :: b :: c :: hs => wAt a (Cond.methodLink own q.1 (MTd q.2.1).1) && wAt b (codeW (MTd q.2.1)) && wAt c (Cond.initialized (MTd q.2.1).1.cls) && decide ((MTd q.2.1).1.cls ≠ "java/lang/invoke/MethodHandle" ∧ (MTd q.2.1).1.cls ≠ "java/lang/invoke/VarHandle" ∧ (MTd q.2.1).2.2.2.2.2.2.2.1 = q.2.2.2.1 ∧ (MTd q.2.1).2.2.2.2.2.2.2.2 = q.2.2.2.2.1) && mthB own l hs
  | _ :: _, _ => false
theorem mthB_ok {own : String} : ∀ {l : List MthQ} {hs : List Nat}, mthB own l hs = true → ∀ q ∈ l, MthOK own q
  | [], _, _ => fun _ h => nomatch h
  | q :: l, a :: b :: c :: hs, h => by
    unfold mthB at h
    simp only [Bool.and_eq_true] at h
    obtain ⟨⟨⟨⟨h1, h2⟩, h3⟩, h4⟩, h5⟩ := h
    have h6 := of_decide_eq_true h4
    exact List.forall_mem_cons.mpr ⟨⟨wAt_mem h1, wAt_mem h2, wAt_mem h3, h6⟩, mthB_ok h5⟩
  | _ :: _, [], h => nomatch h
  | _ :: _, [_], h => nomatch h
  | _ :: _, [_, _], h => nomatch h
def virB : List MthQ → List Nat → List Nat → Bool
  | [], _, _ => true
  | q :: l, vs, hs => match memb q.1 vs with
    | true => match hs with
      | a :: b :: hs => wAt a (Cond.instanceMethod (MTd q.2.1).1) && wAt b (Cond.selects (MTd q.2.1).1.cls (MTd q.2.1).1 (MTd q.2.1).1) && decide (((parseMethodDescriptor (MTd q.2.1).1.desc).map (fun d => d.parameters.length) = some (q.2.2.1 - 1) ∧ 1 ≤ q.2.2.1) ∧ (MTd q.2.1).2.2.2.2.1 = [] ∧ ((q.2.2.2.2.2 < 9 ∧ (vwf q.2.2.2.2.2).1 = (MTd q.2.1).1.cls) ∨ (q.2.2.2.2.2 = 100 ∧ (MTd q.2.1).1.cls = "java/lang/String"))) && virB l vs hs
      | _ => false
    | false => virB l vs hs
theorem virB_ok : ∀ {l : List MthQ} {vs hs : List Nat}, virB l vs hs = true → ∀ q ∈ l, memb q.1 vs = true → VirtOK q
  | [], _, _, _ => fun _ h => nomatch h
  | q :: l, vs, hs, h => by
    unfold virB at h
    split at h
    · next e =>
      split at h
      · simp only [Bool.and_eq_true] at h
        obtain ⟨⟨⟨h1, h2⟩, h3⟩, h4⟩ := h
        have h6 := of_decide_eq_true h3
        exact List.forall_mem_cons.mpr ⟨fun _ => ⟨wAt_mem h1, wAt_mem h2, h6⟩, virB_ok h4⟩
      · cases h
    · next e => exact List.forall_mem_cons.mpr ⟨fun e' => absurd (e.symm.trans e') (by decide), virB_ok h⟩
def staB : List MthQ → List Nat → List Nat → Bool
  | [], _, _ => true
  | q :: l, vs, hs => match memb q.1 vs with
    | true => match hs with
      | a :: hs => wAt a (Cond.static (MTd q.2.1).1) && decide ((parseMethodDescriptor (MTd q.2.1).1.desc).map (fun d => d.parameters.length) = some q.2.2.1) && staB l vs hs
      | _ => false
    | false => staB l vs hs
theorem staB_ok : ∀ {l : List MthQ} {vs hs : List Nat}, staB l vs hs = true → ∀ q ∈ l, memb q.1 vs = true → StatOK q
  | [], _, _, _ => fun _ h => nomatch h
  | q :: l, vs, hs, h => by
    unfold staB at h
    split at h
    · next e =>
      split at h
      · simp only [Bool.and_eq_true] at h
        obtain ⟨⟨h1, h3⟩, h4⟩ := h
        have h6 := of_decide_eq_true h3
        exact List.forall_mem_cons.mpr ⟨fun _ => ⟨wAt_mem h1, h6⟩, staB_ok h4⟩
      · cases h
    · next e => exact List.forall_mem_cons.mpr ⟨fun e' => absurd (e.symm.trans e') (by decide), staB_ok h⟩
def iniB : List MthQ → List Nat → List Nat → Bool
  | [], _, _ => true
  | q :: l, vs, hs => match memb q.1 vs with
    | true => match hs with
      | a :: hs => wAt a (Cond.instanceMethod (MTd q.2.1).1) && decide ((MTd q.2.1).1.name = "<init>" ∧ ((parseMethodDescriptor (MTd q.2.1).1.desc).map (fun d => d.parameters.length) = some (q.2.2.1 - 1) ∧ 1 ≤ q.2.2.1) ∧ (MTd q.2.1).2.2.2.2.1 = [] ∧ (MTd q.2.1).2.2.2.1 = none) && iniB l vs hs
      | _ => false
    | false => iniB l vs hs
theorem iniB_ok : ∀ {l : List MthQ} {vs hs : List Nat}, iniB l vs hs = true → ∀ q ∈ l, memb q.1 vs = true → InitOK q
  | [], _, _, _ => fun _ h => nomatch h
  | q :: l, vs, hs, h => by
    unfold iniB at h
    split at h
    · next e =>
      split at h
      · simp only [Bool.and_eq_true] at h
        obtain ⟨⟨h1, h3⟩, h4⟩ := h
        have h6 := of_decide_eq_true h3
        exact List.forall_mem_cons.mpr ⟨fun _ => ⟨h6.1, wAt_mem h1, h6.2⟩, iniB_ok h4⟩
      · cases h
    · next e => exact List.forall_mem_cons.mpr ⟨fun e' => absurd (e.symm.trans e') (by decide), iniB_ok h⟩
def fldB (own : String) : List (Nat × Nat × Nat × Bool) → List Nat → Bool
  | [], _ => true
  | q :: l, a :: hs => decide (q.2.1 < 9 ∧ q.2.2.1 < (vwf q.2.1).2.2 ∧ (FK q.2.1).getD q.2.2.1 false = q.2.2.2 ∧ ((vwf q.2.1).2.1 q.2.2.1).1 = (vwf q.2.1).1) && (match a with
    | 0 => decide (Cond.fieldLinkNest own q.1 (vwf q.2.1).1 ((vwf q.2.1).2.1 q.2.2.1).2.1 ((vwf q.2.1).2.1 q.2.2.1).2.2.1 "KnitGrader" ∈ NW)
    | a => wAt a (Cond.fieldLink own q.1 (vwf q.2.1).1 ((vwf q.2.1).2.1 q.2.2.1).2.1 ((vwf q.2.1).2.1 q.2.2.1).2.2.1)) && fldB own l hs
  | _ :: _, _ => false
theorem fldB_ok {own : String} : ∀ {l : List (Nat × Nat × Nat × Bool)} {hs : List Nat}, fldB own l hs = true → ∀ q ∈ l, FieldOK own q
  | [], _, _ => fun _ h => nomatch h
  | q :: l, a :: hs, h => by
    unfold fldB at h
    simp only [Bool.and_eq_true] at h
    obtain ⟨⟨h1, h2⟩, h3⟩ := h
    have h6 := of_decide_eq_true h1
    refine List.forall_mem_cons.mpr ⟨⟨h6.1, h6.2.1, h6.2.2.1, h6.2.2.2, ?_⟩, fldB_ok h3⟩
    split at h2
    · exact Or.inr (of_decide_eq_true h2)
    · exact Or.inl (wAt_mem h2)
  | _ :: _, [], h => nomatch h
def entC (cp : CPT) (own : String) (R : Room) (isI : Bool) (vs ss is : List Nat) (pc : Nat) (ins : Instr) (tg : List Nat) : Bool := match ins with
  | .invokevirtual i => match lk cp.1 i with
    | some q => decide (RoomOK R (i, q)) && memb i vs
    | none => false
  | .invokestatic i => match lk cp.1 i with
    | some q => decide (RoomOK R (i, q)) && memb i ss
    | none => false
  | .invokespecial i => match Nat.beq i cp.2.2.2.2.2.2.2.2 with
    | true => Nat.ble 1 R.frames && Nat.ble 20 R.locals && Nat.ble 1 i
    | false => match lk cp.1 i with
      | some q => decide (RoomOK R (i, q)) && memb i is
      | none => true
  | ins => entB cp own R isI pc ins tg
theorem entC_ok {cp : CPT} {own : String} {R : Room} {isI : Bool} {vs ss is : List Nat} (hv : ∀ q ∈ cp.1, memb q.1 vs = true → VirtOK q) (hs : ∀ q ∈ cp.1, memb q.1 ss = true → StatOK q) (hi : ∀ q ∈ cp.1, memb q.1 is = true → InitOK q) {pc : Nat} {ins : Instr} {tg : List Nat}
    (h : entC cp own R isI vs ss is pc ins tg = true) : entB cp own R isI pc ins tg = true := by
  unfold entC at h
  split at h
  · next i =>
    show (match lk cp.1 i with
      | some q => decide (RoomOK R (i, q)) && decide (VirtOK (i, q))
      | none => false) = true
    cases e : lk cp.1 i with
    | none => rw [e] at h; cases h
    | some q =>
      rw [e] at h
      simp only [Bool.and_eq_true] at h ⊢
      exact ⟨h.1, decide_eq_true (hv _ (lk_mem e) h.2)⟩
  · next i =>
    show (match lk cp.1 i with
      | some q => decide (RoomOK R (i, q)) && decide (StatOK (i, q))
      | none => false) = true
    cases e : lk cp.1 i with
    | none => rw [e] at h; cases h
    | some q =>
      rw [e] at h
      simp only [Bool.and_eq_true] at h ⊢
      exact ⟨h.1, decide_eq_true (hs _ (lk_mem e) h.2)⟩
  · next i =>
    show (match Nat.beq i cp.2.2.2.2.2.2.2.2 with
      | true => Nat.ble 1 R.frames && Nat.ble 20 R.locals && Nat.ble 1 i
      | false => match lk cp.1 i with
        | some q => decide (RoomOK R (i, q)) && decide (InitOK (i, q))
        | none => true) = true
    cases e1 : Nat.beq i cp.2.2.2.2.2.2.2.2 with
    | true => rw [e1] at h; exact h
    | false =>
      rw [e1] at h
      cases e : lk cp.1 i with
      | none => rfl
      | some q =>
        simp only [e, Bool.and_eq_true] at h ⊢
        exact ⟨h.1, decide_eq_true (hi _ (lk_mem e) h.2)⟩
  · exact h
theorem cpm_X8_0 : ∀ q ∈ (cp_X8.1).take 6, MthOK "KnitGrader" q := mthB_ok (hs := [1033, 1035, 1002, 1049, 1051, 1003, 1136, 1057, 1004, 1138, 1087, 1005, 1141, 1143, 1006, 1179, 1181, 1007]) (by decide +kernel)
theorem cpm_X8_6 : ∀ q ∈ ((cp_X8.1).drop 6).take 6, MthOK "KnitGrader" q := mthB_ok (hs := [1204, 1206, 1008, 1213, 1216, 1002, 2029, 2032, 1003, 3062, 3065, 1002, 3066, 3069, 1004, 3078, 3081, 1005]) (by decide +kernel)
theorem cpm_X8_12 : ∀ q ∈ (((cp_X8.1).drop 6).drop 6).take 6, MthOK "KnitGrader" q := mthB_ok (hs := [4119, 4122, 1002, 3141, 2175, 1004, 4177, 4179, 1001, 4180, 2118, 1002, 4181, 2165, 1004, 4204, 3051, 1005]) (by decide +kernel)
theorem cpm_X8_18 : ∀ q ∈ ((((cp_X8.1).drop 6).drop 6).drop 6).take 6, MthOK "KnitGrader" q := mthB_ok (hs := [4205, 3055, 1005, 4213, 4215, 1001, 4216, 3167, 1005, 4231, 3194, 1022, 4239, 2221, 1004, 5000, 2230, 1004]) (by decide +kernel)
theorem cpm_X8_24 : ∀ q ∈ (((((cp_X8.1).drop 6).drop 6).drop 6).drop 6).take 6, MthOK "KnitGrader" q := mthB_ok (hs := [5001, 5004, 1004, 5013, 2213, 1004, 5021, 5024, 1001, 5026, 3183, 1005, 5027, 3163, 1004, 5025, 3010, 1004]) (by decide +kernel)
theorem cpm_X8_30 : ∀ q ∈ ((((((cp_X8.1).drop 6).drop 6).drop 6).drop 6).drop 6).take 6, MthOK "KnitGrader" q := mthB_ok (hs := [5042, 5045, 1001, 5061, 5064, 1001, 5065, 3211, 1006, 5073, 5076, 1001, 5077, 5080, 1006, 5100, 5084, 1006]) (by decide +kernel)
theorem cpm_X8_36 : ∀ q ∈ (((((((cp_X8.1).drop 6).drop 6).drop 6).drop 6).drop 6).drop 6).take 6, MthOK "KnitGrader" q := mthB_ok (hs := [5108, 5111, 1006, 5113, 5116, 1006, 5130, 3228, 1006, 5131, 5134, 1006, 5150, 5153, 1006, 5161, 3203, 1006]) (by decide +kernel)
theorem cpm_X8_42 : ∀ q ∈ ((((((((cp_X8.1).drop 6).drop 6).drop 6).drop 6).drop 6).drop 6).drop 6).take 6, MthOK "KnitGrader" q := mthB_ok (hs := [5169, 4029, 1005, 5170, 4034, 1005, 3142, 3145, 1007, 5178, 4009, 1007, 5180, 4018, 1007, 5181, 5184, 1007]) (by decide +kernel)
theorem cpm_X8_48 : ∀ q ∈ (((((((((cp_X8.1).drop 6).drop 6).drop 6).drop 6).drop 6).drop 6).drop 6).drop 6).take 6, MthOK "KnitGrader" q := mthB_ok (hs := [4002, 4005, 1007, 5199, 5202, 1001, 5208, 2149, 1005, 5209, 5212, 1001, 5220, 2189, 1005, 5236, 3031, 1005]) (by decide +kernel)
theorem cpm_X8_54 : ∀ q ∈ ((((((((((cp_X8.1).drop 6).drop 6).drop 6).drop 6).drop 6).drop 6).drop 6).drop 6).drop 6).take 6, MthOK "KnitGrader" q := mthB_ok (hs := [6004, 3060, 1005, 6012, 6015, 1005, 6025, 6028, 1008, 5203, 5206, 1008, 6043, 6046, 1001, 5046, 3150, 1006]) (by decide +kernel)
theorem cpm_X8_60 : ∀ q ∈ (((((((((((cp_X8.1).drop 6).drop 6).drop 6).drop 6).drop 6).drop 6).drop 6).drop 6).drop 6).drop 6), MthOK "KnitGrader" q := mthB_ok (hs := [6054, 6057, 1006]) (by decide +kernel)
theorem cpm_X8 : ∀ q ∈ cp_X8.1, MthOK "KnitGrader" q := all_split 6 cpm_X8_0 (all_split 6 cpm_X8_6 (all_split 6 cpm_X8_12 (all_split 6 cpm_X8_18 (all_split 6 cpm_X8_24 (all_split 6 cpm_X8_30 (all_split 6 cpm_X8_36 (all_split 6 cpm_X8_42 (all_split 6 cpm_X8_48 (all_split 6 cpm_X8_54 (cpm_X8_60))))))))))
theorem cpv_X8 : ∀ q ∈ cp_X8.1, memb q.1 [93, 97, 101, 105, 109, 118, 129, 137, 141, 148, 152, 159, 168, 171, 174, 177, 180, 183, 186, 190, 193, 202, 205, 208, 211, 214, 217, 220, 223, 226, 230, 234, 238, 241, 244, 248, 253, 256, 259, 263, 266, 269, 272, 277, 280, 283, 286, 290, 293, 296, 300] = true → VirtOK q := virB_ok (hs := [1214, 1215, 2030, 2031, 3063, 3064, 3067, 3068, 3079, 3080, 4120, 4121, 2173, 2174, 2116, 2117, 2163, 2164, 3049, 3050, 3053, 3054, 3165, 3166, 2219, 2220, 2228, 2229, 5002, 5003, 2211, 2212, 5023, 41, 3181, 3182, 3161, 3162, 3008, 3009, 5044, 42, 5063, 43, 3209, 3210, 5075, 44, 5078, 5079, 5082, 5083, 5109, 5110, 5114, 5115, 3226, 3227, 5132, 5133, 5151, 5152, 3201, 3202, 4027, 4028, 4032, 4033, 3143, 3144, 4007, 4008, 4016, 4017, 5182, 5183, 4003, 4004, 5201, 46, 2147, 2148, 5211, 47, 2187, 2188, 3029, 3030, 3058, 3059, 6013, 6014, 6026, 6027, 5204, 5205, 6045, 48, 3148, 3149, 6055, 6056]) (by decide +kernel)
theorem cps_X8 : ∀ q ∈ cp_X8.1, memb q.1 [133, 155, 163] = true → StatOK q := staB_ok (hs := [4178, 4214, 3193]) (by decide +kernel)
theorem cpi_X8 : ∀ q ∈ cp_X8.1, memb q.1 [11, 18, 27, 34, 44, 56, 65] = true → InitOK q := iniB_ok (hs := [1034, 1050, 1056, 1086, 1142, 1180, 1205]) (by decide +kernel)
theorem cpf_X8 : ∀ q ∈ cp_X8.2.1, FieldOK "KnitGrader" q := fldB_ok (hs := [3083, 3084, 3085, 3086, 3087, 3088, 3089, 3090, 3091, 3092, 3093, 3094, 3095, 3096, 3097, 0, 0, 0, 0, 0, 0, 0, 0]) (by decide +kernel)
theorem cpt_X8 : ∀ q ∈ cp_X8.2.2.2.2.1, q.2 < nStr ∧ ∃ tx, ("KnitGrader", q.1, tx, q.2) ∈ strR := List.forall_mem_cons.mpr ⟨⟨by decide +kernel, "gauge 20 30 yarn 10;sizes s m;measure hip 400 450;measure long 100 120;piece back;cast hip color 0;work long color 0;end;lot 0 100;", by decide +kernel⟩, fun _ h => nomatch h⟩
theorem cpo_X8 : CpOK "KnitGrader" cp_X8 := ⟨cpm_X8, cpf_X8, by decide +kernel, by decide +kernel, cpt_X8, by decide +kernel, by decide +kernel, by decide +kernel, by decide +kernel⟩
theorem ent_X8 {cc : ByteArray} {R : Room} {isI : Bool} {pg : PR} (h : ∀ q ∈ pg, decode cc q.1 = .ok (q.2.1, lenE q.1 q.2.1) ∧ entC cp_X8 "KnitGrader" R isI [93, 97, 101, 105, 109, 118, 129, 137, 141, 148, 152, 159, 168, 171, 174, 177, 180, 183, 186, 190, 193, 202, 205, 208, 211, 214, 217, 220, 223, 226, 230, 234, 238, 241, 244, 248, 253, 256, 259, 263, 266, 269, 272, 277, 280, 283, 286, 290, 293, 296, 300] [133, 155, 163] [11, 18, 27, 34, 44, 56, 65] q.1 q.2.1 q.2.2 = true) : ∀ q ∈ pg, EntOK "KnitGrader" cc cp_X8 R isI q := fun q hq => ⟨(h q hq).1, entC_ok cpv_X8 cps_X8 cpi_X8 (h q hq).2⟩
theorem cpm_X0_0 : ∀ q ∈ (cp_X0.1), MthOK "KnitGrader$Cells" q := mthB_ok (hs := [3076, 2126, 1013, 3077, 2039, 1013, 3073, 3075, 1013]) (by decide +kernel)
theorem cpm_X0 : ∀ q ∈ cp_X0.1, MthOK "KnitGrader$Cells" q := cpm_X0_0
theorem cpv_X0 : ∀ q ∈ cp_X0.1, memb q.1 [] = true → VirtOK q := virB_ok (hs := []) (by decide +kernel)
theorem cps_X0 : ∀ q ∈ cp_X0.1, memb q.1 [7, 13, 17] = true → StatOK q := staB_ok (hs := [2125, 2038, 3074]) (by decide +kernel)
theorem cpi_X0 : ∀ q ∈ cp_X0.1, memb q.1 [] = true → InitOK q := iniB_ok (hs := []) (by decide +kernel)
theorem cpf_X0 : ∀ q ∈ cp_X0.2.1, FieldOK "KnitGrader$Cells" q := fldB_ok (hs := []) (by decide +kernel)
theorem cpt_X0 : ∀ q ∈ cp_X0.2.2.2.2.1, q.2 < nStr ∧ ∃ tx, ("KnitGrader$Cells", q.1, tx, q.2) ∈ strR := fun _ h => nomatch h
theorem cpo_X0 : CpOK "KnitGrader$Cells" cp_X0 := ⟨cpm_X0, cpf_X0, by decide +kernel, by decide +kernel, cpt_X0, by decide +kernel, by decide +kernel, by decide +kernel, by decide +kernel⟩
theorem ent_X0 {cc : ByteArray} {R : Room} {isI : Bool} {pg : PR} (h : ∀ q ∈ pg, decode cc q.1 = .ok (q.2.1, lenE q.1 q.2.1) ∧ entC cp_X0 "KnitGrader$Cells" R isI [] [7, 13, 17] [] q.1 q.2.1 q.2.2 = true) : ∀ q ∈ pg, EntOK "KnitGrader$Cells" cc cp_X0 R isI q := fun q hq => ⟨(h q hq).1, entC_ok cpv_X0 cps_X0 cpi_X0 (h q hq).2⟩
theorem cpm_X1_0 : ∀ q ∈ (cp_X1.1).take 6, MthOK "KnitGrader$Dealer" q := mthB_ok (hs := [3146, 2175, 1004, 3147, 3150, 1006, 3200, 3203, 1006, 4000, 3055, 1005, 4001, 2114, 1013, 4019, 2145, 1013]) (by decide +kernel)
theorem cpm_X1_6 : ∀ q ∈ ((cp_X1.1).drop 6).take 6, MthOK "KnitGrader$Dealer" q := mthB_ok (hs := [4021, 4023, 1007, 4006, 4009, 1007, 4010, 4013, 1007, 4014, 2039, 1013, 4025, 3051, 1005, 4026, 4029, 1005]) (by decide +kernel)
theorem cpm_X1_12 : ∀ q ∈ (((cp_X1.1).drop 6).drop 6), MthOK "KnitGrader$Dealer" q := mthB_ok (hs := [4031, 4034, 1005, 4035, 4038, 1007, 4020, 2126, 1013, 4015, 4018, 1007, 4039, 4042, 1007, 4044, 4046, 1022]) (by decide +kernel)
theorem cpm_X1 : ∀ q ∈ cp_X1.1, MthOK "KnitGrader$Dealer" q := all_split 6 cpm_X1_0 (all_split 6 cpm_X1_6 (cpm_X1_12))
theorem cpv_X1 : ∀ q ∈ cp_X1.1, memb q.1 [33, 39, 49, 53, 71, 76, 83, 87, 92, 95, 102, 106] = true → VirtOK q := virB_ok (hs := [2173, 2174, 3148, 3149, 3201, 3202, 3053, 3054, 4007, 4008, 4012, 37, 3049, 3050, 4027, 4028, 4032, 4033, 4037, 38, 4016, 4017, 4041, 39]) (by decide +kernel)
theorem cps_X1 : ∀ q ∈ cp_X1.1, memb q.1 [58, 64, 68, 80, 99, 111] = true → StatOK q := staB_ok (hs := [2113, 2144, 4022, 2038, 2125, 4045]) (by decide +kernel)
theorem cpi_X1 : ∀ q ∈ cp_X1.1, memb q.1 [] = true → InitOK q := iniB_ok (hs := []) (by decide +kernel)
theorem cpf_X1 : ∀ q ∈ cp_X1.2.1, FieldOK "KnitGrader$Dealer" q := fldB_ok (hs := [1183, 1184, 1185, 1186, 1187, 1188, 0]) (by decide +kernel)
theorem cpt_X1 : ∀ q ∈ cp_X1.2.2.2.2.1, q.2 < nStr ∧ ∃ tx, ("KnitGrader$Dealer", q.1, tx, q.2) ∈ strR := fun _ h => nomatch h
theorem cpo_X1 : CpOK "KnitGrader$Dealer" cp_X1 := ⟨cpm_X1, cpf_X1, by decide +kernel, by decide +kernel, cpt_X1, by decide +kernel, by decide +kernel, by decide +kernel, by decide +kernel⟩
theorem ent_X1 {cc : ByteArray} {R : Room} {isI : Bool} {pg : PR} (h : ∀ q ∈ pg, decode cc q.1 = .ok (q.2.1, lenE q.1 q.2.1) ∧ entC cp_X1 "KnitGrader$Dealer" R isI [33, 39, 49, 53, 71, 76, 83, 87, 92, 95, 102, 106] [58, 64, 68, 80, 99, 111] [] q.1 q.2.1 q.2.2 = true) : ∀ q ∈ pg, EntOK "KnitGrader$Dealer" cc cp_X1 R isI q := fun q hq => ⟨(h q hq).1, entC_ok cpv_X1 cps_X1 cpi_X1 (h q hq).2⟩
theorem cpm_X2_0 : ∀ q ∈ (cp_X2.1).take 6, MthOK "KnitGrader$Pattern" q := mthB_ok (hs := [2167, 2145, 1013, 2180, 2114, 1013, 3070, 3072, 1013, 2037, 2039, 1013, 2166, 2126, 1013, 2172, 2175, 1004]) (by decide +kernel)
theorem cpm_X2_6 : ∀ q ∈ ((cp_X2.1).drop 6).take 6, MthOK "KnitGrader$Pattern" q := mthB_ok (hs := [2218, 2221, 1004, 2226, 2213, 1004, 5005, 3186, 1022, 5122, 4046, 1022, 2227, 2230, 1004, 3007, 3010, 1004]) (by decide +kernel)
theorem cpm_X2_12 : ∀ q ∈ (((cp_X2.1).drop 6).drop 6), MthOK "KnitGrader$Pattern" q := mthB_ok (hs := [3011, 3014, 1004]) (by decide +kernel)
theorem cpm_X2 : ∀ q ∈ cp_X2.1, MthOK "KnitGrader$Pattern" q := all_split 6 cpm_X2_0 (all_split 6 cpm_X2_6 (cpm_X2_12))
theorem cpv_X2 : ∀ q ∈ cp_X2.1, memb q.1 [54, 58, 61, 73, 76, 79] = true → VirtOK q := virB_ok (hs := [2173, 2174, 2219, 2220, 2211, 2212, 2228, 2229, 3008, 3009, 3012, 3013]) (by decide +kernel)
theorem cps_X2 : ∀ q ∈ cp_X2.1, memb q.1 [34, 40, 44, 48, 51, 65, 70] = true → StatOK q := staB_ok (hs := [2144, 2113, 3071, 2038, 2125, 3185, 4045]) (by decide +kernel)
theorem cpi_X2 : ∀ q ∈ cp_X2.1, memb q.1 [] = true → InitOK q := iniB_ok (hs := []) (by decide +kernel)
theorem cpf_X2 : ∀ q ∈ cp_X2.2.1, FieldOK "KnitGrader$Pattern" q := fldB_ok (hs := [1059, 1060, 1061, 1062, 1063, 1064, 1065]) (by decide +kernel)
theorem cpt_X2 : ∀ q ∈ cp_X2.2.2.2.2.1, q.2 < nStr ∧ ∃ tx, ("KnitGrader$Pattern", q.1, tx, q.2) ∈ strR := fun _ h => nomatch h
theorem cpo_X2 : CpOK "KnitGrader$Pattern" cp_X2 := ⟨cpm_X2, cpf_X2, by decide +kernel, by decide +kernel, cpt_X2, by decide +kernel, by decide +kernel, by decide +kernel, by decide +kernel⟩
theorem ent_X2 {cc : ByteArray} {R : Room} {isI : Bool} {pg : PR} (h : ∀ q ∈ pg, decode cc q.1 = .ok (q.2.1, lenE q.1 q.2.1) ∧ entC cp_X2 "KnitGrader$Pattern" R isI [54, 58, 61, 73, 76, 79] [34, 40, 44, 48, 51, 65, 70] [] q.1 q.2.1 q.2.2 = true) : ∀ q ∈ pg, EntOK "KnitGrader$Pattern" cc cp_X2 R isI q := fun q hq => ⟨(h q hq).1, entC_ok cpv_X2 cps_X2 cpi_X2 (h q hq).2⟩
theorem cpm_X3_0 : ∀ q ∈ (cp_X3.1).take 6, MthOK "KnitGrader$Plan" q := mthB_ok (hs := [3151, 3010, 1004, 3152, 3155, 1006, 3176, 3179, 1006, 3187, 3190, 1006, 3195, 3198, 1006, 3156, 3159, 1006]) (by decide +kernel)
theorem cpm_X3_6 : ∀ q ∈ ((cp_X3.1).drop 6).take 6, MthOK "KnitGrader$Plan" q := mthB_ok (hs := [3164, 3167, 1005, 3168, 3055, 1005, 3169, 2221, 1004, 3170, 3172, 1006, 3180, 3183, 1005, 3184, 3186, 1022]) (by decide +kernel)
theorem cpm_X3_12 : ∀ q ∈ (((cp_X3.1).drop 6).drop 6).take 6, MthOK "KnitGrader$Plan" q := mthB_ok (hs := [3173, 3175, 1022, 3191, 2230, 1004, 3192, 3194, 1022, 3199, 2039, 1013, 3160, 3163, 1004, 3212, 2126, 1013]) (by decide +kernel)
theorem cpm_X3_18 : ∀ q ∈ ((((cp_X3.1).drop 6).drop 6).drop 6).take 6, MthOK "KnitGrader$Plan" q := mthB_ok (hs := [3208, 3211, 1006, 5085, 5088, 1006, 5081, 5084, 1006, 3213, 3216, 1006, 5089, 2213, 1004, 3225, 3228, 1006]) (by decide +kernel)
theorem cpm_X3_24 : ∀ q ∈ (((((cp_X3.1).drop 6).drop 6).drop 6).drop 6).take 6, MthOK "KnitGrader$Plan" q := mthB_ok (hs := [3229, 3232, 1006, 5090, 5092, 1006, 3217, 3220, 1006, 5112, 5004, 1004, 5117, 4046, 1022, 5118, 5121, 1004]) (by decide +kernel)
theorem cpm_X3_30 : ∀ q ∈ ((((((cp_X3.1).drop 6).drop 6).drop 6).drop 6).drop 6).take 6, MthOK "KnitGrader$Plan" q := mthB_ok (hs := [3204, 3207, 1006, 3221, 3224, 1004, 3233, 3235, 1006, 3236, 3238, 1006, 6058, 5080, 1006, 6059, 6062, 1006]) (by decide +kernel)
theorem cpm_X3_36 : ∀ q ∈ (((((((cp_X3.1).drop 6).drop 6).drop 6).drop 6).drop 6).drop 6), MthOK "KnitGrader$Plan" q := mthB_ok (hs := [6063, 6066, 1006, 6067, 6070, 1006]) (by decide +kernel)
theorem cpm_X3 : ∀ q ∈ cp_X3.1, MthOK "KnitGrader$Plan" q := all_split 6 cpm_X3_0 (all_split 6 cpm_X3_6 (all_split 6 cpm_X3_12 (all_split 6 cpm_X3_18 (all_split 6 cpm_X3_24 (all_split 6 cpm_X3_30 (cpm_X3_36))))))
theorem cpv_X3 : ∀ q ∈ cp_X3.1, memb q.1 [41, 46, 50, 54, 58, 62, 66, 71, 74, 81, 92, 104, 110, 113, 116, 119, 122, 125, 128, 134, 137, 143, 146, 150, 162, 165, 169, 173] = true → VirtOK q := virB_ok (hs := [3008, 3009, 3154, 28, 3178, 30, 3189, 31, 3197, 32, 3158, 29, 3165, 3166, 3053, 3054, 2219, 2220, 3181, 3182, 2228, 2229, 3161, 3162, 3209, 3210, 5087, 45, 5082, 5083, 3215, 34, 2211, 2212, 3226, 3227, 3231, 36, 3219, 35, 5002, 5003, 5119, 5120, 3206, 33, 3222, 3223, 5078, 5079, 6061, 49, 6065, 50, 6069, 51]) (by decide +kernel)
theorem cps_X3 : ∀ q ∈ cp_X3.1, memb q.1 [77, 84, 89, 95, 98, 106, 131, 140, 153, 157] = true → StatOK q := staB_ok (hs := [3171, 3185, 3174, 3193, 2038, 2125, 5091, 4045, 3234, 3237]) (by decide +kernel)
theorem cpi_X3 : ∀ q ∈ cp_X3.1, memb q.1 [] = true → InitOK q := iniB_ok (hs := []) (by decide +kernel)
theorem cpf_X3 : ∀ q ∈ cp_X3.2.1, FieldOK "KnitGrader$Plan" q := fldB_ok (hs := [1145, 1146, 1147, 1148, 1149, 1150, 1151, 1153, 1155]) (by decide +kernel)
theorem cpt_X3 : ∀ q ∈ cp_X3.2.2.2.2.1, q.2 < nStr ∧ ∃ tx, ("KnitGrader$Plan", q.1, tx, q.2) ∈ strR := fun _ h => nomatch h
theorem cpo_X3 : CpOK "KnitGrader$Plan" cp_X3 := ⟨cpm_X3, cpf_X3, by decide +kernel, by decide +kernel, cpt_X3, by decide +kernel, by decide +kernel, by decide +kernel, by decide +kernel⟩
theorem ent_X3 {cc : ByteArray} {R : Room} {isI : Bool} {pg : PR} (h : ∀ q ∈ pg, decode cc q.1 = .ok (q.2.1, lenE q.1 q.2.1) ∧ entC cp_X3 "KnitGrader$Plan" R isI [41, 46, 50, 54, 58, 62, 66, 71, 74, 81, 92, 104, 110, 113, 116, 119, 122, 125, 128, 134, 137, 143, 146, 150, 162, 165, 169, 173] [77, 84, 89, 95, 98, 106, 131, 140, 153, 157] [] q.1 q.2.1 q.2.2 = true) : ∀ q ∈ pg, EntOK "KnitGrader$Plan" cc cp_X3 R isI q := fun q hq => ⟨(h q hq).1, entC_ok cpv_X3 cps_X3 cpi_X3 (h q hq).2⟩
theorem cpm_X4_0 : ∀ q ∈ (cp_X4.1).take 6, MthOK "KnitGrader$Reader" q := mthB_ok (hs := [1055, 1057, 1004, 1085, 1087, 1005, 2033, 2036, 1004, 2040, 2043, 1005, 2045, 2048, 1003, 2120, 2123, 1003]) (by decide +kernel)
theorem cpm_X4_6 : ∀ q ∈ ((cp_X4.1).drop 6).take 6, MthOK "KnitGrader$Reader" q := mthB_ok (hs := [2127, 2130, 1003, 2150, 2153, 1003, 2181, 2184, 1003, 2191, 2194, 1003, 2231, 2234, 1003, 3044, 3047, 1003]) (by decide +kernel)
theorem cpm_X4_12 : ∀ q ∈ (((cp_X4.1).drop 6).drop 6).take 6, MthOK "KnitGrader$Reader" q := mthB_ok (hs := [2135, 2138, 1003, 2049, 2052, 1003, 2065, 2068, 1002, 2069, 2072, 1003, 2103, 2106, 1003, 2107, 2039, 1013]) (by decide +kernel)
theorem cpm_X4_18 : ∀ q ∈ ((((cp_X4.1).drop 6).drop 6).drop 6).take 6, MthOK "KnitGrader$Reader" q := mthB_ok (hs := [2108, 2111, 1002, 2112, 2114, 1013, 2115, 2118, 1002, 2053, 2056, 1002, 2061, 2064, 1002, 2073, 2076, 1003]) (by decide +kernel)
theorem cpm_X4_24 : ∀ q ∈ (((((cp_X4.1).drop 6).drop 6).drop 6).drop 6).take 6, MthOK "KnitGrader$Reader" q := mthB_ok (hs := [2102, 2060, 1002, 2077, 2079, 1003, 2098, 2101, 1002, 2124, 2126, 1013, 2143, 2145, 1013, 2158, 2161, 1003]) (by decide +kernel)
theorem cpm_X4_30 : ∀ q ∈ ((((((cp_X4.1).drop 6).drop 6).drop 6).drop 6).drop 6).take 6, MthOK "KnitGrader$Reader" q := mthB_ok (hs := [2162, 2165, 1004, 2168, 2171, 1004, 2176, 2179, 1004, 2131, 2134, 1003, 2139, 2142, 1003, 2146, 2149, 1005]) (by decide +kernel)
theorem cpm_X4_36 : ∀ q ∈ (((((((cp_X4.1).drop 6).drop 6).drop 6).drop 6).drop 6).drop 6).take 6, MthOK "KnitGrader$Reader" q := mthB_ok (hs := [2154, 2157, 1003, 2185, 2175, 1004, 2186, 2189, 1005, 2195, 2198, 1003, 2222, 2225, 1004, 2199, 2202, 1003]) (by decide +kernel)
theorem cpm_X4_42 : ∀ q ∈ ((((((((cp_X4.1).drop 6).drop 6).drop 6).drop 6).drop 6).drop 6).drop 6).take 6, MthOK "KnitGrader$Reader" q := mthB_ok (hs := [2206, 2209, 1003, 2210, 2213, 1004, 2214, 2217, 1004, 2203, 2205, 1003, 2235, 2238, 1003, 3036, 3039, 1003]) (by decide +kernel)
theorem cpm_X4_48 : ∀ q ∈ (((((((((cp_X4.1).drop 6).drop 6).drop 6).drop 6).drop 6).drop 6).drop 6).drop 6).take 6, MthOK "KnitGrader$Reader" q := mthB_ok (hs := [3040, 3043, 1003, 2239, 3002, 1003, 3015, 3018, 1003, 3032, 3035, 1003, 3019, 3022, 1003, 3023, 3026, 1003]) (by decide +kernel)
theorem cpm_X4_54 : ∀ q ∈ ((((((((((cp_X4.1).drop 6).drop 6).drop 6).drop 6).drop 6).drop 6).drop 6).drop 6).drop 6), MthOK "KnitGrader$Reader" q := mthB_ok (hs := [3028, 3031, 1005, 3003, 3006, 1004, 3027, 3014, 1004, 3048, 3051, 1005, 3057, 3060, 1005]) (by decide +kernel)
theorem cpm_X4 : ∀ q ∈ cp_X4.1, MthOK "KnitGrader$Reader" q := all_split 6 cpm_X4_0 (all_split 6 cpm_X4_6 (all_split 6 cpm_X4_12 (all_split 6 cpm_X4_18 (all_split 6 cpm_X4_24 (all_split 6 cpm_X4_30 (all_split 6 cpm_X4_36 (all_split 6 cpm_X4_42 (all_split 6 cpm_X4_48 (cpm_X4_54)))))))))
theorem cpv_X4 : ∀ q ∈ cp_X4.1, memb q.1 [59, 62, 63, 66, 69, 72, 75, 78, 81, 84, 87, 96, 100, 104, 108, 118, 124, 128, 131, 134, 137, 144, 191, 195, 199, 202, 205, 209, 212, 216, 219, 222, 226, 229, 232, 236, 240, 243, 249, 252, 255, 258, 261, 264, 267, 270, 273, 276, 279, 282, 285] = true → VirtOK q := virB_ok (hs := [2034, 2035, 2041, 2042, 2047, 0, 2122, 5, 2129, 6, 2152, 10, 2183, 13, 2193, 14, 2233, 18, 3046, 27, 2137, 8, 2051, 1, 2066, 2067, 2071, 2, 2105, 4, 2109, 2110, 2116, 2117, 2054, 2055, 2062, 2063, 2075, 3, 2058, 2059, 2099, 2100, 2160, 12, 2163, 2164, 2169, 2170, 2177, 2178, 2133, 7, 2141, 9, 2147, 2148, 2156, 11, 2173, 2174, 2187, 2188, 2197, 15, 2223, 2224, 2201, 16, 2208, 17, 2211, 2212, 2215, 2216, 2237, 19, 3038, 25, 3042, 26, 3001, 20, 3017, 21, 3034, 24, 3021, 22, 3025, 23, 3029, 3030, 3004, 3005, 3012, 3013, 3049, 3050, 3058, 3059]) (by decide +kernel)
theorem cps_X4 : ∀ q ∈ cp_X4.1, memb q.1 [112, 121, 140, 184, 188, 246] = true → StatOK q := staB_ok (hs := [2038, 2113, 2078, 2125, 2144, 2204]) (by decide +kernel)
theorem cpi_X4 : ∀ q ∈ cp_X4.1, memb q.1 [17, 24] = true → InitOK q := iniB_ok (hs := [1056, 1086]) (by decide +kernel)
theorem cpf_X4 : ∀ q ∈ cp_X4.2.1, FieldOK "KnitGrader$Reader" q := fldB_ok (hs := [1094, 1095, 1097, 1099, 1100, 1101, 1102, 1103, 1104, 1105, 1106, 1108, 0]) (by decide +kernel)
theorem cpt_X4 : ∀ q ∈ cp_X4.2.2.2.2.1, q.2 < nStr ∧ ∃ tx, ("KnitGrader$Reader", q.1, tx, q.2) ∈ strR := List.forall_mem_cons.mpr ⟨⟨by decide +kernel, "gauge", by decide +kernel⟩, List.forall_mem_cons.mpr ⟨⟨by decide +kernel, "yarn", by decide +kernel⟩, List.forall_mem_cons.mpr ⟨⟨by decide +kernel, "sizes", by decide +kernel⟩, List.forall_mem_cons.mpr ⟨⟨by decide +kernel, "measure", by decide +kernel⟩, List.forall_mem_cons.mpr ⟨⟨by decide +kernel, "piece", by decide +kernel⟩, List.forall_mem_cons.mpr ⟨⟨by decide +kernel, "cast", by decide +kernel⟩, List.forall_mem_cons.mpr ⟨⟨by decide +kernel, "work", by decide +kernel⟩, List.forall_mem_cons.mpr ⟨⟨by decide +kernel, "shape", by decide +kernel⟩, List.forall_mem_cons.mpr ⟨⟨by decide +kernel, "end", by decide +kernel⟩, List.forall_mem_cons.mpr ⟨⟨by decide +kernel, "lot", by decide +kernel⟩, List.forall_mem_cons.mpr ⟨⟨by decide +kernel, "and", by decide +kernel⟩, List.forall_mem_cons.mpr ⟨⟨by decide +kernel, "plus", by decide +kernel⟩, List.forall_mem_cons.mpr ⟨⟨by decide +kernel, "minus", by decide +kernel⟩, List.forall_mem_cons.mpr ⟨⟨by decide +kernel, "by", by decide +kernel⟩, List.forall_mem_cons.mpr ⟨⟨by decide +kernel, "color", by decide +kernel⟩, List.forall_mem_cons.mpr ⟨⟨by decide +kernel, "chart", by decide +kernel⟩, List.forall_mem_cons.mpr ⟨⟨by decide +kernel, "over", by decide +kernel⟩, List.forall_mem_cons.mpr ⟨⟨by decide +kernel, "per", by decide +kernel⟩, fun _ h => nomatch h⟩⟩⟩⟩⟩⟩⟩⟩⟩⟩⟩⟩⟩⟩⟩⟩⟩⟩
theorem cpo_X4 : CpOK "KnitGrader$Reader" cp_X4 := ⟨cpm_X4, cpf_X4, by decide +kernel, by decide +kernel, cpt_X4, by decide +kernel, by decide +kernel, by decide +kernel, by decide +kernel⟩
theorem ent_X4 {cc : ByteArray} {R : Room} {isI : Bool} {pg : PR} (h : ∀ q ∈ pg, decode cc q.1 = .ok (q.2.1, lenE q.1 q.2.1) ∧ entC cp_X4 "KnitGrader$Reader" R isI [59, 62, 63, 66, 69, 72, 75, 78, 81, 84, 87, 96, 100, 104, 108, 118, 124, 128, 131, 134, 137, 144, 191, 195, 199, 202, 205, 209, 212, 216, 219, 222, 226, 229, 232, 236, 240, 243, 249, 252, 255, 258, 261, 264, 267, 270, 273, 276, 279, 282, 285] [112, 121, 140, 184, 188, 246] [17, 24] q.1 q.2.1 q.2.2 = true) : ∀ q ∈ pg, EntOK "KnitGrader$Reader" cc cp_X4 R isI q := fun q hq => ⟨(h q hq).1, entC_ok cpv_X4 cps_X4 cpi_X4 (h q hq).2⟩
theorem cpm_X5_0 : ∀ q ∈ (cp_X5.1), MthOK "KnitGrader$Shelf" q := mthB_ok (hs := [5207, 3075, 1013]) (by decide +kernel)
theorem cpm_X5 : ∀ q ∈ cp_X5.1, MthOK "KnitGrader$Shelf" q := cpm_X5_0
theorem cpv_X5 : ∀ q ∈ cp_X5.1, memb q.1 [] = true → VirtOK q := virB_ok (hs := []) (by decide +kernel)
theorem cps_X5 : ∀ q ∈ cp_X5.1, memb q.1 [20] = true → StatOK q := staB_ok (hs := [3074]) (by decide +kernel)
theorem cpi_X5 : ∀ q ∈ cp_X5.1, memb q.1 [] = true → InitOK q := iniB_ok (hs := []) (by decide +kernel)
theorem cpf_X5 : ∀ q ∈ cp_X5.2.1, FieldOK "KnitGrader$Shelf" q := fldB_ok (hs := [1208, 0]) (by decide +kernel)
theorem cpt_X5 : ∀ q ∈ cp_X5.2.2.2.2.1, q.2 < nStr ∧ ∃ tx, ("KnitGrader$Shelf", q.1, tx, q.2) ∈ strR := fun _ h => nomatch h
theorem cpo_X5 : CpOK "KnitGrader$Shelf" cp_X5 := ⟨cpm_X5, cpf_X5, by decide +kernel, by decide +kernel, cpt_X5, by decide +kernel, by decide +kernel, by decide +kernel, by decide +kernel⟩
theorem ent_X5 {cc : ByteArray} {R : Room} {isI : Bool} {pg : PR} (h : ∀ q ∈ pg, decode cc q.1 = .ok (q.2.1, lenE q.1 q.2.1) ∧ entC cp_X5 "KnitGrader$Shelf" R isI [] [20] [] q.1 q.2.1 q.2.2 = true) : ∀ q ∈ pg, EntOK "KnitGrader$Shelf" cc cp_X5 R isI q := fun q hq => ⟨(h q hq).1, entC_ok cpv_X5 cps_X5 cpi_X5 (h q hq).2⟩
theorem cpm_X6_0 : ∀ q ∈ (cp_X6.1).take 6, MthOK "KnitGrader$State" q := mthB_ok (hs := [3082, 3072, 1013, 2044, 2039, 1013, 3056, 2126, 1013, 3052, 3055, 1005, 2190, 2149, 1005, 3061, 3051, 1005]) (by decide +kernel)
theorem cpm_X6_6 : ∀ q ∈ ((cp_X6.1).drop 6), MthOK "KnitGrader$State" q := mthB_ok (hs := [6016, 4029, 1005, 6017, 4034, 1005]) (by decide +kernel)
theorem cpm_X6 : ∀ q ∈ cp_X6.1, MthOK "KnitGrader$State" q := all_split 6 cpm_X6_0 (cpm_X6_6)
theorem cpv_X6 : ∀ q ∈ cp_X6.1, memb q.1 [29, 33, 37, 41, 44] = true → VirtOK q := virB_ok (hs := [3053, 3054, 2147, 2148, 3049, 3050, 4027, 4028, 4032, 4033]) (by decide +kernel)
theorem cps_X6 : ∀ q ∈ cp_X6.1, memb q.1 [15, 21, 25] = true → StatOK q := staB_ok (hs := [3071, 2038, 2125]) (by decide +kernel)
theorem cpi_X6 : ∀ q ∈ cp_X6.1, memb q.1 [] = true → InitOK q := iniB_ok (hs := []) (by decide +kernel)
theorem cpf_X6 : ∀ q ∈ cp_X6.2.1, FieldOK "KnitGrader$State" q := fldB_ok (hs := [1089]) (by decide +kernel)
theorem cpt_X6 : ∀ q ∈ cp_X6.2.2.2.2.1, q.2 < nStr ∧ ∃ tx, ("KnitGrader$State", q.1, tx, q.2) ∈ strR := fun _ h => nomatch h
theorem cpo_X6 : CpOK "KnitGrader$State" cp_X6 := ⟨cpm_X6, cpf_X6, by decide +kernel, by decide +kernel, cpt_X6, by decide +kernel, by decide +kernel, by decide +kernel, by decide +kernel⟩
theorem ent_X6 {cc : ByteArray} {R : Room} {isI : Bool} {pg : PR} (h : ∀ q ∈ pg, decode cc q.1 = .ok (q.2.1, lenE q.1 q.2.1) ∧ entC cp_X6 "KnitGrader$State" R isI [29, 33, 37, 41, 44] [15, 21, 25] [] q.1 q.2.1 q.2.2 = true) : ∀ q ∈ pg, EntOK "KnitGrader$State" cc cp_X6 R isI q := fun q hq => ⟨(h q hq).1, entC_ok cpv_X6 cps_X6 cpi_X6 (h q hq).2⟩
theorem cpm_X7_0 : ∀ q ∈ (cp_X7.1), MthOK "KnitGrader$Text" q := mthB_ok (hs := [2025, 2028, 1002, 1217, 1220, 1009, 1227, 1230, 1009, 2057, 2060, 1002, 2119, 2056, 1002]) (by decide +kernel)
theorem cpm_X7 : ∀ q ∈ cp_X7.1, MthOK "KnitGrader$Text" q := cpm_X7_0
theorem cpv_X7 : ∀ q ∈ cp_X7.1, memb q.1 [19, 23, 28, 32, 36] = true → VirtOK q := virB_ok (hs := [2026, 2027, 1218, 1219, 1228, 1229, 2058, 2059, 2054, 2055]) (by decide +kernel)
theorem cps_X7 : ∀ q ∈ cp_X7.1, memb q.1 [] = true → StatOK q := staB_ok (hs := []) (by decide +kernel)
theorem cpi_X7 : ∀ q ∈ cp_X7.1, memb q.1 [] = true → InitOK q := iniB_ok (hs := []) (by decide +kernel)
theorem cpf_X7 : ∀ q ∈ cp_X7.2.1, FieldOK "KnitGrader$Text" q := fldB_ok (hs := [1037, 1038]) (by decide +kernel)
theorem cpt_X7 : ∀ q ∈ cp_X7.2.2.2.2.1, q.2 < nStr ∧ ∃ tx, ("KnitGrader$Text", q.1, tx, q.2) ∈ strR := fun _ h => nomatch h
theorem cpo_X7 : CpOK "KnitGrader$Text" cp_X7 := ⟨cpm_X7, cpf_X7, by decide +kernel, by decide +kernel, cpt_X7, by decide +kernel, by decide +kernel, by decide +kernel, by decide +kernel⟩
theorem ent_X7 {cc : ByteArray} {R : Room} {isI : Bool} {pg : PR} (h : ∀ q ∈ pg, decode cc q.1 = .ok (q.2.1, lenE q.1 q.2.1) ∧ entC cp_X7 "KnitGrader$Text" R isI [19, 23, 28, 32, 36] [] [] q.1 q.2.1 q.2.2 = true) : ∀ q ∈ pg, EntOK "KnitGrader$Text" cc cp_X7 R isI q := fun q hq => ⟨(h q hq).1, entC_ok cpv_X7 cps_X7 cpi_X7 (h q hq).2⟩
theorem cpm_L_0 : ∀ q ∈ (cp_L.1).take 6, MthOK "KnitGraderLaw" q := mthB_ok (hs := [4051, 4054, 1001, 4127, 4130, 1001, 4150, 4153, 1001, 4173, 4176, 1001, 4200, 4203, 1001, 4209, 4212, 1001]) (by decide +kernel)
theorem cpm_L_6 : ∀ q ∈ ((cp_L.1).drop 6).take 6, MthOK "KnitGraderLaw" q := mthB_ok (hs := [4220, 4223, 1001, 4227, 4230, 1001, 4235, 4238, 1001, 5009, 5012, 1001, 5017, 5020, 1001, 5031, 5034, 1001]) (by decide +kernel)
theorem cpm_L_12 : ∀ q ∈ (((cp_L.1).drop 6).drop 6).take 6, MthOK "KnitGraderLaw" q := mthB_ok (hs := [5038, 5041, 1001, 5050, 5053, 1001, 5057, 5060, 1001, 5069, 5072, 1001, 5096, 5099, 1001, 5104, 5107, 1001]) (by decide +kernel)
theorem cpm_L_18 : ∀ q ∈ ((((cp_L.1).drop 6).drop 6).drop 6).take 6, MthOK "KnitGraderLaw" q := mthB_ok (hs := [5126, 5129, 1001, 5138, 5141, 1001, 5146, 5149, 1001, 5157, 5160, 1001, 5165, 5168, 1001, 5174, 5177, 1001]) (by decide +kernel)
theorem cpm_L_24 : ∀ q ∈ (((((cp_L.1).drop 6).drop 6).drop 6).drop 6).take 6, MthOK "KnitGraderLaw" q := mthB_ok (hs := [5188, 5191, 1001, 5195, 5198, 1001, 5216, 5219, 1001, 5224, 5227, 1001, 5232, 5235, 1001, 6000, 6003, 1001]) (by decide +kernel)
theorem cpm_L_30 : ∀ q ∈ ((((((cp_L.1).drop 6).drop 6).drop 6).drop 6).drop 6).take 6, MthOK "KnitGraderLaw" q := mthB_ok (hs := [6008, 6011, 1001, 6021, 6024, 1001, 6032, 6035, 1001, 6039, 6042, 1001, 6050, 6053, 1001, 1025, 1027, 1001]) (by decide +kernel)
theorem cpm_L_36 : ∀ q ∈ (((((((cp_L.1).drop 6).drop 6).drop 6).drop 6).drop 6).drop 6).take 6, MthOK "KnitGraderLaw" q := mthB_ok (hs := [6073, 6075, 1014, 4047, 4049, 1000, 6235, 6238, 1014, 6231, 6234, 1014, 4123, 4125, 1000, 7003, 7006, 1014]) (by decide +kernel)
theorem cpm_L_42 : ∀ q ∈ ((((((((cp_L.1).drop 6).drop 6).drop 6).drop 6).drop 6).drop 6).drop 6).take 6, MthOK "KnitGraderLaw" q := mthB_ok (hs := [4146, 4148, 1000, 7010, 7013, 1014, 3129, 3132, 1001, 7139, 7142, 1014, 3133, 3136, 1001, 7143, 7146, 1014]) (by decide +kernel)
theorem cpm_L_48 : ∀ q ∈ (((((((((cp_L.1).drop 6).drop 6).drop 6).drop 6).drop 6).drop 6).drop 6).drop 6).take 6, MthOK "KnitGraderLaw" q := mthB_ok (hs := [4169, 4171, 1000, 7147, 7150, 1014, 4197, 4199, 1000, 7152, 7155, 1014, 4206, 4208, 1000, 7157, 7160, 1014]) (by decide +kernel)
theorem cpm_L_54 : ∀ q ∈ ((((((((((cp_L.1).drop 6).drop 6).drop 6).drop 6).drop 6).drop 6).drop 6).drop 6).drop 6).take 6, MthOK "KnitGraderLaw" q := mthB_ok (hs := [4217, 4219, 1000, 7173, 7176, 1014, 4224, 4226, 1000, 7177, 7180, 1014, 4232, 4234, 1000, 7183, 7186, 1014]) (by decide +kernel)
theorem cpm_L_60 : ∀ q ∈ (((((((((((cp_L.1).drop 6).drop 6).drop 6).drop 6).drop 6).drop 6).drop 6).drop 6).drop 6).drop 6).take 6, MthOK "KnitGraderLaw" q := mthB_ok (hs := [5006, 5008, 1000, 7188, 7191, 1014, 5014, 5016, 1000, 7192, 7195, 1014, 5028, 5030, 1000, 7208, 7211, 1014]) (by decide +kernel)
theorem cpm_L_66 : ∀ q ∈ ((((((((((((cp_L.1).drop 6).drop 6).drop 6).drop 6).drop 6).drop 6).drop 6).drop 6).drop 6).drop 6).drop 6).take 6, MthOK "KnitGraderLaw" q := mthB_ok (hs := [5035, 5037, 1000, 7212, 7215, 1014, 5047, 5049, 1000, 8012, 8015, 1014, 5054, 5056, 1000, 8016, 8019, 1014]) (by decide +kernel)
theorem cpm_L_72 : ∀ q ∈ (((((((((((((cp_L.1).drop 6).drop 6).drop 6).drop 6).drop 6).drop 6).drop 6).drop 6).drop 6).drop 6).drop 6).drop 6).take 6, MthOK "KnitGraderLaw" q := mthB_ok (hs := [5066, 5068, 1000, 8024, 8027, 1014, 5093, 5095, 1000, 8032, 8035, 1014, 5101, 5103, 1000, 8036, 8039, 1014]) (by decide +kernel)
theorem cpm_L_78 : ∀ q ∈ ((((((((((((((cp_L.1).drop 6).drop 6).drop 6).drop 6).drop 6).drop 6).drop 6).drop 6).drop 6).drop 6).drop 6).drop 6).drop 6).take 6, MthOK "KnitGraderLaw" q := mthB_ok (hs := [5123, 5125, 1000, 8040, 8043, 1014, 5135, 5137, 1000, 8044, 8047, 1014, 5143, 5145, 1000, 8049, 8052, 1014]) (by decide +kernel)
theorem cpm_L_84 : ∀ q ∈ (((((((((((((((cp_L.1).drop 6).drop 6).drop 6).drop 6).drop 6).drop 6).drop 6).drop 6).drop 6).drop 6).drop 6).drop 6).drop 6).drop 6).take 6, MthOK "KnitGraderLaw" q := mthB_ok (hs := [5154, 5156, 1000, 8053, 8056, 1014, 5162, 5164, 1000, 8064, 8067, 1014, 5171, 5173, 1000, 8068, 8071, 1014]) (by decide +kernel)
theorem cpm_L_90 : ∀ q ∈ ((((((((((((((((cp_L.1).drop 6).drop 6).drop 6).drop 6).drop 6).drop 6).drop 6).drop 6).drop 6).drop 6).drop 6).drop 6).drop 6).drop 6).drop 6).take 6, MthOK "KnitGraderLaw" q := mthB_ok (hs := [5185, 5187, 1000, 8093, 8096, 1014, 3137, 3140, 1001, 8097, 8100, 1014, 5192, 5194, 1000, 8101, 8104, 1014]) (by decide +kernel)
theorem cpm_L_96 : ∀ q ∈ (((((((((((((((((cp_L.1).drop 6).drop 6).drop 6).drop 6).drop 6).drop 6).drop 6).drop 6).drop 6).drop 6).drop 6).drop 6).drop 6).drop 6).drop 6).drop 6).take 6, MthOK "KnitGraderLaw" q := mthB_ok (hs := [5213, 5215, 1000, 8111, 8114, 1014, 5221, 5223, 1000, 8115, 8118, 1014, 5229, 5231, 1000, 8119, 8122, 1014]) (by decide +kernel)
theorem cpm_L_102 : ∀ q ∈ ((((((((((((((((((cp_L.1).drop 6).drop 6).drop 6).drop 6).drop 6).drop 6).drop 6).drop 6).drop 6).drop 6).drop 6).drop 6).drop 6).drop 6).drop 6).drop 6).drop 6).take 6, MthOK "KnitGraderLaw" q := mthB_ok (hs := [5237, 5239, 1000, 8125, 8128, 1014, 6005, 6007, 1000, 8130, 8133, 1014, 6018, 6020, 1000, 8134, 8137, 1014]) (by decide +kernel)
theorem cpm_L_108 : ∀ q ∈ (((((((((((((((((((cp_L.1).drop 6).drop 6).drop 6).drop 6).drop 6).drop 6).drop 6).drop 6).drop 6).drop 6).drop 6).drop 6).drop 6).drop 6).drop 6).drop 6).drop 6).drop 6), MthOK "KnitGraderLaw" q := mthB_ok (hs := [6029, 6031, 1000, 8138, 8141, 1014, 6036, 6038, 1000, 8145, 8148, 1014, 6047, 6049, 1000, 8149, 8152, 1014]) (by decide +kernel)
theorem cpm_L : ∀ q ∈ cp_L.1, MthOK "KnitGraderLaw" q := all_split 6 cpm_L_0 (all_split 6 cpm_L_6 (all_split 6 cpm_L_12 (all_split 6 cpm_L_18 (all_split 6 cpm_L_24 (all_split 6 cpm_L_30 (all_split 6 cpm_L_36 (all_split 6 cpm_L_42 (all_split 6 cpm_L_48 (all_split 6 cpm_L_54 (all_split 6 cpm_L_60 (all_split 6 cpm_L_66 (all_split 6 cpm_L_72 (all_split 6 cpm_L_78 (all_split 6 cpm_L_84 (all_split 6 cpm_L_90 (all_split 6 cpm_L_96 (all_split 6 cpm_L_102 (cpm_L_108))))))))))))))))))
theorem cpv_L : ∀ q ∈ cp_L.1, memb q.1 [7, 15, 21, 27, 32, 35, 39, 43, 46, 49, 53, 57, 60, 63, 66, 69, 72, 75, 78, 82, 86, 90, 94, 97, 100, 103, 106, 109, 112, 115, 118, 121, 124, 128, 131, 143, 144, 150, 154, 155, 158, 159, 162, 165, 168, 172, 175, 178, 181, 185, 189, 192, 195, 198, 201, 204, 207, 210, 214, 218, 222, 225, 228, 231, 234, 235, 238, 241, 244, 247, 250, 253, 256, 259, 263, 266, 269] = true → VirtOK q := virB_ok (hs := [4052, 4053, 4128, 4129, 4151, 4152, 4174, 4175, 4201, 4202, 4210, 4211, 4221, 4222, 4228, 4229, 4236, 4237, 5010, 5011, 5018, 5019, 5032, 5033, 5039, 5040, 5051, 5052, 5058, 5059, 5070, 5071, 5097, 5098, 5105, 5106, 5127, 5128, 5139, 5140, 5147, 5148, 5158, 5159, 5166, 5167, 5175, 5176, 5189, 5190, 5196, 5197, 5217, 5218, 5225, 5226, 5233, 5234, 6001, 6002, 6009, 6010, 6022, 6023, 6033, 6034, 6040, 6041, 6051, 6052, 6236, 6237, 6232, 6233, 7004, 7005, 7011, 7012, 3130, 3131, 7140, 7141, 3134, 3135, 7144, 7145, 7148, 7149, 7153, 7154, 7158, 7159, 7174, 7175, 7178, 7179, 7184, 7185, 7189, 7190, 7193, 7194, 7209, 7210, 7213, 7214, 8013, 8014, 8017, 8018, 8025, 8026, 8033, 8034, 8037, 8038, 8041, 8042, 8045, 8046, 8050, 8051, 8054, 8055, 8065, 8066, 8069, 8070, 8094, 8095, 3138, 3139, 8098, 8099, 8102, 8103, 8112, 8113, 8116, 8117, 8120, 8121, 8126, 8127, 8131, 8132, 8135, 8136, 8139, 8140, 8146, 8147, 8150, 8151]) (by decide +kernel)
theorem cps_L : ∀ q ∈ cp_L.1, memb q.1 [138, 147, 151, 163, 166, 169, 173, 176, 179, 182, 186, 190, 193, 196, 199, 202, 205, 208, 211, 215, 219, 223, 226, 229, 232, 239, 242, 245, 248, 251, 254, 257, 260, 264, 267] = true → StatOK q := staB_ok (hs := [4048, 4124, 4147, 4170, 4198, 4207, 4218, 4225, 4233, 5007, 5015, 5029, 5036, 5048, 5055, 5067, 5094, 5102, 5124, 5136, 5144, 5155, 5163, 5172, 5186, 5193, 5214, 5222, 5230, 5238, 6006, 6019, 6030, 6037, 6048]) (by decide +kernel)
theorem cpi_L : ∀ q ∈ cp_L.1, memb q.1 [134, 137] = true → InitOK q := iniB_ok (hs := [1026, 6074]) (by decide +kernel)
theorem cpf_L : ∀ q ∈ cp_L.2.1, FieldOK "KnitGraderLaw" q := fldB_ok (hs := []) (by decide +kernel)
theorem cpt_L : ∀ q ∈ cp_L.2.2.2.2.1, q.2 < nStr ∧ ∃ tx, ("KnitGraderLaw", q.1, tx, q.2) ∈ strR := fun _ h => nomatch h
theorem cpo_L : CpOK "KnitGraderLaw" cp_L := ⟨cpm_L, cpf_L, by decide +kernel, by decide +kernel, cpt_L, by decide +kernel, by decide +kernel, by decide +kernel, by decide +kernel⟩
theorem ent_L {cc : ByteArray} {R : Room} {isI : Bool} {pg : PR} (h : ∀ q ∈ pg, decode cc q.1 = .ok (q.2.1, lenE q.1 q.2.1) ∧ entC cp_L "KnitGraderLaw" R isI [7, 15, 21, 27, 32, 35, 39, 43, 46, 49, 53, 57, 60, 63, 66, 69, 72, 75, 78, 82, 86, 90, 94, 97, 100, 103, 106, 109, 112, 115, 118, 121, 124, 128, 131, 143, 144, 150, 154, 155, 158, 159, 162, 165, 168, 172, 175, 178, 181, 185, 189, 192, 195, 198, 201, 204, 207, 210, 214, 218, 222, 225, 228, 231, 234, 235, 238, 241, 244, 247, 250, 253, 256, 259, 263, 266, 269] [138, 147, 151, 163, 166, 169, 173, 176, 179, 182, 186, 190, 193, 196, 199, 202, 205, 208, 211, 215, 219, 223, 226, 229, 232, 239, 242, 245, 248, 251, 254, 257, 260, 264, 267] [134, 137] q.1 q.2.1 q.2.2 = true) : ∀ q ∈ pg, EntOK "KnitGraderLaw" cc cp_L R isI q := fun q hq => ⟨(h q hq).1, entC_ok cpv_L cps_L cpi_L (h q hq).2⟩
theorem cpm_X9_0 : ∀ q ∈ (cp_X9.1).take 6, MthOK "KnitGraderModel" q := mthB_ok (hs := [6077, 6080, 1014, 6081, 6084, 1014, 6239, 7002, 1014, 7007, 7009, 1014, 7018, 7021, 1014, 7022, 7024, 1014]) (by decide +kernel)
theorem cpm_X9_6 : ∀ q ∈ ((cp_X9.1).drop 6).take 6, MthOK "KnitGraderModel" q := mthB_ok (hs := [7025, 7027, 1014, 7037, 7040, 1014, 7041, 1220, 1009, 7042, 1230, 1009, 7047, 7050, 1014, 7014, 7017, 1014]) (by decide +kernel)
theorem cpm_X9_12 : ∀ q ∈ (((cp_X9.1).drop 6).drop 6).take 6, MthOK "KnitGraderModel" q := mthB_ok (hs := [7043, 7046, 1014, 7033, 7036, 1014, 7080, 7083, 1014, 7061, 7064, 1014, 7076, 7079, 1014, 7125, 7128, 1014]) (by decide +kernel)
theorem cpm_X9_18 : ∀ q ∈ ((((cp_X9.1).drop 6).drop 6).drop 6).take 6, MthOK "KnitGraderModel" q := mthB_ok (hs := [7051, 7054, 1014, 7056, 7059, 1014, 7072, 7075, 1014, 7097, 7100, 1014, 7101, 7103, 1014, 7093, 7096, 1014]) (by decide +kernel)
theorem cpm_X9_24 : ∀ q ∈ (((((cp_X9.1).drop 6).drop 6).drop 6).drop 6).take 6, MthOK "KnitGraderModel" q := mthB_ok (hs := [7121, 7124, 1014, 7117, 7120, 1014, 7130, 7133, 1014, 7110, 7113, 1014, 7028, 7031, 1014, 7085, 7088, 1014]) (by decide +kernel)
theorem cpm_X9_30 : ∀ q ∈ ((((((cp_X9.1).drop 6).drop 6).drop 6).drop 6).drop 6).take 6, MthOK "KnitGraderModel" q := mthB_ok (hs := [7089, 7092, 1014, 7105, 7108, 1014, 7135, 7138, 1014, 7200, 7203, 1014, 7161, 7164, 1014, 7165, 7168, 1014]) (by decide +kernel)
theorem cpm_X9_36 : ∀ q ∈ (((((((cp_X9.1).drop 6).drop 6).drop 6).drop 6).drop 6).drop 6).take 6, MthOK "KnitGraderModel" q := mthB_ok (hs := [7169, 7172, 1014, 7182, 3194, 1022, 7196, 7199, 1014, 7204, 7207, 1014, 7236, 7239, 1014, 7232, 7235, 1014]) (by decide +kernel)
theorem cpm_X9_42 : ∀ q ∈ ((((((((cp_X9.1).drop 6).drop 6).drop 6).drop 6).drop 6).drop 6).drop 6).take 6, MthOK "KnitGraderModel" q := mthB_ok (hs := [8004, 8007, 1014, 7228, 7231, 1014, 8000, 8003, 1014, 7220, 7223, 1014, 7224, 7227, 1014, 7216, 7219, 1014]) (by decide +kernel)
theorem cpm_X9_48 : ∀ q ∈ (((((((((cp_X9.1).drop 6).drop 6).drop 6).drop 6).drop 6).drop 6).drop 6).drop 6).take 6, MthOK "KnitGraderModel" q := mthB_ok (hs := [8008, 8011, 1014, 8020, 8023, 1014, 8028, 8031, 1014, 8057, 8059, 1014, 8060, 8063, 1014, 8085, 8088, 1014]) (by decide +kernel)
theorem cpm_X9_54 : ∀ q ∈ ((((((((((cp_X9.1).drop 6).drop 6).drop 6).drop 6).drop 6).drop 6).drop 6).drop 6).drop 6).take 6, MthOK "KnitGraderModel" q := mthB_ok (hs := [8089, 8092, 1014, 8080, 8083, 1014, 8072, 8075, 1014, 8076, 8079, 1014, 8107, 8110, 1014, 8142, 8144, 1014]) (by decide +kernel)
theorem cpm_X9_60 : ∀ q ∈ (((((((((((cp_X9.1).drop 6).drop 6).drop 6).drop 6).drop 6).drop 6).drop 6).drop 6).drop 6).drop 6), MthOK "KnitGraderModel" q := mthB_ok (hs := [8153, 8156, 1014]) (by decide +kernel)
theorem cpm_X9 : ∀ q ∈ cp_X9.1, MthOK "KnitGraderModel" q := all_split 6 cpm_X9_0 (all_split 6 cpm_X9_6 (all_split 6 cpm_X9_12 (all_split 6 cpm_X9_18 (all_split 6 cpm_X9_24 (all_split 6 cpm_X9_30 (all_split 6 cpm_X9_36 (all_split 6 cpm_X9_42 (all_split 6 cpm_X9_48 (all_split 6 cpm_X9_54 (cpm_X9_60))))))))))
theorem cpv_X9 : ∀ q ∈ cp_X9.1, memb q.1 [103, 107, 116, 130, 153, 157, 163, 167, 171, 174, 180, 195, 199, 202, 206, 212, 217, 222, 226, 235, 238, 249, 253, 257, 260, 265, 268, 273, 278, 299, 302, 305, 308, 320, 324, 328, 330, 339, 345, 349, 352, 355, 358, 361, 364, 368, 375, 379, 387, 391, 394, 397, 404, 416] = true → VirtOK q := virB_ok (hs := [6079, 52, 6083, 53, 7001, 54, 7020, 56, 7039, 59, 1218, 1219, 1228, 1229, 7049, 61, 7016, 55, 7045, 60, 7035, 58, 7082, 67, 7063, 64, 7078, 66, 7127, 76, 7053, 62, 7058, 63, 7074, 65, 7099, 71, 7095, 70, 7123, 75, 7119, 74, 7132, 77, 7112, 73, 7030, 57, 7087, 68, 7091, 69, 7107, 72, 7137, 78, 7202, 83, 7163, 79, 7167, 80, 7171, 81, 7198, 82, 7206, 84, 7238, 90, 7234, 89, 8006, 92, 7230, 88, 8002, 91, 7222, 86, 7226, 87, 7218, 85, 8010, 93, 8022, 94, 8030, 95, 8062, 96, 8087, 100, 8091, 101, 8082, 99, 8074, 97, 8078, 98, 8109, 102, 8155, 103]) (by decide +kernel)
theorem cps_X9 : ∀ q ∈ cp_X9.1, memb q.1 [120, 140, 144, 229, 313, 372, 413] = true → StatOK q := staB_ok (hs := [7008, 7023, 7026, 7102, 3193, 8058, 8143]) (by decide +kernel)
theorem cpi_X9 : ∀ q ∈ cp_X9.1, memb q.1 [] = true → InitOK q := iniB_ok (hs := []) (by decide +kernel)
theorem cpf_X9 : ∀ q ∈ cp_X9.2.1, FieldOK "KnitGraderModel" q := fldB_ok (hs := [6090, 6091, 6092, 6093, 6094, 6095, 6096, 6097, 6098, 6099, 6101, 6109, 6114, 6115, 6116, 6117, 6118, 6119, 6120, 6121, 6122, 6123, 6127, 6128, 6129, 6130, 6132, 6110, 6111, 6113, 6085, 6102, 6103, 6104, 6105, 6106, 6107, 6108, 6112, 6089, 6086, 6087, 6088, 6100, 6126, 6124, 6125, 6131]) (by decide +kernel)
theorem cpt_X9 : ∀ q ∈ cp_X9.2.2.2.2.1, q.2 < nStr ∧ ∃ tx, ("KnitGraderModel", q.1, tx, q.2) ∈ strR := List.forall_mem_cons.mpr ⟨⟨by decide +kernel, "plus", by decide +kernel⟩, List.forall_mem_cons.mpr ⟨⟨by decide +kernel, "minus", by decide +kernel⟩, List.forall_mem_cons.mpr ⟨⟨by decide +kernel, "by", by decide +kernel⟩, List.forall_mem_cons.mpr ⟨⟨by decide +kernel, "color", by decide +kernel⟩, List.forall_mem_cons.mpr ⟨⟨by decide +kernel, "chart", by decide +kernel⟩, List.forall_mem_cons.mpr ⟨⟨by decide +kernel, "over", by decide +kernel⟩, List.forall_mem_cons.mpr ⟨⟨by decide +kernel, "per", by decide +kernel⟩, List.forall_mem_cons.mpr ⟨⟨by decide +kernel, "gauge", by decide +kernel⟩, List.forall_mem_cons.mpr ⟨⟨by decide +kernel, "yarn", by decide +kernel⟩, List.forall_mem_cons.mpr ⟨⟨by decide +kernel, "sizes", by decide +kernel⟩, List.forall_mem_cons.mpr ⟨⟨by decide +kernel, "and", by decide +kernel⟩, List.forall_mem_cons.mpr ⟨⟨by decide +kernel, "work", by decide +kernel⟩, List.forall_mem_cons.mpr ⟨⟨by decide +kernel, "cast", by decide +kernel⟩, List.forall_mem_cons.mpr ⟨⟨by decide +kernel, "shape", by decide +kernel⟩, List.forall_mem_cons.mpr ⟨⟨by decide +kernel, "end", by decide +kernel⟩, List.forall_mem_cons.mpr ⟨⟨by decide +kernel, "measure", by decide +kernel⟩, List.forall_mem_cons.mpr ⟨⟨by decide +kernel, "piece", by decide +kernel⟩, List.forall_mem_cons.mpr ⟨⟨by decide +kernel, "lot", by decide +kernel⟩, fun _ h => nomatch h⟩⟩⟩⟩⟩⟩⟩⟩⟩⟩⟩⟩⟩⟩⟩⟩⟩⟩
theorem cpo_X9 : CpOK "KnitGraderModel" cp_X9 := ⟨cpm_X9, cpf_X9, by decide +kernel, by decide +kernel, cpt_X9, by decide +kernel, by decide +kernel, by decide +kernel, by decide +kernel⟩
theorem ent_X9 {cc : ByteArray} {R : Room} {isI : Bool} {pg : PR} (h : ∀ q ∈ pg, decode cc q.1 = .ok (q.2.1, lenE q.1 q.2.1) ∧ entC cp_X9 "KnitGraderModel" R isI [103, 107, 116, 130, 153, 157, 163, 167, 171, 174, 180, 195, 199, 202, 206, 212, 217, 222, 226, 235, 238, 249, 253, 257, 260, 265, 268, 273, 278, 299, 302, 305, 308, 320, 324, 328, 330, 339, 345, 349, 352, 355, 358, 361, 364, 368, 375, 379, 387, 391, 394, 397, 404, 416] [120, 140, 144, 229, 313, 372, 413] [] q.1 q.2.1 q.2.2 = true) : ∀ q ∈ pg, EntOK "KnitGraderModel" cc cp_X9 R isI q := fun q hq => ⟨(h q hq).1, entC_ok cpv_X9 cps_X9 cpi_X9 (h q hq).2⟩
theorem cpm_J9_0 : ∀ q ∈ (cp_J9.1), MthOK "java/lang/Math" q := mthB_ok (hs := []) (by decide +kernel)
theorem cpm_J9 : ∀ q ∈ cp_J9.1, MthOK "java/lang/Math" q := cpm_J9_0
theorem cpv_J9 : ∀ q ∈ cp_J9.1, memb q.1 [] = true → VirtOK q := virB_ok (hs := []) (by decide +kernel)
theorem cps_J9 : ∀ q ∈ cp_J9.1, memb q.1 [] = true → StatOK q := staB_ok (hs := []) (by decide +kernel)
theorem cpi_J9 : ∀ q ∈ cp_J9.1, memb q.1 [] = true → InitOK q := iniB_ok (hs := []) (by decide +kernel)
theorem cpf_J9 : ∀ q ∈ cp_J9.2.1, FieldOK "java/lang/Math" q := fldB_ok (hs := []) (by decide +kernel)
theorem cpt_J9 : ∀ q ∈ cp_J9.2.2.2.2.1, q.2 < nStr ∧ ∃ tx, ("java/lang/Math", q.1, tx, q.2) ∈ strR := fun _ h => nomatch h
theorem cpo_J9 : CpOK "java/lang/Math" cp_J9 := ⟨cpm_J9, cpf_J9, by decide +kernel, by decide +kernel, cpt_J9, by decide +kernel, by decide +kernel, by decide +kernel, by decide +kernel⟩
theorem ent_J9 {cc : ByteArray} {R : Room} {isI : Bool} {pg : PR} (h : ∀ q ∈ pg, decode cc q.1 = .ok (q.2.1, lenE q.1 q.2.1) ∧ entC cp_J9 "java/lang/Math" R isI [] [] [] q.1 q.2.1 q.2.2 = true) : ∀ q ∈ pg, EntOK "java/lang/Math" cc cp_J9 R isI q := fun q hq => ⟨(h q hq).1, entC_ok cpv_J9 cps_J9 cpi_J9 (h q hq).2⟩
theorem cpm_J0_0 : ∀ q ∈ (cp_J0.1), MthOK "java/lang/String" q := mthB_ok (hs := [1221, 1224, 1009, 1231, 1234, 1009, 1235, 1237, 1010, 2003, 2005, 1011]) (by decide +kernel)
theorem cpm_J0 : ∀ q ∈ cp_J0.1, MthOK "java/lang/String" q := cpm_J0_0
theorem cpv_J0 : ∀ q ∈ cp_J0.1, memb q.1 [335, 492] = true → VirtOK q := virB_ok (hs := [1222, 1223, 1232, 1233]) (by decide +kernel)
theorem cps_J0 : ∀ q ∈ cp_J0.1, memb q.1 [495, 1059] = true → StatOK q := staB_ok (hs := [1236, 2004]) (by decide +kernel)
theorem cpi_J0 : ∀ q ∈ cp_J0.1, memb q.1 [] = true → InitOK q := iniB_ok (hs := []) (by decide +kernel)
theorem cpf_J0 : ∀ q ∈ cp_J0.2.1, FieldOK "java/lang/String" q := fldB_ok (hs := []) (by decide +kernel)
theorem cpt_J0 : ∀ q ∈ cp_J0.2.2.2.2.1, q.2 < nStr ∧ ∃ tx, ("java/lang/String", q.1, tx, q.2) ∈ strR := fun _ h => nomatch h
theorem cpo_J0 : CpOK "java/lang/String" cp_J0 := ⟨cpm_J0, cpf_J0, by decide +kernel, by decide +kernel, cpt_J0, by decide +kernel, by decide +kernel, by decide +kernel, by decide +kernel⟩
theorem ent_J0 {cc : ByteArray} {R : Room} {isI : Bool} {pg : PR} (h : ∀ q ∈ pg, decode cc q.1 = .ok (q.2.1, lenE q.1 q.2.1) ∧ entC cp_J0 "java/lang/String" R isI [335, 492] [495, 1059] [] q.1 q.2.1 q.2.2 = true) : ∀ q ∈ pg, EntOK "java/lang/String" cc cp_J0 R isI q := fun q hq => ⟨(h q hq).1, entC_ok cpv_J0 cps_J0 cpi_J0 (h q hq).2⟩
theorem cpm_J1_0 : ∀ q ∈ (cp_J1.1), MthOK "java/lang/StringLatin1" q := mthB_ok (hs := [1238, 2000, 1009]) (by decide +kernel)
theorem cpm_J1 : ∀ q ∈ cp_J1.1, MthOK "java/lang/StringLatin1" q := cpm_J1_0
theorem cpv_J1 : ∀ q ∈ cp_J1.1, memb q.1 [] = true → VirtOK q := virB_ok (hs := []) (by decide +kernel)
theorem cps_J1 : ∀ q ∈ cp_J1.1, memb q.1 [9] = true → StatOK q := staB_ok (hs := [1239]) (by decide +kernel)
theorem cpi_J1 : ∀ q ∈ cp_J1.1, memb q.1 [] = true → InitOK q := iniB_ok (hs := []) (by decide +kernel)
theorem cpf_J1 : ∀ q ∈ cp_J1.2.1, FieldOK "java/lang/StringLatin1" q := fldB_ok (hs := []) (by decide +kernel)
theorem cpt_J1 : ∀ q ∈ cp_J1.2.2.2.2.1, q.2 < nStr ∧ ∃ tx, ("java/lang/StringLatin1", q.1, tx, q.2) ∈ strR := fun _ h => nomatch h
theorem cpo_J1 : CpOK "java/lang/StringLatin1" cp_J1 := ⟨cpm_J1, cpf_J1, by decide +kernel, by decide +kernel, cpt_J1, by decide +kernel, by decide +kernel, by decide +kernel, by decide +kernel⟩
theorem ent_J1 {cc : ByteArray} {R : Room} {isI : Bool} {pg : PR} (h : ∀ q ∈ pg, decode cc q.1 = .ok (q.2.1, lenE q.1 q.2.1) ∧ entC cp_J1 "java/lang/StringLatin1" R isI [] [9] [] q.1 q.2.1 q.2.2 = true) : ∀ q ∈ pg, EntOK "java/lang/StringLatin1" cc cp_J1 R isI q := fun q hq => ⟨(h q hq).1, entC_ok cpv_J1 cps_J1 cpi_J1 (h q hq).2⟩
theorem cpm_J3_0 : ∀ q ∈ (cp_J3.1), MthOK "jdk/internal/util/Preconditions" q := mthB_ok (hs := []) (by decide +kernel)
theorem cpm_J3 : ∀ q ∈ cp_J3.1, MthOK "jdk/internal/util/Preconditions" q := cpm_J3_0
theorem cpv_J3 : ∀ q ∈ cp_J3.1, memb q.1 [] = true → VirtOK q := virB_ok (hs := []) (by decide +kernel)
theorem cps_J3 : ∀ q ∈ cp_J3.1, memb q.1 [] = true → StatOK q := staB_ok (hs := []) (by decide +kernel)
theorem cpi_J3 : ∀ q ∈ cp_J3.1, memb q.1 [] = true → InitOK q := iniB_ok (hs := []) (by decide +kernel)
theorem cpf_J3 : ∀ q ∈ cp_J3.2.1, FieldOK "jdk/internal/util/Preconditions" q := fldB_ok (hs := []) (by decide +kernel)
theorem cpt_J3 : ∀ q ∈ cp_J3.2.2.2.2.1, q.2 < nStr ∧ ∃ tx, ("jdk/internal/util/Preconditions", q.1, tx, q.2) ∈ strR := fun _ h => nomatch h
theorem cpo_J3 : CpOK "jdk/internal/util/Preconditions" cp_J3 := ⟨cpm_J3, cpf_J3, by decide +kernel, by decide +kernel, cpt_J3, by decide +kernel, by decide +kernel, by decide +kernel, by decide +kernel⟩
theorem ent_J3 {cc : ByteArray} {R : Room} {isI : Bool} {pg : PR} (h : ∀ q ∈ pg, decode cc q.1 = .ok (q.2.1, lenE q.1 q.2.1) ∧ entC cp_J3 "jdk/internal/util/Preconditions" R isI [] [] [] q.1 q.2.1 q.2.2 = true) : ∀ q ∈ pg, EntOK "jdk/internal/util/Preconditions" cc cp_J3 R isI q := fun q hq => ⟨(h q hq).1, entC_ok cpv_J3 cps_J3 cpi_J3 (h q hq).2⟩
theorem B_X0_at : Body 0 mc_X0_at false := ⟨wAt_mem (i := 2126) (by decide +kernel), plainFor_of_name (by decide +kernel), (fun h => nomatch h), rfl, rfl, rfl, True.intro, cpo_X0, ent_X0 (by decide +kernel)⟩
theorem B_X0_at_ : Body 1 mc_X0_at_ false := ⟨wAt_mem (i := 2145) (by decide +kernel), plainFor_of_name (by decide +kernel), (fun h => nomatch h), rfl, rfl, rfl, True.intro, cpo_X0, ent_X0 (by decide +kernel)⟩
theorem B_X0_put : Body 2 mc_X0_put false := ⟨wAt_mem (i := 2039) (by decide +kernel), plainFor_of_name (by decide +kernel), (fun h => nomatch h), rfl, rfl, rfl, True.intro, cpo_X0, ent_X0 (by decide +kernel)⟩
theorem B_X0_put_ : Body 3 mc_X0_put_ false := ⟨wAt_mem (i := 2114) (by decide +kernel), plainFor_of_name (by decide +kernel), (fun h => nomatch h), rfl, rfl, rfl, True.intro, cpo_X0, ent_X0 (by decide +kernel)⟩
theorem B_X0_copy : Body 4 mc_X0_copy false := ⟨wAt_mem (i := 3075) (by decide +kernel), plainFor_of_name (by decide +kernel), (fun h => nomatch h), rfl, rfl, rfl, True.intro, cpo_X0, ent_X0 (by decide +kernel)⟩
theorem B_X0_copyAll : Body 5 mc_X0_copyAll false := ⟨wAt_mem (i := 3072) (by decide +kernel), plainFor_of_name (by decide +kernel), (fun h => nomatch h), rfl, rfl, rfl, True.intro, cpo_X0, ent_X0 (by decide +kernel)⟩
theorem B_X1_init : Body 6 mc_X1_init true := ⟨wAt_mem (i := 1181) (by decide +kernel), plainFor_of_name (by decide +kernel), (fun _ => rfl), rfl, rfl, rfl, True.intro, cpo_X1, ent_X1 (by decide +kernel)⟩
theorem B_X1_gather : Body 7 mc_X1_gather false := ⟨wAt_mem (i := 3145) (by decide +kernel), plainFor_of_name (by decide +kernel), (fun h => nomatch h), rfl, rfl, rfl, True.intro, cpo_X1, ent_X1 (by decide +kernel)⟩
theorem B_X1_needOf : Body 8 mc_X1_needOf false := ⟨wAt_mem (i := 4018) (by decide +kernel), plainFor_of_name (by decide +kernel), (fun h => nomatch h), rfl, rfl, rfl, True.intro, cpo_X1, ent_X1 (by decide +kernel)⟩
theorem B_X1_lotIn : Body 9 mc_X1_lotIn false := ⟨wAt_mem (i := 5184) (by decide +kernel), plainFor_of_name (by decide +kernel), (fun h => nomatch h), rfl, rfl, rfl, True.intro, cpo_X1, ent_X1 (by decide +kernel)⟩
theorem B_X1_placeShift : Body 10 mc_X1_placeShift false := ⟨wAt_mem (i := 4023) (by decide +kernel), plainFor_of_name (by decide +kernel), (fun h => nomatch h), rfl, rfl, rfl, True.intro, cpo_X1, ent_X1 (by decide +kernel)⟩
theorem B_X1_lotsOfAll : Body 11 mc_X1_lotsOfAll false := ⟨wAt_mem (i := 4005) (by decide +kernel), plainFor_of_name (by decide +kernel), (fun h => nomatch h), rfl, rfl, rfl, True.intro, cpo_X1, ent_X1 (by decide +kernel)⟩
theorem B_X1_bestDealing : Body 12 mc_X1_bestDealing false := ⟨wAt_mem (i := 4009) (by decide +kernel), plainFor_of_name (by decide +kernel), (fun h => nomatch h), rfl, rfl, rfl, True.intro, cpo_X1, ent_X1 (by decide +kernel)⟩
theorem B_X1_addUpSets : Body 13 mc_X1_addUpSets false := ⟨wAt_mem (i := 4013) (by decide +kernel), plainFor_of_name (by decide +kernel), (fun h => nomatch h), rfl, rfl, rfl, True.intro, cpo_X1, ent_X1 (by decide +kernel)⟩
theorem B_X1_offerLot : Body 14 mc_X1_offerLot false := ⟨wAt_mem (i := 4038) (by decide +kernel), plainFor_of_name (by decide +kernel), (fun h => nomatch h), rfl, rfl, rfl, True.intro, cpo_X1, ent_X1 (by decide +kernel)⟩
theorem B_X1_costWith : Body 15 mc_X1_costWith false := ⟨wAt_mem (i := 4042) (by decide +kernel), plainFor_of_name (by decide +kernel), (fun h => nomatch h), rfl, rfl, rfl, True.intro, cpo_X1, ent_X1 (by decide +kernel)⟩
theorem B_X2_init : Body 16 mc_X2_init true := ⟨wAt_mem (i := 1057) (by decide +kernel), plainFor_of_name (by decide +kernel), (fun _ => rfl), rfl, rfl, rfl, True.intro, cpo_X2, ent_X2 (by decide +kernel)⟩
theorem B_X2_copyFrom : Body 17 mc_X2_copyFrom false := ⟨wAt_mem (i := 3069) (by decide +kernel), plainFor_of_name (by decide +kernel), (fun h => nomatch h), rfl, rfl, rfl, True.intro, cpo_X2, ent_X2 (by decide +kernel)⟩
theorem B_X2_empty : Body 18 mc_X2_empty false := ⟨wAt_mem (i := 2036) (by decide +kernel), plainFor_of_name (by decide +kernel), (fun h => nomatch h), rfl, rfl, rfl, True.intro, cpo_X2, ent_X2 (by decide +kernel)⟩
theorem B_X2_total : Body 19 mc_X2_total false := ⟨wAt_mem (i := 2175) (by decide +kernel), plainFor_of_name (by decide +kernel), (fun h => nomatch h), rfl, rfl, rfl, True.intro, cpo_X2, ent_X2 (by decide +kernel)⟩
theorem B_X2_isFull : Body 20 mc_X2_isFull false := ⟨wAt_mem (i := 2171) (by decide +kernel), plainFor_of_name (by decide +kernel), (fun h => nomatch h), rfl, rfl, rfl, True.intro, cpo_X2, ent_X2 (by decide +kernel)⟩
theorem B_X2_numberOf : Body 21 mc_X2_numberOf false := ⟨wAt_mem (i := 2165) (by decide +kernel), plainFor_of_name (by decide +kernel), (fun h => nomatch h), rfl, rfl, rfl, True.intro, cpo_X2, ent_X2 (by decide +kernel)⟩
theorem B_X2_addName : Body 22 mc_X2_addName false := ⟨wAt_mem (i := 2179) (by decide +kernel), plainFor_of_name (by decide +kernel), (fun h => nomatch h), rfl, rfl, rfl, True.intro, cpo_X2, ent_X2 (by decide +kernel)⟩
theorem B_X2_chartRowTotal : Body 23 mc_X2_chartRowTotal false := ⟨wAt_mem (i := 2221) (by decide +kernel), plainFor_of_name (by decide +kernel), (fun h => nomatch h), rfl, rfl, rfl, True.intro, cpo_X2, ent_X2 (by decide +kernel)⟩
theorem B_X2_taken : Body 24 mc_X2_taken false := ⟨wAt_mem (i := 2230) (by decide +kernel), plainFor_of_name (by decide +kernel), (fun h => nomatch h), rfl, rfl, rfl, True.intro, cpo_X2, ent_X2 (by decide +kernel)⟩
theorem B_X2_made : Body 25 mc_X2_made false := ⟨wAt_mem (i := 2213) (by decide +kernel), plainFor_of_name (by decide +kernel), (fun h => nomatch h), rfl, rfl, rfl, True.intro, cpo_X2, ent_X2 (by decide +kernel)⟩
theorem B_X2_mostMade : Body 26 mc_X2_mostMade false := ⟨wAt_mem (i := 5004) (by decide +kernel), plainFor_of_name (by decide +kernel), (fun h => nomatch h), rfl, rfl, rfl, True.intro, cpo_X2, ent_X2 (by decide +kernel)⟩
theorem B_X2_leastMade : Body 27 mc_X2_leastMade false := ⟨wAt_mem (i := 5121) (by decide +kernel), plainFor_of_name (by decide +kernel), (fun h => nomatch h), rfl, rfl, rfl, True.intro, cpo_X2, ent_X2 (by decide +kernel)⟩
theorem B_X2_madeByAll : Body 28 mc_X2_madeByAll false := ⟨wAt_mem (i := 3224) (by decide +kernel), plainFor_of_name (by decide +kernel), (fun h => nomatch h), rfl, rfl, rfl, True.intro, cpo_X2, ent_X2 (by decide +kernel)⟩
theorem B_X2_isClosed : Body 29 mc_X2_isClosed false := ⟨wAt_mem (i := 2225) (by decide +kernel), plainFor_of_name (by decide +kernel), (fun h => nomatch h), rfl, rfl, rfl, True.intro, cpo_X2, ent_X2 (by decide +kernel)⟩
theorem B_X2_addChartRow : Body 30 mc_X2_addChartRow false := ⟨wAt_mem (i := 2217) (by decide +kernel), plainFor_of_name (by decide +kernel), (fun h => nomatch h), rfl, rfl, rfl, True.intro, cpo_X2, ent_X2 (by decide +kernel)⟩
theorem B_X2_partTotal : Body 31 mc_X2_partTotal false := ⟨wAt_mem (i := 3010) (by decide +kernel), plainFor_of_name (by decide +kernel), (fun h => nomatch h), rfl, rfl, rfl, True.intro, cpo_X2, ent_X2 (by decide +kernel)⟩
theorem B_X2_addPart : Body 32 mc_X2_addPart false := ⟨wAt_mem (i := 3006) (by decide +kernel), plainFor_of_name (by decide +kernel), (fun h => nomatch h), rfl, rfl, rfl, True.intro, cpo_X2, ent_X2 (by decide +kernel)⟩
theorem B_X2_fact : Body 33 mc_X2_fact false := ⟨wAt_mem (i := 3163) (by decide +kernel), plainFor_of_name (by decide +kernel), (fun h => nomatch h), rfl, rfl, rfl, True.intro, cpo_X2, ent_X2 (by decide +kernel)⟩
theorem B_X2_setFact : Body 34 mc_X2_setFact false := ⟨wAt_mem (i := 3014) (by decide +kernel), plainFor_of_name (by decide +kernel), (fun h => nomatch h), rfl, rfl, rfl, True.intro, cpo_X2, ent_X2 (by decide +kernel)⟩
theorem B_X3_init : Body 35 mc_X3_init true := ⟨wAt_mem (i := 1143) (by decide +kernel), plainFor_of_name (by decide +kernel), (fun _ => rfl), rfl, rfl, rfl, True.intro, cpo_X3, ent_X3 (by decide +kernel)⟩
theorem B_X3_knit : Body 36 mc_X3_knit false := ⟨wAt_mem (i := 3150) (by decide +kernel), plainFor_of_name (by decide +kernel), (fun h => nomatch h), rfl, rfl, rfl, True.intro, cpo_X3, ent_X3 (by decide +kernel)⟩
theorem B_X3_countRows : Body 37 mc_X3_countRows false := ⟨wAt_mem (i := 3155) (by decide +kernel), plainFor_of_name (by decide +kernel), (fun h => nomatch h), rfl, rfl, rfl, True.intro, cpo_X3, ent_X3 (by decide +kernel)⟩
theorem B_X3_countGoal : Body 38 mc_X3_countGoal false := ⟨wAt_mem (i := 3179) (by decide +kernel), plainFor_of_name (by decide +kernel), (fun h => nomatch h), rfl, rfl, rfl, True.intro, cpo_X3, ent_X3 (by decide +kernel)⟩
theorem B_X3_nearest : Body 39 mc_X3_nearest false := ⟨wAt_mem (i := 3172) (by decide +kernel), plainFor_of_name (by decide +kernel), (fun h => nomatch h), rfl, rfl, rfl, True.intro, cpo_X3, ent_X3 (by decide +kernel)⟩
theorem B_X3_reasonAgainst : Body 40 mc_X3_reasonAgainst false := ⟨wAt_mem (i := 3190) (by decide +kernel), plainFor_of_name (by decide +kernel), (fun h => nomatch h), rfl, rfl, rfl, True.intro, cpo_X3, ent_X3 (by decide +kernel)⟩
theorem B_X3_addPart : Body 41 mc_X3_addPart false := ⟨wAt_mem (i := 3198) (by decide +kernel), plainFor_of_name (by decide +kernel), (fun h => nomatch h), rfl, rfl, rfl, True.intro, cpo_X3, ent_X3 (by decide +kernel)⟩
theorem B_X3_fact : Body 42 mc_X3_fact false := ⟨wAt_mem (i := 3159) (by decide +kernel), plainFor_of_name (by decide +kernel), (fun h => nomatch h), rfl, rfl, rfl, True.intro, cpo_X3, ent_X3 (by decide +kernel)⟩
theorem B_X3_rowsOf : Body 43 mc_X3_rowsOf false := ⟨wAt_mem (i := 3211) (by decide +kernel), plainFor_of_name (by decide +kernel), (fun h => nomatch h), rfl, rfl, rfl, True.intro, cpo_X3, ent_X3 (by decide +kernel)⟩
theorem B_X3_rowBehind : Body 44 mc_X3_rowBehind false := ⟨wAt_mem (i := 5088) (by decide +kernel), plainFor_of_name (by decide +kernel), (fun h => nomatch h), rfl, rfl, rfl, True.intro, cpo_X3, ent_X3 (by decide +kernel)⟩
theorem B_X3_ahead : Body 45 mc_X3_ahead false := ⟨wAt_mem (i := 3220) (by decide +kernel), plainFor_of_name (by decide +kernel), (fun h => nomatch h), rfl, rfl, rfl, True.intro, cpo_X3, ent_X3 (by decide +kernel)⟩
theorem B_X3_after : Body 46 mc_X3_after false := ⟨wAt_mem (i := 3232) (by decide +kernel), plainFor_of_name (by decide +kernel), (fun h => nomatch h), rfl, rfl, rfl, True.intro, cpo_X3, ent_X3 (by decide +kernel)⟩
theorem B_X3_partOfRow : Body 47 mc_X3_partOfRow false := ⟨wAt_mem (i := 5084) (by decide +kernel), plainFor_of_name (by decide +kernel), (fun h => nomatch h), rfl, rfl, rfl, True.intro, cpo_X3, ent_X3 (by decide +kernel)⟩
theorem B_X3_stitchesBehind : Body 48 mc_X3_stitchesBehind false := ⟨wAt_mem (i := 5080) (by decide +kernel), plainFor_of_name (by decide +kernel), (fun h => nomatch h), rfl, rfl, rfl, True.intro, cpo_X3, ent_X3 (by decide +kernel)⟩
theorem B_X3_shapingsUpTo : Body 49 mc_X3_shapingsUpTo false := ⟨wAt_mem (i := 5092) (by decide +kernel), plainFor_of_name (by decide +kernel), (fun h => nomatch h), rfl, rfl, rfl, True.intro, cpo_X3, ent_X3 (by decide +kernel)⟩
theorem B_X3_repeats : Body 50 mc_X3_repeats false := ⟨wAt_mem (i := 3216) (by decide +kernel), plainFor_of_name (by decide +kernel), (fun h => nomatch h), rfl, rfl, rfl, True.intro, cpo_X3, ent_X3 (by decide +kernel)⟩
theorem B_X3_shapingsOf : Body 51 mc_X3_shapingsOf false := ⟨wAt_mem (i := 3228) (by decide +kernel), plainFor_of_name (by decide +kernel), (fun h => nomatch h), rfl, rfl, rfl, True.intro, cpo_X3, ent_X3 (by decide +kernel)⟩
theorem B_X3_shapingRow : Body 52 mc_X3_shapingRow false := ⟨wAt_mem (i := 5134) (by decide +kernel), plainFor_of_name (by decide +kernel), (fun h => nomatch h), rfl, rfl, rfl, True.intro, cpo_X3, ent_X3 (by decide +kernel)⟩
theorem B_X3_greatestStitches : Body 53 mc_X3_greatestStitches false := ⟨wAt_mem (i := 5111) (by decide +kernel), plainFor_of_name (by decide +kernel), (fun h => nomatch h), rfl, rfl, rfl, True.intro, cpo_X3, ent_X3 (by decide +kernel)⟩
theorem B_X3_leastStitches : Body 54 mc_X3_leastStitches false := ⟨wAt_mem (i := 5116) (by decide +kernel), plainFor_of_name (by decide +kernel), (fun h => nomatch h), rfl, rfl, rfl, True.intro, cpo_X3, ent_X3 (by decide +kernel)⟩
theorem B_X3_stitchSum : Body 55 mc_X3_stitchSum false := ⟨wAt_mem (i := 5153) (by decide +kernel), plainFor_of_name (by decide +kernel), (fun h => nomatch h), rfl, rfl, rfl, True.intro, cpo_X3, ent_X3 (by decide +kernel)⟩
theorem B_X3_stitchSumIn : Body 56 mc_X3_stitchSumIn false := ⟨wAt_mem (i := 3203) (by decide +kernel), plainFor_of_name (by decide +kernel), (fun h => nomatch h), rfl, rfl, rfl, True.intro, cpo_X3, ent_X3 (by decide +kernel)⟩
theorem B_X3_sumOf : Body 57 mc_X3_sumOf false := ⟨wAt_mem (i := 3207) (by decide +kernel), plainFor_of_name (by decide +kernel), (fun h => nomatch h), rfl, rfl, rfl, True.intro, cpo_X3, ent_X3 (by decide +kernel)⟩
theorem B_X3_sumOfShapingRows : Body 58 mc_X3_sumOfShapingRows false := ⟨wAt_mem (i := 3235) (by decide +kernel), plainFor_of_name (by decide +kernel), (fun h => nomatch h), rfl, rfl, rfl, True.intro, cpo_X3, ent_X3 (by decide +kernel)⟩
theorem B_X3_commonDivisor : Body 59 mc_X3_commonDivisor false := ⟨wAt_mem (i := 3238) (by decide +kernel), plainFor_of_name (by decide +kernel), (fun h => nomatch h), rfl, rfl, rfl, True.intro, cpo_X3, ent_X3 (by decide +kernel)⟩
theorem B_X3_knitsLike : Body 60 mc_X3_knitsLike false := ⟨wAt_mem (i := 6057) (by decide +kernel), plainFor_of_name (by decide +kernel), (fun h => nomatch h), rfl, rfl, rfl, True.intro, cpo_X3, ent_X3 (by decide +kernel)⟩
theorem B_X3_nextToCompare : Body 61 mc_X3_nextToCompare false := ⟨wAt_mem (i := 6062) (by decide +kernel), plainFor_of_name (by decide +kernel), (fun h => nomatch h), rfl, rfl, rfl, True.intro, cpo_X3, ent_X3 (by decide +kernel)⟩
theorem B_X3_isEven : Body 62 mc_X3_isEven false := ⟨wAt_mem (i := 6066) (by decide +kernel), plainFor_of_name (by decide +kernel), (fun h => nomatch h), rfl, rfl, rfl, True.intro, cpo_X3, ent_X3 (by decide +kernel)⟩
theorem B_X3_isPartOf : Body 63 mc_X3_isPartOf false := ⟨wAt_mem (i := 6070) (by decide +kernel), plainFor_of_name (by decide +kernel), (fun h => nomatch h), rfl, rfl, rfl, True.intro, cpo_X3, ent_X3 (by decide +kernel)⟩
theorem B_X4_init : Body 64 mc_X4_init true := ⟨wAt_mem (i := 1051) (by decide +kernel), plainFor_of_name (by decide +kernel), (fun _ => rfl), rfl, rfl, rfl, True.intro, cpo_X4, ent_X4 (by decide +kernel)⟩
theorem B_X4_readText : Body 65 mc_X4_readText false := ⟨wAt_mem (i := 2032) (by decide +kernel), plainFor_of_name (by decide +kernel), (fun h => nomatch h), rfl, rfl, rfl, True.intro, cpo_X4, ent_X4 (by decide +kernel)⟩
theorem B_X4_splitTokens : Body 66 mc_X4_splitTokens false := ⟨wAt_mem (i := 2048) (by decide +kernel), plainFor_of_name (by decide +kernel), (fun h => nomatch h), rfl, rfl, rfl, True.intro, cpo_X4, ent_X4 (by decide +kernel)⟩
theorem B_X4_setToken : Body 67 mc_X4_setToken false := ⟨wAt_mem (i := 2106) (by decide +kernel), plainFor_of_name (by decide +kernel), (fun h => nomatch h), rfl, rfl, rfl, True.intro, cpo_X4, ent_X4 (by decide +kernel)⟩
theorem B_X4_runEnd : Body 68 mc_X4_runEnd false := ⟨wAt_mem (i := 2052) (by decide +kernel), plainFor_of_name (by decide +kernel), (fun h => nomatch h), rfl, rfl, rfl, True.intro, cpo_X4, ent_X4 (by decide +kernel)⟩
theorem B_X4_kindOf : Body 69 mc_X4_kindOf false := ⟨wAt_mem (i := 2072) (by decide +kernel), plainFor_of_name (by decide +kernel), (fun h => nomatch h), rfl, rfl, rfl, True.intro, cpo_X4, ent_X4 (by decide +kernel)⟩
theorem B_X4_wordKind : Body 70 mc_X4_wordKind false := ⟨wAt_mem (i := 2076) (by decide +kernel), plainFor_of_name (by decide +kernel), (fun h => nomatch h), rfl, rfl, rfl, True.intro, cpo_X4, ent_X4 (by decide +kernel)⟩
theorem B_X4_wordOf : Body 71 mc_X4_wordOf false := ⟨wAt_mem (i := 2079) (by decide +kernel), plainFor_of_name (by decide +kernel), (fun h => nomatch h), rfl, rfl, ⟨_, rfl⟩, True.intro, cpo_X4, ent_X4 (by decide +kernel)⟩
theorem B_X4_failIf : Body 72 mc_X4_failIf false := ⟨wAt_mem (i := 2138) (by decide +kernel), plainFor_of_name (by decide +kernel), (fun h => nomatch h), rfl, rfl, rfl, True.intro, cpo_X4, ent_X4 (by decide +kernel)⟩
theorem B_X4_pass : Body 73 mc_X4_pass false := ⟨wAt_mem (i := 2123) (by decide +kernel), plainFor_of_name (by decide +kernel), (fun h => nomatch h), rfl, rfl, rfl, True.intro, cpo_X4, ent_X4 (by decide +kernel)⟩
theorem B_X4_passToken : Body 74 mc_X4_passToken false := ⟨wAt_mem (i := 2134) (by decide +kernel), plainFor_of_name (by decide +kernel), (fun h => nomatch h), rfl, rfl, rfl, True.intro, cpo_X4, ent_X4 (by decide +kernel)⟩
theorem B_X4_readNumber : Body 75 mc_X4_readNumber false := ⟨wAt_mem (i := 2142) (by decide +kernel), plainFor_of_name (by decide +kernel), (fun h => nomatch h), rfl, rfl, rfl, True.intro, cpo_X4, ent_X4 (by decide +kernel)⟩
theorem B_X4_nameHere : Body 76 mc_X4_nameHere false := ⟨wAt_mem (i := 2161) (by decide +kernel), plainFor_of_name (by decide +kernel), (fun h => nomatch h), rfl, rfl, rfl, True.intro, cpo_X4, ent_X4 (by decide +kernel)⟩
theorem B_X4_readNewName : Body 77 mc_X4_readNewName false := ⟨wAt_mem (i := 2157) (by decide +kernel), plainFor_of_name (by decide +kernel), (fun h => nomatch h), rfl, rfl, rfl, True.intro, cpo_X4, ent_X4 (by decide +kernel)⟩
theorem B_X4_readKnownName : Body 78 mc_X4_readKnownName false := ⟨wAt_mem (i := 3022) (by decide +kernel), plainFor_of_name (by decide +kernel), (fun h => nomatch h), rfl, rfl, rfl, True.intro, cpo_X4, ent_X4 (by decide +kernel)⟩
theorem B_X4_readGauge : Body 79 mc_X4_readGauge false := ⟨wAt_mem (i := 2130) (by decide +kernel), plainFor_of_name (by decide +kernel), (fun h => nomatch h), rfl, rfl, rfl, True.intro, cpo_X4, ent_X4 (by decide +kernel)⟩
theorem B_X4_readSizes : Body 80 mc_X4_readSizes false := ⟨wAt_mem (i := 2153) (by decide +kernel), plainFor_of_name (by decide +kernel), (fun h => nomatch h), rfl, rfl, rfl, True.intro, cpo_X4, ent_X4 (by decide +kernel)⟩
theorem B_X4_readMeasure : Body 81 mc_X4_readMeasure false := ⟨wAt_mem (i := 2184) (by decide +kernel), plainFor_of_name (by decide +kernel), (fun h => nomatch h), rfl, rfl, rfl, True.intro, cpo_X4, ent_X4 (by decide +kernel)⟩
theorem B_X4_readChart : Body 82 mc_X4_readChart false := ⟨wAt_mem (i := 2194) (by decide +kernel), plainFor_of_name (by decide +kernel), (fun h => nomatch h), rfl, rfl, rfl, True.intro, cpo_X4, ent_X4 (by decide +kernel)⟩
theorem B_X4_readChartRow : Body 83 mc_X4_readChartRow false := ⟨wAt_mem (i := 2198) (by decide +kernel), plainFor_of_name (by decide +kernel), (fun h => nomatch h), rfl, rfl, rfl, True.intro, cpo_X4, ent_X4 (by decide +kernel)⟩
theorem B_X4_isChartRowHere : Body 84 mc_X4_isChartRowHere false := ⟨wAt_mem (i := 2202) (by decide +kernel), plainFor_of_name (by decide +kernel), (fun h => nomatch h), rfl, rfl, rfl, True.intro, cpo_X4, ent_X4 (by decide +kernel)⟩
theorem B_X4_takenHere : Body 85 mc_X4_takenHere false := ⟨wAt_mem (i := 2209) (by decide +kernel), plainFor_of_name (by decide +kernel), (fun h => nomatch h), rfl, rfl, rfl, True.intro, cpo_X4, ent_X4 (by decide +kernel)⟩
theorem B_X4_takenBy : Body 86 mc_X4_takenBy false := ⟨wAt_mem (i := 2205) (by decide +kernel), plainFor_of_name (by decide +kernel), (fun h => nomatch h), rfl, rfl, rfl, True.intro, cpo_X4, ent_X4 (by decide +kernel)⟩
theorem B_X4_readPiece : Body 87 mc_X4_readPiece false := ⟨wAt_mem (i := 2234) (by decide +kernel), plainFor_of_name (by decide +kernel), (fun h => nomatch h), rfl, rfl, rfl, True.intro, cpo_X4, ent_X4 (by decide +kernel)⟩
theorem B_X4_readCast : Body 88 mc_X4_readCast false := ⟨wAt_mem (i := 2238) (by decide +kernel), plainFor_of_name (by decide +kernel), (fun h => nomatch h), rfl, rfl, rfl, True.intro, cpo_X4, ent_X4 (by decide +kernel)⟩
theorem B_X4_readWork : Body 89 mc_X4_readWork false := ⟨wAt_mem (i := 3039) (by decide +kernel), plainFor_of_name (by decide +kernel), (fun h => nomatch h), rfl, rfl, rfl, True.intro, cpo_X4, ent_X4 (by decide +kernel)⟩
theorem B_X4_readShape : Body 90 mc_X4_readShape false := ⟨wAt_mem (i := 3043) (by decide +kernel), plainFor_of_name (by decide +kernel), (fun h => nomatch h), rfl, rfl, rfl, True.intro, cpo_X4, ent_X4 (by decide +kernel)⟩
theorem B_X4_readWidth : Body 91 mc_X4_readWidth false := ⟨wAt_mem (i := 3018) (by decide +kernel), plainFor_of_name (by decide +kernel), (fun h => nomatch h), rfl, rfl, rfl, True.intro, cpo_X4, ent_X4 (by decide +kernel)⟩
theorem B_X4_readColor : Body 92 mc_X4_readColor false := ⟨wAt_mem (i := 3035) (by decide +kernel), plainFor_of_name (by decide +kernel), (fun h => nomatch h), rfl, rfl, rfl, True.intro, cpo_X4, ent_X4 (by decide +kernel)⟩
theorem B_X4_startPart : Body 93 mc_X4_startPart false := ⟨wAt_mem (i := 3002) (by decide +kernel), plainFor_of_name (by decide +kernel), (fun h => nomatch h), rfl, rfl, rfl, True.intro, cpo_X4, ent_X4 (by decide +kernel)⟩
theorem B_X4_tell : Body 94 mc_X4_tell false := ⟨wAt_mem (i := 3026) (by decide +kernel), plainFor_of_name (by decide +kernel), (fun h => nomatch h), rfl, rfl, rfl, True.intro, cpo_X4, ent_X4 (by decide +kernel)⟩
theorem B_X4_readLot : Body 95 mc_X4_readLot false := ⟨wAt_mem (i := 3047) (by decide +kernel), plainFor_of_name (by decide +kernel), (fun h => nomatch h), rfl, rfl, rfl, True.intro, cpo_X4, ent_X4 (by decide +kernel)⟩
theorem B_X5_init : Body 96 mc_X5_init true := ⟨wAt_mem (i := 1206) (by decide +kernel), plainFor_of_name (by decide +kernel), (fun _ => rfl), rfl, rfl, rfl, True.intro, cpo_X5, ent_X5 (by decide +kernel)⟩
theorem B_X5_keep : Body 97 mc_X5_keep false := ⟨wAt_mem (i := 5206) (by decide +kernel), plainFor_of_name (by decide +kernel), (fun h => nomatch h), rfl, rfl, rfl, True.intro, cpo_X5, ent_X5 (by decide +kernel)⟩
theorem B_X5_bring : Body 98 mc_X5_bring false := ⟨wAt_mem (i := 6028) (by decide +kernel), plainFor_of_name (by decide +kernel), (fun h => nomatch h), rfl, rfl, rfl, True.intro, cpo_X5, ent_X5 (by decide +kernel)⟩
theorem B_X6_init : Body 99 mc_X6_init true := ⟨wAt_mem (i := 1087) (by decide +kernel), plainFor_of_name (by decide +kernel), (fun _ => rfl), rfl, rfl, rfl, True.intro, cpo_X6, ent_X6 (by decide +kernel)⟩
theorem B_X6_copyFrom : Body 100 mc_X6_copyFrom false := ⟨wAt_mem (i := 3081) (by decide +kernel), plainFor_of_name (by decide +kernel), (fun h => nomatch h), rfl, rfl, rfl, True.intro, cpo_X6, ent_X6 (by decide +kernel)⟩
theorem B_X6_empty : Body 101 mc_X6_empty false := ⟨wAt_mem (i := 2043) (by decide +kernel), plainFor_of_name (by decide +kernel), (fun h => nomatch h), rfl, rfl, rfl, True.intro, cpo_X6, ent_X6 (by decide +kernel)⟩
theorem B_X6_cell : Body 102 mc_X6_cell false := ⟨wAt_mem (i := 3055) (by decide +kernel), plainFor_of_name (by decide +kernel), (fun h => nomatch h), rfl, rfl, rfl, True.intro, cpo_X6, ent_X6 (by decide +kernel)⟩
theorem B_X6_setCell : Body 103 mc_X6_setCell false := ⟨wAt_mem (i := 2149) (by decide +kernel), plainFor_of_name (by decide +kernel), (fun h => nomatch h), rfl, rfl, rfl, True.intro, cpo_X6, ent_X6 (by decide +kernel)⟩
theorem B_X6_measured : Body 104 mc_X6_measured false := ⟨wAt_mem (i := 3167) (by decide +kernel), plainFor_of_name (by decide +kernel), (fun h => nomatch h), rfl, rfl, rfl, True.intro, cpo_X6, ent_X6 (by decide +kernel)⟩
theorem B_X6_setMeasured : Body 105 mc_X6_setMeasured false := ⟨wAt_mem (i := 2189) (by decide +kernel), plainFor_of_name (by decide +kernel), (fun h => nomatch h), rfl, rfl, rfl, True.intro, cpo_X6, ent_X6 (by decide +kernel)⟩
theorem B_X6_easeOf : Body 106 mc_X6_easeOf false := ⟨wAt_mem (i := 3183) (by decide +kernel), plainFor_of_name (by decide +kernel), (fun h => nomatch h), rfl, rfl, rfl, True.intro, cpo_X6, ent_X6 (by decide +kernel)⟩
theorem B_X6_setEaseOf : Body 107 mc_X6_setEaseOf false := ⟨wAt_mem (i := 3031) (by decide +kernel), plainFor_of_name (by decide +kernel), (fun h => nomatch h), rfl, rfl, rfl, True.intro, cpo_X6, ent_X6 (by decide +kernel)⟩
theorem B_X6_lots : Body 108 mc_X6_lots false := ⟨wAt_mem (i := 3051) (by decide +kernel), plainFor_of_name (by decide +kernel), (fun h => nomatch h), rfl, rfl, rfl, True.intro, cpo_X6, ent_X6 (by decide +kernel)⟩
theorem B_X6_lotColor : Body 109 mc_X6_lotColor false := ⟨wAt_mem (i := 4029) (by decide +kernel), plainFor_of_name (by decide +kernel), (fun h => nomatch h), rfl, rfl, rfl, True.intro, cpo_X6, ent_X6 (by decide +kernel)⟩
theorem B_X6_lotMeters : Body 110 mc_X6_lotMeters false := ⟨wAt_mem (i := 4034) (by decide +kernel), plainFor_of_name (by decide +kernel), (fun h => nomatch h), rfl, rfl, rfl, True.intro, cpo_X6, ent_X6 (by decide +kernel)⟩
theorem B_X6_appendLot : Body 111 mc_X6_appendLot false := ⟨wAt_mem (i := 3060) (by decide +kernel), plainFor_of_name (by decide +kernel), (fun h => nomatch h), rfl, rfl, rfl, True.intro, cpo_X6, ent_X6 (by decide +kernel)⟩
theorem B_X6_dropLot : Body 112 mc_X6_dropLot false := ⟨wAt_mem (i := 6015) (by decide +kernel), plainFor_of_name (by decide +kernel), (fun h => nomatch h), rfl, rfl, rfl, True.intro, cpo_X6, ent_X6 (by decide +kernel)⟩
theorem B_X7_init : Body 113 mc_X7_init true := ⟨wAt_mem (i := 1035) (by decide +kernel), plainFor_of_name (by decide +kernel), (fun _ => rfl), rfl, rfl, rfl, True.intro, cpo_X7, ent_X7 (by decide +kernel)⟩
theorem B_X7_byteAt : Body 114 mc_X7_byteAt false := ⟨wAt_mem (i := 2060) (by decide +kernel), plainFor_of_name (by decide +kernel), (fun h => nomatch h), rfl, rfl, rfl, True.intro, cpo_X7, ent_X7 (by decide +kernel)⟩
theorem B_X7_shorten : Body 115 mc_X7_shorten false := ⟨wAt_mem (i := 3065) (by decide +kernel), plainFor_of_name (by decide +kernel), (fun h => nomatch h), rfl, rfl, rfl, True.intro, cpo_X7, ent_X7 (by decide +kernel)⟩
theorem B_X7_addByte : Body 116 mc_X7_addByte false := ⟨wAt_mem (i := 2028) (by decide +kernel), plainFor_of_name (by decide +kernel), (fun h => nomatch h), rfl, rfl, rfl, True.intro, cpo_X7, ent_X7 (by decide +kernel)⟩
theorem B_X7_addFour : Body 117 mc_X7_addFour false := ⟨wAt_mem (i := 4122) (by decide +kernel), plainFor_of_name (by decide +kernel), (fun h => nomatch h), rfl, rfl, rfl, True.intro, cpo_X7, ent_X7 (by decide +kernel)⟩
theorem B_X7_addText : Body 118 mc_X7_addText false := ⟨wAt_mem (i := 1216) (by decide +kernel), plainFor_of_name (by decide +kernel), (fun h => nomatch h), rfl, rfl, rfl, True.intro, cpo_X7, ent_X7 (by decide +kernel)⟩
theorem B_X7_isLetter : Body 119 mc_X7_isLetter false := ⟨wAt_mem (i := 2056) (by decide +kernel), plainFor_of_name (by decide +kernel), (fun h => nomatch h), rfl, rfl, rfl, True.intro, cpo_X7, ent_X7 (by decide +kernel)⟩
theorem B_X7_isDigit : Body 120 mc_X7_isDigit false := ⟨wAt_mem (i := 2064) (by decide +kernel), plainFor_of_name (by decide +kernel), (fun h => nomatch h), rfl, rfl, rfl, True.intro, cpo_X7, ent_X7 (by decide +kernel)⟩
theorem B_X7_isBlank : Body 121 mc_X7_isBlank false := ⟨wAt_mem (i := 2068) (by decide +kernel), plainFor_of_name (by decide +kernel), (fun h => nomatch h), rfl, rfl, rfl, True.intro, cpo_X7, ent_X7 (by decide +kernel)⟩
theorem B_X7_holdsWord : Body 122 mc_X7_holdsWord false := ⟨wAt_mem (i := 2101) (by decide +kernel), plainFor_of_name (by decide +kernel), (fun h => nomatch h), rfl, rfl, rfl, True.intro, cpo_X7, ent_X7 (by decide +kernel)⟩
theorem B_X7_digitsValue : Body 123 mc_X7_digitsValue false := ⟨wAt_mem (i := 2111) (by decide +kernel), plainFor_of_name (by decide +kernel), (fun h => nomatch h), rfl, rfl, rfl, True.intro, cpo_X7, ent_X7 (by decide +kernel)⟩
theorem B_X7_packedName : Body 124 mc_X7_packedName false := ⟨wAt_mem (i := 2118) (by decide +kernel), plainFor_of_name (by decide +kernel), (fun h => nomatch h), rfl, rfl, rfl, True.intro, cpo_X7, ent_X7 (by decide +kernel)⟩
theorem B_X8_init : Body 125 mc_X8_init true := ⟨wAt_mem (i := 1027) (by decide +kernel), plainFor_of_name (by decide +kernel), (fun _ => rfl), rfl, rfl, rfl, True.intro, cpo_X8, ent_X8 (by decide +kernel)⟩
theorem B_X8_append : Body 126 mc_X8_append false := ⟨wAt_mem (i := 4054) (by decide +kernel), plainFor_of_name (by decide +kernel), (fun h => nomatch h), rfl, rfl, rfl, True.intro, cpo_X8, ent_X8 (by decide +kernel)⟩
theorem B_X8_truncate : Body 127 mc_X8_truncate false := ⟨wAt_mem (i := 4130) (by decide +kernel), plainFor_of_name (by decide +kernel), (fun h => nomatch h), rfl, rfl, rfl, True.intro, cpo_X8, ent_X8 (by decide +kernel)⟩
theorem B_X8_load : Body 128 mc_X8_load false := ⟨wAt_mem (i := 4153) (by decide +kernel), plainFor_of_name (by decide +kernel), (fun h => nomatch h), rfl, rfl, rfl, True.intro, cpo_X8, ent_X8 (by decide +kernel)⟩
theorem B_X8_errorCode : Body 129 mc_X8_errorCode false := ⟨wAt_mem (i := 3132) (by decide +kernel), plainFor_of_name (by decide +kernel), (fun h => nomatch h), rfl, rfl, rfl, True.intro, cpo_X8, ent_X8 (by decide +kernel)⟩
theorem B_X8_errorPosition : Body 130 mc_X8_errorPosition false := ⟨wAt_mem (i := 3136) (by decide +kernel), plainFor_of_name (by decide +kernel), (fun h => nomatch h), rfl, rfl, rfl, True.intro, cpo_X8, ent_X8 (by decide +kernel)⟩
theorem B_X8_find : Body 131 mc_X8_find false := ⟨wAt_mem (i := 4176) (by decide +kernel), plainFor_of_name (by decide +kernel), (fun h => nomatch h), rfl, rfl, rfl, True.intro, cpo_X8, ent_X8 (by decide +kernel)⟩
theorem B_X8_count : Body 132 mc_X8_count false := ⟨wAt_mem (i := 4203) (by decide +kernel), plainFor_of_name (by decide +kernel), (fun h => nomatch h), rfl, rfl, rfl, True.intro, cpo_X8, ent_X8 (by decide +kernel)⟩
theorem B_X8_value : Body 133 mc_X8_value false := ⟨wAt_mem (i := 4212) (by decide +kernel), plainFor_of_name (by decide +kernel), (fun h => nomatch h), rfl, rfl, rfl, True.intro, cpo_X8, ent_X8 (by decide +kernel)⟩
theorem B_X8_isGraded : Body 134 mc_X8_isGraded false := ⟨wAt_mem (i := 4223) (by decide +kernel), plainFor_of_name (by decide +kernel), (fun h => nomatch h), rfl, rfl, rfl, True.intro, cpo_X8, ent_X8 (by decide +kernel)⟩
theorem B_X8_fits : Body 135 mc_X8_fits false := ⟨wAt_mem (i := 4230) (by decide +kernel), plainFor_of_name (by decide +kernel), (fun h => nomatch h), rfl, rfl, rfl, True.intro, cpo_X8, ent_X8 (by decide +kernel)⟩
theorem B_X8_chart : Body 136 mc_X8_chart false := ⟨wAt_mem (i := 4238) (by decide +kernel), plainFor_of_name (by decide +kernel), (fun h => nomatch h), rfl, rfl, rfl, True.intro, cpo_X8, ent_X8 (by decide +kernel)⟩
theorem B_X8_chartRow : Body 137 mc_X8_chartRow false := ⟨wAt_mem (i := 5012) (by decide +kernel), plainFor_of_name (by decide +kernel), (fun h => nomatch h), rfl, rfl, rfl, True.intro, cpo_X8, ent_X8 (by decide +kernel)⟩
theorem B_X8_part : Body 138 mc_X8_part false := ⟨wAt_mem (i := 5020) (by decide +kernel), plainFor_of_name (by decide +kernel), (fun h => nomatch h), rfl, rfl, rfl, True.intro, cpo_X8, ent_X8 (by decide +kernel)⟩
theorem B_X8_parts : Body 139 mc_X8_parts false := ⟨wAt_mem (i := 5034) (by decide +kernel), plainFor_of_name (by decide +kernel), (fun h => nomatch h), rfl, rfl, rfl, True.intro, cpo_X8, ent_X8 (by decide +kernel)⟩
theorem B_X8_failure : Body 140 mc_X8_failure false := ⟨wAt_mem (i := 5041) (by decide +kernel), plainFor_of_name (by decide +kernel), (fun h => nomatch h), rfl, rfl, rfl, True.intro, cpo_X8, ent_X8 (by decide +kernel)⟩
theorem B_X8_rows : Body 141 mc_X8_rows false := ⟨wAt_mem (i := 5053) (by decide +kernel), plainFor_of_name (by decide +kernel), (fun h => nomatch h), rfl, rfl, rfl, True.intro, cpo_X8, ent_X8 (by decide +kernel)⟩
theorem B_X8_partRows : Body 142 mc_X8_partRows false := ⟨wAt_mem (i := 5060) (by decide +kernel), plainFor_of_name (by decide +kernel), (fun h => nomatch h), rfl, rfl, rfl, True.intro, cpo_X8, ent_X8 (by decide +kernel)⟩
theorem B_X8_stitches : Body 143 mc_X8_stitches false := ⟨wAt_mem (i := 5072) (by decide +kernel), plainFor_of_name (by decide +kernel), (fun h => nomatch h), rfl, rfl, rfl, True.intro, cpo_X8, ent_X8 (by decide +kernel)⟩
theorem B_X8_partAt : Body 144 mc_X8_partAt false := ⟨wAt_mem (i := 5099) (by decide +kernel), plainFor_of_name (by decide +kernel), (fun h => nomatch h), rfl, rfl, rfl, True.intro, cpo_X8, ent_X8 (by decide +kernel)⟩
theorem B_X8_extreme : Body 145 mc_X8_extreme false := ⟨wAt_mem (i := 5107) (by decide +kernel), plainFor_of_name (by decide +kernel), (fun h => nomatch h), rfl, rfl, rfl, True.intro, cpo_X8, ent_X8 (by decide +kernel)⟩
theorem B_X8_shaping : Body 146 mc_X8_shaping false := ⟨wAt_mem (i := 5129) (by decide +kernel), plainFor_of_name (by decide +kernel), (fun h => nomatch h), rfl, rfl, rfl, True.intro, cpo_X8, ent_X8 (by decide +kernel)⟩
theorem B_X8_width : Body 147 mc_X8_width false := ⟨wAt_mem (i := 5141) (by decide +kernel), plainFor_of_name (by decide +kernel), (fun h => nomatch h), rfl, rfl, rfl, True.intro, cpo_X8, ent_X8 (by decide +kernel)⟩
theorem B_X8_mean : Body 148 mc_X8_mean false := ⟨wAt_mem (i := 5149) (by decide +kernel), plainFor_of_name (by decide +kernel), (fun h => nomatch h), rfl, rfl, rfl, True.intro, cpo_X8, ent_X8 (by decide +kernel)⟩
theorem B_X8_need : Body 149 mc_X8_need false := ⟨wAt_mem (i := 5160) (by decide +kernel), plainFor_of_name (by decide +kernel), (fun h => nomatch h), rfl, rfl, rfl, True.intro, cpo_X8, ent_X8 (by decide +kernel)⟩
theorem B_X8_lot : Body 150 mc_X8_lot false := ⟨wAt_mem (i := 5168) (by decide +kernel), plainFor_of_name (by decide +kernel), (fun h => nomatch h), rfl, rfl, rfl, True.intro, cpo_X8, ent_X8 (by decide +kernel)⟩
theorem B_X8_dealt : Body 151 mc_X8_dealt false := ⟨wAt_mem (i := 5177) (by decide +kernel), plainFor_of_name (by decide +kernel), (fun h => nomatch h), rfl, rfl, rfl, True.intro, cpo_X8, ent_X8 (by decide +kernel)⟩
theorem B_X8_lotsUsed : Body 152 mc_X8_lotsUsed false := ⟨wAt_mem (i := 5191) (by decide +kernel), plainFor_of_name (by decide +kernel), (fun h => nomatch h), rfl, rfl, rfl, True.intro, cpo_X8, ent_X8 (by decide +kernel)⟩
theorem B_X8_possible : Body 153 mc_X8_possible false := ⟨wAt_mem (i := 3140) (by decide +kernel), plainFor_of_name (by decide +kernel), (fun h => nomatch h), rfl, rfl, rfl, True.intro, cpo_X8, ent_X8 (by decide +kernel)⟩
theorem B_X8_setGauge : Body 154 mc_X8_setGauge false := ⟨wAt_mem (i := 5198) (by decide +kernel), plainFor_of_name (by decide +kernel), (fun h => nomatch h), rfl, rfl, rfl, True.intro, cpo_X8, ent_X8 (by decide +kernel)⟩
theorem B_X8_setValue : Body 155 mc_X8_setValue false := ⟨wAt_mem (i := 5219) (by decide +kernel), plainFor_of_name (by decide +kernel), (fun h => nomatch h), rfl, rfl, rfl, True.intro, cpo_X8, ent_X8 (by decide +kernel)⟩
theorem B_X8_grade : Body 156 mc_X8_grade false := ⟨wAt_mem (i := 5227) (by decide +kernel), plainFor_of_name (by decide +kernel), (fun h => nomatch h), rfl, rfl, rfl, True.intro, cpo_X8, ent_X8 (by decide +kernel)⟩
theorem B_X8_setEase : Body 157 mc_X8_setEase false := ⟨wAt_mem (i := 5235) (by decide +kernel), plainFor_of_name (by decide +kernel), (fun h => nomatch h), rfl, rfl, rfl, True.intro, cpo_X8, ent_X8 (by decide +kernel)⟩
theorem B_X8_addLot : Body 158 mc_X8_addLot false := ⟨wAt_mem (i := 6003) (by decide +kernel), plainFor_of_name (by decide +kernel), (fun h => nomatch h), rfl, rfl, rfl, True.intro, cpo_X8, ent_X8 (by decide +kernel)⟩
theorem B_X8_removeLot : Body 159 mc_X8_removeLot false := ⟨wAt_mem (i := 6011) (by decide +kernel), plainFor_of_name (by decide +kernel), (fun h => nomatch h), rfl, rfl, rfl, True.intro, cpo_X8, ent_X8 (by decide +kernel)⟩
theorem B_X8_undo : Body 160 mc_X8_undo false := ⟨wAt_mem (i := 6024) (by decide +kernel), plainFor_of_name (by decide +kernel), (fun h => nomatch h), rfl, rfl, rfl, True.intro, cpo_X8, ent_X8 (by decide +kernel)⟩
theorem B_X8_save : Body 161 mc_X8_save false := ⟨wAt_mem (i := 6035) (by decide +kernel), plainFor_of_name (by decide +kernel), (fun h => nomatch h), rfl, rfl, rfl, True.intro, cpo_X8, ent_X8 (by decide +kernel)⟩
theorem B_X8_restore : Body 162 mc_X8_restore false := ⟨wAt_mem (i := 6042) (by decide +kernel), plainFor_of_name (by decide +kernel), (fun h => nomatch h), rfl, rfl, rfl, True.intro, cpo_X8, ent_X8 (by decide +kernel)⟩
theorem B_X8_differences : Body 163 mc_X8_differences false := ⟨wAt_mem (i := 6053) (by decide +kernel), plainFor_of_name (by decide +kernel), (fun h => nomatch h), rfl, rfl, rfl, True.intro, cpo_X8, ent_X8 (by decide +kernel)⟩
theorem B_X8_checkIndex : Body 164 mc_X8_checkIndex false := ⟨wAt_mem (i := 4215) (by decide +kernel), plainFor_of_name (by decide +kernel), (fun h => nomatch h), rfl, rfl, rfl, True.intro, cpo_X8, ent_X8 (by decide +kernel)⟩
theorem B_X8_checkRange : Body 165 mc_X8_checkRange false := ⟨wAt_mem (i := 4179) (by decide +kernel), plainFor_of_name (by decide +kernel), (fun h => nomatch h), rfl, rfl, rfl, True.intro, cpo_X8, ent_X8 (by decide +kernel)⟩
theorem B_X8_checkPart : Body 166 mc_X8_checkPart false := ⟨wAt_mem (i := 5024) (by decide +kernel), plainFor_of_name (by decide +kernel), (fun h => nomatch h), rfl, rfl, rfl, True.intro, cpo_X8, ent_X8 (by decide +kernel)⟩
theorem B_X8_checkSaved : Body 167 mc_X8_checkSaved false := ⟨wAt_mem (i := 6046) (by decide +kernel), plainFor_of_name (by decide +kernel), (fun h => nomatch h), rfl, rfl, rfl, True.intro, cpo_X8, ent_X8 (by decide +kernel)⟩
theorem B_X8_planPiece : Body 168 mc_X8_planPiece false := ⟨wAt_mem (i := 5045) (by decide +kernel), plainFor_of_name (by decide +kernel), (fun h => nomatch h), rfl, rfl, rfl, True.intro, cpo_X8, ent_X8 (by decide +kernel)⟩
theorem B_X8_planRow : Body 169 mc_X8_planRow false := ⟨wAt_mem (i := 5076) (by decide +kernel), plainFor_of_name (by decide +kernel), (fun h => nomatch h), rfl, rfl, rfl, True.intro, cpo_X8, ent_X8 (by decide +kernel)⟩
theorem B_X8_planPart : Body 170 mc_X8_planPart false := ⟨wAt_mem (i := 5064) (by decide +kernel), plainFor_of_name (by decide +kernel), (fun h => nomatch h), rfl, rfl, rfl, True.intro, cpo_X8, ent_X8 (by decide +kernel)⟩
theorem B_X8_failingPieces : Body 171 mc_X8_failingPieces false := ⟨wAt_mem (i := 5212) (by decide +kernel), plainFor_of_name (by decide +kernel), (fun h => nomatch h), rfl, rfl, rfl, True.intro, cpo_X8, ent_X8 (by decide +kernel)⟩
theorem B_X8_rememberForUndo : Body 172 mc_X8_rememberForUndo false := ⟨wAt_mem (i := 5202) (by decide +kernel), plainFor_of_name (by decide +kernel), (fun h => nomatch h), rfl, rfl, rfl, True.intro, cpo_X8, ent_X8 (by decide +kernel)⟩
theorem B_X9_init : Body 173 mc_X9_init true := ⟨wAt_mem (i := 6075) (by decide +kernel), plainFor_of_name (by decide +kernel), (fun _ => rfl), rfl, rfl, rfl, True.intro, cpo_X9, ent_X9 (by decide +kernel)⟩
theorem B_X9_thrown : Body 174 mc_X9_thrown false := ⟨wAt_mem (i := 6234) (by decide +kernel), plainFor_of_name (by decide +kernel), (fun h => nomatch h), rfl, rfl, rfl, True.intro, cpo_X9, ent_X9 (by decide +kernel)⟩
theorem B_X9_isIn : Body 175 mc_X9_isIn false := ⟨wAt_mem (i := 7009) (by decide +kernel), plainFor_of_name (by decide +kernel), (fun h => nomatch h), rfl, rfl, rfl, True.intro, cpo_X9, ent_X9 (by decide +kernel)⟩
theorem B_X9_may : Body 176 mc_X9_may false := ⟨wAt_mem (i := 7002) (by decide +kernel), plainFor_of_name (by decide +kernel), (fun h => nomatch h), rfl, rfl, rfl, True.intro, cpo_X9, ent_X9 (by decide +kernel)⟩
theorem B_X9_calls : Body 177 mc_X9_calls false := ⟨wAt_mem (i := 6080) (by decide +kernel), plainFor_of_name (by decide +kernel), (fun h => nomatch h), rfl, rfl, rfl, True.intro, cpo_X9, ent_X9 (by decide +kernel)⟩
theorem B_X9_append : Body 178 mc_X9_append false := ⟨wAt_mem (i := 6238) (by decide +kernel), plainFor_of_name (by decide +kernel), (fun h => nomatch h), rfl, rfl, rfl, True.intro, cpo_X9, ent_X9 (by decide +kernel)⟩
theorem B_X9_truncate : Body 179 mc_X9_truncate false := ⟨wAt_mem (i := 7006) (by decide +kernel), plainFor_of_name (by decide +kernel), (fun h => nomatch h), rfl, rfl, rfl, True.intro, cpo_X9, ent_X9 (by decide +kernel)⟩
theorem B_X9_byteAt : Body 180 mc_X9_byteAt false := ⟨wAt_mem (i := 7021) (by decide +kernel), plainFor_of_name (by decide +kernel), (fun h => nomatch h), rfl, rfl, rfl, True.intro, cpo_X9, ent_X9 (by decide +kernel)⟩
theorem B_X9_isLetter : Body 181 mc_X9_isLetter false := ⟨wAt_mem (i := 7024) (by decide +kernel), plainFor_of_name (by decide +kernel), (fun h => nomatch h), rfl, rfl, rfl, True.intro, cpo_X9, ent_X9 (by decide +kernel)⟩
theorem B_X9_isDigit : Body 182 mc_X9_isDigit false := ⟨wAt_mem (i := 7027) (by decide +kernel), plainFor_of_name (by decide +kernel), (fun h => nomatch h), rfl, rfl, rfl, True.intro, cpo_X9, ent_X9 (by decide +kernel)⟩
theorem B_X9_token : Body 183 mc_X9_token false := ⟨wAt_mem (i := 7017) (by decide +kernel), plainFor_of_name (by decide +kernel), (fun h => nomatch h), rfl, rfl, rfl, True.intro, cpo_X9, ent_X9 (by decide +kernel)⟩
theorem B_X9_isWrong : Body 184 mc_X9_isWrong false := ⟨wAt_mem (i := 7040) (by decide +kernel), plainFor_of_name (by decide +kernel), (fun h => nomatch h), rfl, rfl, rfl, True.intro, cpo_X9, ent_X9 (by decide +kernel)⟩
theorem B_X9_fails : Body 185 mc_X9_fails false := ⟨wAt_mem (i := 7050) (by decide +kernel), plainFor_of_name (by decide +kernel), (fun h => nomatch h), rfl, rfl, rfl, True.intro, cpo_X9, ent_X9 (by decide +kernel)⟩
theorem B_X9_isWord : Body 186 mc_X9_isWord false := ⟨wAt_mem (i := 7036) (by decide +kernel), plainFor_of_name (by decide +kernel), (fun h => nomatch h), rfl, rfl, rfl, True.intro, cpo_X9, ent_X9 (by decide +kernel)⟩
theorem B_X9_passes : Body 187 mc_X9_passes false := ⟨wAt_mem (i := 7046) (by decide +kernel), plainFor_of_name (by decide +kernel), (fun h => nomatch h), rfl, rfl, rfl, True.intro, cpo_X9, ent_X9 (by decide +kernel)⟩
theorem B_X9_semicolon : Body 188 mc_X9_semicolon false := ⟨wAt_mem (i := 7059) (by decide +kernel), plainFor_of_name (by decide +kernel), (fun h => nomatch h), rfl, rfl, rfl, True.intro, cpo_X9, ent_X9 (by decide +kernel)⟩
theorem B_X9_figure : Body 189 mc_X9_figure false := ⟨wAt_mem (i := 7054) (by decide +kernel), plainFor_of_name (by decide +kernel), (fun h => nomatch h), rfl, rfl, rfl, True.intro, cpo_X9, ent_X9 (by decide +kernel)⟩
theorem B_X9_isName : Body 190 mc_X9_isName false := ⟨wAt_mem (i := 7064) (by decide +kernel), plainFor_of_name (by decide +kernel), (fun h => nomatch h), rfl, rfl, rfl, True.intro, cpo_X9, ent_X9 (by decide +kernel)⟩
theorem B_X9_isCalled : Body 191 mc_X9_isCalled false := ⟨wAt_mem (i := 7083) (by decide +kernel), plainFor_of_name (by decide +kernel), (fun h => nomatch h), rfl, rfl, rfl, True.intro, cpo_X9, ent_X9 (by decide +kernel)⟩
theorem B_X9_whichOf : Body 192 mc_X9_whichOf false := ⟨wAt_mem (i := 7079) (by decide +kernel), plainFor_of_name (by decide +kernel), (fun h => nomatch h), rfl, rfl, rfl, True.intro, cpo_X9, ent_X9 (by decide +kernel)⟩
theorem B_X9_ownName : Body 193 mc_X9_ownName false := ⟨wAt_mem (i := 7075) (by decide +kernel), plainFor_of_name (by decide +kernel), (fun h => nomatch h), rfl, rfl, rfl, True.intro, cpo_X9, ent_X9 (by decide +kernel)⟩
theorem B_X9_namedOf : Body 194 mc_X9_namedOf false := ⟨wAt_mem (i := 7128) (by decide +kernel), plainFor_of_name (by decide +kernel), (fun h => nomatch h), rfl, rfl, rfl, True.intro, cpo_X9, ent_X9 (by decide +kernel)⟩
theorem B_X9_measureHere : Body 195 mc_X9_measureHere false := ⟨wAt_mem (i := 7124) (by decide +kernel), plainFor_of_name (by decide +kernel), (fun h => nomatch h), rfl, rfl, rfl, True.intro, cpo_X9, ent_X9 (by decide +kernel)⟩
theorem B_X9_head : Body 196 mc_X9_head false := ⟨wAt_mem (i := 7031) (by decide +kernel), plainFor_of_name (by decide +kernel), (fun h => nomatch h), rfl, rfl, rfl, True.intro, cpo_X9, ent_X9 (by decide +kernel)⟩
theorem B_X9_measureLine : Body 197 mc_X9_measureLine false := ⟨wAt_mem (i := 7088) (by decide +kernel), plainFor_of_name (by decide +kernel), (fun h => nomatch h), rfl, rfl, rfl, True.intro, cpo_X9, ent_X9 (by decide +kernel)⟩
theorem B_X9_isChartRow : Body 198 mc_X9_isChartRow false := ⟨wAt_mem (i := 7100) (by decide +kernel), plainFor_of_name (by decide +kernel), (fun h => nomatch h), rfl, rfl, rfl, True.intro, cpo_X9, ent_X9 (by decide +kernel)⟩
theorem B_X9_takenBy : Body 199 mc_X9_takenBy false := ⟨wAt_mem (i := 7103) (by decide +kernel), plainFor_of_name (by decide +kernel), (fun h => nomatch h), rfl, rfl, rfl, True.intro, cpo_X9, ent_X9 (by decide +kernel)⟩
theorem B_X9_chartRow : Body 200 mc_X9_chartRow false := ⟨wAt_mem (i := 7096) (by decide +kernel), plainFor_of_name (by decide +kernel), (fun h => nomatch h), rfl, rfl, rfl, True.intro, cpo_X9, ent_X9 (by decide +kernel)⟩
theorem B_X9_chartLine : Body 201 mc_X9_chartLine false := ⟨wAt_mem (i := 7092) (by decide +kernel), plainFor_of_name (by decide +kernel), (fun h => nomatch h), rfl, rfl, rfl, True.intro, cpo_X9, ent_X9 (by decide +kernel)⟩
theorem B_X9_width : Body 202 mc_X9_width false := ⟨wAt_mem (i := 7120) (by decide +kernel), plainFor_of_name (by decide +kernel), (fun h => nomatch h), rfl, rfl, rfl, True.intro, cpo_X9, ent_X9 (by decide +kernel)⟩
theorem B_X9_color : Body 203 mc_X9_color false := ⟨wAt_mem (i := 7133) (by decide +kernel), plainFor_of_name (by decide +kernel), (fun h => nomatch h), rfl, rfl, rfl, True.intro, cpo_X9, ent_X9 (by decide +kernel)⟩
theorem B_X9_partLine : Body 204 mc_X9_partLine false := ⟨wAt_mem (i := 7113) (by decide +kernel), plainFor_of_name (by decide +kernel), (fun h => nomatch h), rfl, rfl, rfl, True.intro, cpo_X9, ent_X9 (by decide +kernel)⟩
theorem B_X9_pieceLine : Body 205 mc_X9_pieceLine false := ⟨wAt_mem (i := 7108) (by decide +kernel), plainFor_of_name (by decide +kernel), (fun h => nomatch h), rfl, rfl, rfl, True.intro, cpo_X9, ent_X9 (by decide +kernel)⟩
theorem B_X9_lotLine : Body 206 mc_X9_lotLine false := ⟨wAt_mem (i := 7138) (by decide +kernel), plainFor_of_name (by decide +kernel), (fun h => nomatch h), rfl, rfl, rfl, True.intro, cpo_X9, ent_X9 (by decide +kernel)⟩
theorem B_X9_load : Body 207 mc_X9_load false := ⟨wAt_mem (i := 7013) (by decide +kernel), plainFor_of_name (by decide +kernel), (fun h => nomatch h), rfl, rfl, rfl, True.intro, cpo_X9, ent_X9 (by decide +kernel)⟩
theorem B_X9_begins : Body 208 mc_X9_begins false := ⟨wAt_mem (i := 6084) (by decide +kernel), plainFor_of_name (by decide +kernel), (fun h => nomatch h), rfl, rfl, rfl, True.intro, cpo_X9, ent_X9 (by decide +kernel)⟩
theorem B_X9_errorCode : Body 209 mc_X9_errorCode false := ⟨wAt_mem (i := 7142) (by decide +kernel), plainFor_of_name (by decide +kernel), (fun h => nomatch h), rfl, rfl, rfl, True.intro, cpo_X9, ent_X9 (by decide +kernel)⟩
theorem B_X9_errorPosition : Body 210 mc_X9_errorPosition false := ⟨wAt_mem (i := 7146) (by decide +kernel), plainFor_of_name (by decide +kernel), (fun h => nomatch h), rfl, rfl, rfl, True.intro, cpo_X9, ent_X9 (by decide +kernel)⟩
theorem B_X9_find : Body 211 mc_X9_find false := ⟨wAt_mem (i := 7150) (by decide +kernel), plainFor_of_name (by decide +kernel), (fun h => nomatch h), rfl, rfl, rfl, True.intro, cpo_X9, ent_X9 (by decide +kernel)⟩
theorem B_X9_count : Body 212 mc_X9_count false := ⟨wAt_mem (i := 7155) (by decide +kernel), plainFor_of_name (by decide +kernel), (fun h => nomatch h), rfl, rfl, rfl, True.intro, cpo_X9, ent_X9 (by decide +kernel)⟩
theorem B_X9_isSize : Body 213 mc_X9_isSize false := ⟨wAt_mem (i := 7168) (by decide +kernel), plainFor_of_name (by decide +kernel), (fun h => nomatch h), rfl, rfl, rfl, True.intro, cpo_X9, ent_X9 (by decide +kernel)⟩
theorem B_X9_isMeasure : Body 214 mc_X9_isMeasure false := ⟨wAt_mem (i := 7164) (by decide +kernel), plainFor_of_name (by decide +kernel), (fun h => nomatch h), rfl, rfl, rfl, True.intro, cpo_X9, ent_X9 (by decide +kernel)⟩
theorem B_X9_isPiece : Body 215 mc_X9_isPiece false := ⟨wAt_mem (i := 7203) (by decide +kernel), plainFor_of_name (by decide +kernel), (fun h => nomatch h), rfl, rfl, rfl, True.intro, cpo_X9, ent_X9 (by decide +kernel)⟩
theorem B_X9_isPart : Body 216 mc_X9_isPart false := ⟨wAt_mem (i := 7199) (by decide +kernel), plainFor_of_name (by decide +kernel), (fun h => nomatch h), rfl, rfl, rfl, True.intro, cpo_X9, ent_X9 (by decide +kernel)⟩
theorem B_X9_valueOf : Body 217 mc_X9_valueOf false := ⟨wAt_mem (i := 7172) (by decide +kernel), plainFor_of_name (by decide +kernel), (fun h => nomatch h), rfl, rfl, rfl, True.intro, cpo_X9, ent_X9 (by decide +kernel)⟩
theorem B_X9_value : Body 218 mc_X9_value false := ⟨wAt_mem (i := 7160) (by decide +kernel), plainFor_of_name (by decide +kernel), (fun h => nomatch h), rfl, rfl, rfl, True.intro, cpo_X9, ent_X9 (by decide +kernel)⟩
theorem B_X9_isGraded : Body 219 mc_X9_isGraded false := ⟨wAt_mem (i := 7176) (by decide +kernel), plainFor_of_name (by decide +kernel), (fun h => nomatch h), rfl, rfl, rfl, True.intro, cpo_X9, ent_X9 (by decide +kernel)⟩
theorem B_X9_fits : Body 220 mc_X9_fits false := ⟨wAt_mem (i := 7180) (by decide +kernel), plainFor_of_name (by decide +kernel), (fun h => nomatch h), rfl, rfl, rfl, True.intro, cpo_X9, ent_X9 (by decide +kernel)⟩
theorem B_X9_chart : Body 221 mc_X9_chart false := ⟨wAt_mem (i := 7186) (by decide +kernel), plainFor_of_name (by decide +kernel), (fun h => nomatch h), rfl, rfl, rfl, True.intro, cpo_X9, ent_X9 (by decide +kernel)⟩
theorem B_X9_chartRow_ : Body 222 mc_X9_chartRow_ false := ⟨wAt_mem (i := 7191) (by decide +kernel), plainFor_of_name (by decide +kernel), (fun h => nomatch h), rfl, rfl, rfl, True.intro, cpo_X9, ent_X9 (by decide +kernel)⟩
theorem B_X9_of : Body 223 mc_X9_of false := ⟨wAt_mem (i := 7207) (by decide +kernel), plainFor_of_name (by decide +kernel), (fun h => nomatch h), rfl, rfl, rfl, True.intro, cpo_X9, ent_X9 (by decide +kernel)⟩
theorem B_X9_part : Body 224 mc_X9_part false := ⟨wAt_mem (i := 7195) (by decide +kernel), plainFor_of_name (by decide +kernel), (fun h => nomatch h), rfl, rfl, rfl, True.intro, cpo_X9, ent_X9 (by decide +kernel)⟩
theorem B_X9_parts : Body 225 mc_X9_parts false := ⟨wAt_mem (i := 7211) (by decide +kernel), plainFor_of_name (by decide +kernel), (fun h => nomatch h), rfl, rfl, rfl, True.intro, cpo_X9, ent_X9 (by decide +kernel)⟩
theorem B_X9_byNow : Body 226 mc_X9_byNow false := ⟨wAt_mem (i := 7223) (by decide +kernel), plainFor_of_name (by decide +kernel), (fun h => nomatch h), rfl, rfl, rfl, True.intro, cpo_X9, ent_X9 (by decide +kernel)⟩
theorem B_X9_by : Body 227 mc_X9_by false := ⟨wAt_mem (i := 7239) (by decide +kernel), plainFor_of_name (by decide +kernel), (fun h => nomatch h), rfl, rfl, rfl, True.intro, cpo_X9, ent_X9 (by decide +kernel)⟩
theorem B_X9_countOf : Body 228 mc_X9_countOf false := ⟨wAt_mem (i := 8007) (by decide +kernel), plainFor_of_name (by decide +kernel), (fun h => nomatch h), rfl, rfl, rfl, True.intro, cpo_X9, ent_X9 (by decide +kernel)⟩
theorem B_X9_rowsOf : Body 229 mc_X9_rowsOf false := ⟨wAt_mem (i := 7235) (by decide +kernel), plainFor_of_name (by decide +kernel), (fun h => nomatch h), rfl, rfl, rfl, True.intro, cpo_X9, ent_X9 (by decide +kernel)⟩
theorem B_X9_works : Body 230 mc_X9_works false := ⟨wAt_mem (i := 7231) (by decide +kernel), plainFor_of_name (by decide +kernel), (fun h => nomatch h), rfl, rfl, rfl, True.intro, cpo_X9, ent_X9 (by decide +kernel)⟩
theorem B_X9_shapes : Body 231 mc_X9_shapes false := ⟨wAt_mem (i := 8003) (by decide +kernel), plainFor_of_name (by decide +kernel), (fun h => nomatch h), rfl, rfl, rfl, True.intro, cpo_X9, ent_X9 (by decide +kernel)⟩
theorem B_X9_knits : Body 232 mc_X9_knits false := ⟨wAt_mem (i := 7227) (by decide +kernel), plainFor_of_name (by decide +kernel), (fun h => nomatch h), rfl, rfl, rfl, True.intro, cpo_X9, ent_X9 (by decide +kernel)⟩
theorem B_X9_mayKnit : Body 233 mc_X9_mayKnit false := ⟨wAt_mem (i := 7219) (by decide +kernel), plainFor_of_name (by decide +kernel), (fun h => nomatch h), rfl, rfl, rfl, True.intro, cpo_X9, ent_X9 (by decide +kernel)⟩
theorem B_X9_failed : Body 234 mc_X9_failed false := ⟨wAt_mem (i := 8011) (by decide +kernel), plainFor_of_name (by decide +kernel), (fun h => nomatch h), rfl, rfl, rfl, True.intro, cpo_X9, ent_X9 (by decide +kernel)⟩
theorem B_X9_failure : Body 235 mc_X9_failure false := ⟨wAt_mem (i := 7215) (by decide +kernel), plainFor_of_name (by decide +kernel), (fun h => nomatch h), rfl, rfl, rfl, True.intro, cpo_X9, ent_X9 (by decide +kernel)⟩
theorem B_X9_rows : Body 236 mc_X9_rows false := ⟨wAt_mem (i := 8015) (by decide +kernel), plainFor_of_name (by decide +kernel), (fun h => nomatch h), rfl, rfl, rfl, True.intro, cpo_X9, ent_X9 (by decide +kernel)⟩
theorem B_X9_mayAsk : Body 237 mc_X9_mayAsk false := ⟨wAt_mem (i := 8023) (by decide +kernel), plainFor_of_name (by decide +kernel), (fun h => nomatch h), rfl, rfl, rfl, True.intro, cpo_X9, ent_X9 (by decide +kernel)⟩
theorem B_X9_partRows : Body 238 mc_X9_partRows false := ⟨wAt_mem (i := 8019) (by decide +kernel), plainFor_of_name (by decide +kernel), (fun h => nomatch h), rfl, rfl, rfl, True.intro, cpo_X9, ent_X9 (by decide +kernel)⟩
theorem B_X9_hasRow : Body 239 mc_X9_hasRow false := ⟨wAt_mem (i := 8031) (by decide +kernel), plainFor_of_name (by decide +kernel), (fun h => nomatch h), rfl, rfl, rfl, True.intro, cpo_X9, ent_X9 (by decide +kernel)⟩
theorem B_X9_stitches : Body 240 mc_X9_stitches false := ⟨wAt_mem (i := 8027) (by decide +kernel), plainFor_of_name (by decide +kernel), (fun h => nomatch h), rfl, rfl, rfl, True.intro, cpo_X9, ent_X9 (by decide +kernel)⟩
theorem B_X9_partAt : Body 241 mc_X9_partAt false := ⟨wAt_mem (i := 8035) (by decide +kernel), plainFor_of_name (by decide +kernel), (fun h => nomatch h), rfl, rfl, rfl, True.intro, cpo_X9, ent_X9 (by decide +kernel)⟩
theorem B_X9_extreme : Body 242 mc_X9_extreme false := ⟨wAt_mem (i := 8039) (by decide +kernel), plainFor_of_name (by decide +kernel), (fun h => nomatch h), rfl, rfl, rfl, True.intro, cpo_X9, ent_X9 (by decide +kernel)⟩
theorem B_X9_shaping : Body 243 mc_X9_shaping false := ⟨wAt_mem (i := 8043) (by decide +kernel), plainFor_of_name (by decide +kernel), (fun h => nomatch h), rfl, rfl, rfl, True.intro, cpo_X9, ent_X9 (by decide +kernel)⟩
theorem B_X9_width_ : Body 244 mc_X9_width_ false := ⟨wAt_mem (i := 8047) (by decide +kernel), plainFor_of_name (by decide +kernel), (fun h => nomatch h), rfl, rfl, rfl, True.intro, cpo_X9, ent_X9 (by decide +kernel)⟩
theorem B_X9_mean : Body 245 mc_X9_mean false := ⟨wAt_mem (i := 8052) (by decide +kernel), plainFor_of_name (by decide +kernel), (fun h => nomatch h), rfl, rfl, rfl, True.intro, cpo_X9, ent_X9 (by decide +kernel)⟩
theorem B_X9_needOf : Body 246 mc_X9_needOf false := ⟨wAt_mem (i := 8063) (by decide +kernel), plainFor_of_name (by decide +kernel), (fun h => nomatch h), rfl, rfl, rfl, True.intro, cpo_X9, ent_X9 (by decide +kernel)⟩
theorem B_X9_isColor : Body 247 mc_X9_isColor false := ⟨wAt_mem (i := 8059) (by decide +kernel), plainFor_of_name (by decide +kernel), (fun h => nomatch h), rfl, rfl, rfl, True.intro, cpo_X9, ent_X9 (by decide +kernel)⟩
theorem B_X9_need : Body 248 mc_X9_need false := ⟨wAt_mem (i := 8056) (by decide +kernel), plainFor_of_name (by decide +kernel), (fun h => nomatch h), rfl, rfl, rfl, True.intro, cpo_X9, ent_X9 (by decide +kernel)⟩
theorem B_X9_lot : Body 249 mc_X9_lot false := ⟨wAt_mem (i := 8067) (by decide +kernel), plainFor_of_name (by decide +kernel), (fun h => nomatch h), rfl, rfl, rfl, True.intro, cpo_X9, ent_X9 (by decide +kernel)⟩
theorem B_X9_knitsAll : Body 250 mc_X9_knitsAll false := ⟨wAt_mem (i := 8075) (by decide +kernel), plainFor_of_name (by decide +kernel), (fun h => nomatch h), rfl, rfl, rfl, True.intro, cpo_X9, ent_X9 (by decide +kernel)⟩
theorem B_X9_isUsedAhead : Body 251 mc_X9_isUsedAhead false := ⟨wAt_mem (i := 8088) (by decide +kernel), plainFor_of_name (by decide +kernel), (fun h => nomatch h), rfl, rfl, rfl, True.intro, cpo_X9, ent_X9 (by decide +kernel)⟩
theorem B_X9_nextLot : Body 252 mc_X9_nextLot false := ⟨wAt_mem (i := 8092) (by decide +kernel), plainFor_of_name (by decide +kernel), (fun h => nomatch h), rfl, rfl, rfl, True.intro, cpo_X9, ent_X9 (by decide +kernel)⟩
theorem B_X9_deals : Body 253 mc_X9_deals false := ⟨wAt_mem (i := 8083) (by decide +kernel), plainFor_of_name (by decide +kernel), (fun h => nomatch h), rfl, rfl, rfl, True.intro, cpo_X9, ent_X9 (by decide +kernel)⟩
theorem B_X9_dealsOf : Body 254 mc_X9_dealsOf false := ⟨wAt_mem (i := 8079) (by decide +kernel), plainFor_of_name (by decide +kernel), (fun h => nomatch h), rfl, rfl, rfl, True.intro, cpo_X9, ent_X9 (by decide +kernel)⟩
theorem B_X9_dealt : Body 255 mc_X9_dealt false := ⟨wAt_mem (i := 8071) (by decide +kernel), plainFor_of_name (by decide +kernel), (fun h => nomatch h), rfl, rfl, rfl, True.intro, cpo_X9, ent_X9 (by decide +kernel)⟩
theorem B_X9_lotsUsed : Body 256 mc_X9_lotsUsed false := ⟨wAt_mem (i := 8096) (by decide +kernel), plainFor_of_name (by decide +kernel), (fun h => nomatch h), rfl, rfl, rfl, True.intro, cpo_X9, ent_X9 (by decide +kernel)⟩
theorem B_X9_possible : Body 257 mc_X9_possible false := ⟨wAt_mem (i := 8100) (by decide +kernel), plainFor_of_name (by decide +kernel), (fun h => nomatch h), rfl, rfl, rfl, True.intro, cpo_X9, ent_X9 (by decide +kernel)⟩
theorem B_X9_keeps : Body 258 mc_X9_keeps false := ⟨wAt_mem (i := 8110) (by decide +kernel), plainFor_of_name (by decide +kernel), (fun h => nomatch h), rfl, rfl, rfl, True.intro, cpo_X9, ent_X9 (by decide +kernel)⟩
theorem B_X9_setGauge : Body 259 mc_X9_setGauge false := ⟨wAt_mem (i := 8104) (by decide +kernel), plainFor_of_name (by decide +kernel), (fun h => nomatch h), rfl, rfl, rfl, True.intro, cpo_X9, ent_X9 (by decide +kernel)⟩
theorem B_X9_setValue : Body 260 mc_X9_setValue false := ⟨wAt_mem (i := 8114) (by decide +kernel), plainFor_of_name (by decide +kernel), (fun h => nomatch h), rfl, rfl, rfl, True.intro, cpo_X9, ent_X9 (by decide +kernel)⟩
theorem B_X9_grade : Body 261 mc_X9_grade false := ⟨wAt_mem (i := 8118) (by decide +kernel), plainFor_of_name (by decide +kernel), (fun h => nomatch h), rfl, rfl, rfl, True.intro, cpo_X9, ent_X9 (by decide +kernel)⟩
theorem B_X9_setEase : Body 262 mc_X9_setEase false := ⟨wAt_mem (i := 8122) (by decide +kernel), plainFor_of_name (by decide +kernel), (fun h => nomatch h), rfl, rfl, rfl, True.intro, cpo_X9, ent_X9 (by decide +kernel)⟩
theorem B_X9_addLot : Body 263 mc_X9_addLot false := ⟨wAt_mem (i := 8128) (by decide +kernel), plainFor_of_name (by decide +kernel), (fun h => nomatch h), rfl, rfl, rfl, True.intro, cpo_X9, ent_X9 (by decide +kernel)⟩
theorem B_X9_removeLot : Body 264 mc_X9_removeLot false := ⟨wAt_mem (i := 8133) (by decide +kernel), plainFor_of_name (by decide +kernel), (fun h => nomatch h), rfl, rfl, rfl, True.intro, cpo_X9, ent_X9 (by decide +kernel)⟩
theorem B_X9_undo : Body 265 mc_X9_undo false := ⟨wAt_mem (i := 8137) (by decide +kernel), plainFor_of_name (by decide +kernel), (fun h => nomatch h), rfl, rfl, rfl, True.intro, cpo_X9, ent_X9 (by decide +kernel)⟩
theorem B_X9_isSlot : Body 266 mc_X9_isSlot false := ⟨wAt_mem (i := 8144) (by decide +kernel), plainFor_of_name (by decide +kernel), (fun h => nomatch h), rfl, rfl, rfl, True.intro, cpo_X9, ent_X9 (by decide +kernel)⟩
theorem B_X9_save : Body 267 mc_X9_save false := ⟨wAt_mem (i := 8141) (by decide +kernel), plainFor_of_name (by decide +kernel), (fun h => nomatch h), rfl, rfl, rfl, True.intro, cpo_X9, ent_X9 (by decide +kernel)⟩
theorem B_X9_restore : Body 268 mc_X9_restore false := ⟨wAt_mem (i := 8148) (by decide +kernel), plainFor_of_name (by decide +kernel), (fun h => nomatch h), rfl, rfl, rfl, True.intro, cpo_X9, ent_X9 (by decide +kernel)⟩
theorem B_X9_isOther : Body 269 mc_X9_isOther false := ⟨wAt_mem (i := 8156) (by decide +kernel), plainFor_of_name (by decide +kernel), (fun h => nomatch h), rfl, rfl, rfl, True.intro, cpo_X9, ent_X9 (by decide +kernel)⟩
theorem B_X9_differences : Body 270 mc_X9_differences false := ⟨wAt_mem (i := 8152) (by decide +kernel), plainFor_of_name (by decide +kernel), (fun h => nomatch h), rfl, rfl, rfl, True.intro, cpo_X9, ent_X9 (by decide +kernel)⟩
theorem B_J9_floorMod_7cf53 : Body 271 mc_J9_floorMod_7cf53 false := ⟨wAt_mem (i := 3175) (by decide +kernel), by decide +kernel, (fun h => nomatch h), rfl, rfl, rfl, True.intro, cpo_J9, ent_J9 (by decide +kernel)⟩
theorem B_J9_abs_0f7a4 : Body 272 mc_J9_abs_0f7a4 false := ⟨wAt_mem (i := 3194) (by decide +kernel), by decide +kernel, (fun h => nomatch h), rfl, rfl, rfl, True.intro, cpo_J9, ent_J9 (by decide +kernel)⟩
theorem B_J9_max_7cf53 : Body 273 mc_J9_max_7cf53 false := ⟨wAt_mem (i := 3186) (by decide +kernel), by decide +kernel, (fun h => nomatch h), rfl, rfl, rfl, True.intro, cpo_J9, ent_J9 (by decide +kernel)⟩
theorem B_J9_min_7cf53 : Body 274 mc_J9_min_7cf53 false := ⟨wAt_mem (i := 4046) (by decide +kernel), by decide +kernel, (fun h => nomatch h), rfl, rfl, rfl, True.intro, cpo_J9, ent_J9 (by decide +kernel)⟩
theorem B_L_append : Body 282 mc_L_append false := ⟨wAt_mem (i := 4049) (by decide +kernel), plainFor_of_name (by decide +kernel), (fun h => nomatch h), rfl, rfl, rfl, ⟨by decide +kernel, True.intro⟩, cpo_L, ent_L (by decide +kernel)⟩
theorem B_L_truncate : Body 283 mc_L_truncate false := ⟨wAt_mem (i := 4125) (by decide +kernel), plainFor_of_name (by decide +kernel), (fun h => nomatch h), rfl, rfl, rfl, ⟨by decide +kernel, True.intro⟩, cpo_L, ent_L (by decide +kernel)⟩
theorem B_L_load : Body 284 mc_L_load false := ⟨wAt_mem (i := 4148) (by decide +kernel), plainFor_of_name (by decide +kernel), (fun h => nomatch h), rfl, rfl, rfl, ⟨by decide +kernel, True.intro⟩, cpo_L, ent_L (by decide +kernel)⟩
theorem B_L_find : Body 285 mc_L_find false := ⟨wAt_mem (i := 4171) (by decide +kernel), plainFor_of_name (by decide +kernel), (fun h => nomatch h), rfl, rfl, rfl, ⟨by decide +kernel, ⟨by decide +kernel, True.intro⟩⟩, cpo_L, ent_L (by decide +kernel)⟩
theorem B_L_count : Body 286 mc_L_count false := ⟨wAt_mem (i := 4199) (by decide +kernel), plainFor_of_name (by decide +kernel), (fun h => nomatch h), rfl, rfl, rfl, ⟨by decide +kernel, True.intro⟩, cpo_L, ent_L (by decide +kernel)⟩
theorem B_L_value : Body 287 mc_L_value false := ⟨wAt_mem (i := 4208) (by decide +kernel), plainFor_of_name (by decide +kernel), (fun h => nomatch h), rfl, rfl, rfl, ⟨by decide +kernel, True.intro⟩, cpo_L, ent_L (by decide +kernel)⟩
theorem B_L_isGraded : Body 288 mc_L_isGraded false := ⟨wAt_mem (i := 4219) (by decide +kernel), plainFor_of_name (by decide +kernel), (fun h => nomatch h), rfl, rfl, rfl, ⟨by decide +kernel, True.intro⟩, cpo_L, ent_L (by decide +kernel)⟩
theorem B_L_fits : Body 289 mc_L_fits false := ⟨wAt_mem (i := 4226) (by decide +kernel), plainFor_of_name (by decide +kernel), (fun h => nomatch h), rfl, rfl, rfl, ⟨by decide +kernel, ⟨by decide +kernel, True.intro⟩⟩, cpo_L, ent_L (by decide +kernel)⟩
theorem B_L_chart : Body 290 mc_L_chart false := ⟨wAt_mem (i := 4234) (by decide +kernel), plainFor_of_name (by decide +kernel), (fun h => nomatch h), rfl, rfl, rfl, ⟨by decide +kernel, ⟨by decide +kernel, True.intro⟩⟩, cpo_L, ent_L (by decide +kernel)⟩
theorem B_L_chartRow : Body 291 mc_L_chartRow false := ⟨wAt_mem (i := 5008) (by decide +kernel), plainFor_of_name (by decide +kernel), (fun h => nomatch h), rfl, rfl, rfl, ⟨by decide +kernel, True.intro⟩, cpo_L, ent_L (by decide +kernel)⟩
theorem B_L_part : Body 292 mc_L_part false := ⟨wAt_mem (i := 5016) (by decide +kernel), plainFor_of_name (by decide +kernel), (fun h => nomatch h), rfl, rfl, rfl, ⟨by decide +kernel, ⟨by decide +kernel, True.intro⟩⟩, cpo_L, ent_L (by decide +kernel)⟩
theorem B_L_parts : Body 293 mc_L_parts false := ⟨wAt_mem (i := 5030) (by decide +kernel), plainFor_of_name (by decide +kernel), (fun h => nomatch h), rfl, rfl, rfl, ⟨by decide +kernel, True.intro⟩, cpo_L, ent_L (by decide +kernel)⟩
theorem B_L_failure : Body 294 mc_L_failure false := ⟨wAt_mem (i := 5037) (by decide +kernel), plainFor_of_name (by decide +kernel), (fun h => nomatch h), rfl, rfl, rfl, ⟨by decide +kernel, True.intro⟩, cpo_L, ent_L (by decide +kernel)⟩
theorem B_L_rows : Body 295 mc_L_rows false := ⟨wAt_mem (i := 5049) (by decide +kernel), plainFor_of_name (by decide +kernel), (fun h => nomatch h), rfl, rfl, rfl, ⟨by decide +kernel, True.intro⟩, cpo_L, ent_L (by decide +kernel)⟩
theorem B_L_partRows : Body 296 mc_L_partRows false := ⟨wAt_mem (i := 5056) (by decide +kernel), plainFor_of_name (by decide +kernel), (fun h => nomatch h), rfl, rfl, rfl, ⟨by decide +kernel, ⟨by decide +kernel, True.intro⟩⟩, cpo_L, ent_L (by decide +kernel)⟩
theorem B_L_stitches : Body 297 mc_L_stitches false := ⟨wAt_mem (i := 5068) (by decide +kernel), plainFor_of_name (by decide +kernel), (fun h => nomatch h), rfl, rfl, rfl, ⟨by decide +kernel, True.intro⟩, cpo_L, ent_L (by decide +kernel)⟩
theorem B_L_partAt : Body 298 mc_L_partAt false := ⟨wAt_mem (i := 5095) (by decide +kernel), plainFor_of_name (by decide +kernel), (fun h => nomatch h), rfl, rfl, rfl, ⟨by decide +kernel, True.intro⟩, cpo_L, ent_L (by decide +kernel)⟩
theorem B_L_extreme : Body 299 mc_L_extreme false := ⟨wAt_mem (i := 5103) (by decide +kernel), plainFor_of_name (by decide +kernel), (fun h => nomatch h), rfl, rfl, rfl, ⟨by decide +kernel, True.intro⟩, cpo_L, ent_L (by decide +kernel)⟩
theorem B_L_shaping : Body 300 mc_L_shaping false := ⟨wAt_mem (i := 5125) (by decide +kernel), plainFor_of_name (by decide +kernel), (fun h => nomatch h), rfl, rfl, rfl, ⟨by decide +kernel, ⟨by decide +kernel, ⟨by decide +kernel, True.intro⟩⟩⟩, cpo_L, ent_L (by decide +kernel)⟩
theorem B_L_width : Body 301 mc_L_width false := ⟨wAt_mem (i := 5137) (by decide +kernel), plainFor_of_name (by decide +kernel), (fun h => nomatch h), rfl, rfl, rfl, ⟨by decide +kernel, True.intro⟩, cpo_L, ent_L (by decide +kernel)⟩
theorem B_L_mean : Body 302 mc_L_mean false := ⟨wAt_mem (i := 5145) (by decide +kernel), plainFor_of_name (by decide +kernel), (fun h => nomatch h), rfl, rfl, rfl, ⟨by decide +kernel, True.intro⟩, cpo_L, ent_L (by decide +kernel)⟩
theorem B_L_need : Body 303 mc_L_need false := ⟨wAt_mem (i := 5156) (by decide +kernel), plainFor_of_name (by decide +kernel), (fun h => nomatch h), rfl, rfl, rfl, ⟨by decide +kernel, ⟨by decide +kernel, True.intro⟩⟩, cpo_L, ent_L (by decide +kernel)⟩
theorem B_L_lot : Body 304 mc_L_lot false := ⟨wAt_mem (i := 5164) (by decide +kernel), plainFor_of_name (by decide +kernel), (fun h => nomatch h), rfl, rfl, rfl, ⟨by decide +kernel, ⟨by decide +kernel, True.intro⟩⟩, cpo_L, ent_L (by decide +kernel)⟩
theorem B_L_dealt : Body 305 mc_L_dealt false := ⟨wAt_mem (i := 5173) (by decide +kernel), plainFor_of_name (by decide +kernel), (fun h => nomatch h), rfl, rfl, rfl, ⟨by decide +kernel, ⟨by decide +kernel, ⟨by decide +kernel, ⟨by decide +kernel, True.intro⟩⟩⟩⟩, cpo_L, ent_L (by decide +kernel)⟩
theorem B_L_lotsUsed : Body 306 mc_L_lotsUsed false := ⟨wAt_mem (i := 5187) (by decide +kernel), plainFor_of_name (by decide +kernel), (fun h => nomatch h), rfl, rfl, rfl, ⟨by decide +kernel, ⟨by decide +kernel, ⟨by decide +kernel, True.intro⟩⟩⟩, cpo_L, ent_L (by decide +kernel)⟩
theorem B_L_setGauge : Body 307 mc_L_setGauge false := ⟨wAt_mem (i := 5194) (by decide +kernel), plainFor_of_name (by decide +kernel), (fun h => nomatch h), rfl, rfl, rfl, ⟨by decide +kernel, True.intro⟩, cpo_L, ent_L (by decide +kernel)⟩
theorem B_L_setValue : Body 308 mc_L_setValue false := ⟨wAt_mem (i := 5215) (by decide +kernel), plainFor_of_name (by decide +kernel), (fun h => nomatch h), rfl, rfl, rfl, ⟨by decide +kernel, ⟨by decide +kernel, True.intro⟩⟩, cpo_L, ent_L (by decide +kernel)⟩
theorem B_L_grade : Body 309 mc_L_grade false := ⟨wAt_mem (i := 5223) (by decide +kernel), plainFor_of_name (by decide +kernel), (fun h => nomatch h), rfl, rfl, rfl, ⟨by decide +kernel, ⟨by decide +kernel, True.intro⟩⟩, cpo_L, ent_L (by decide +kernel)⟩
theorem B_L_setEase : Body 310 mc_L_setEase false := ⟨wAt_mem (i := 5231) (by decide +kernel), plainFor_of_name (by decide +kernel), (fun h => nomatch h), rfl, rfl, rfl, ⟨by decide +kernel, ⟨by decide +kernel, ⟨by decide +kernel, True.intro⟩⟩⟩, cpo_L, ent_L (by decide +kernel)⟩
theorem B_L_addLot : Body 311 mc_L_addLot false := ⟨wAt_mem (i := 5239) (by decide +kernel), plainFor_of_name (by decide +kernel), (fun h => nomatch h), rfl, rfl, rfl, ⟨by decide +kernel, ⟨by decide +kernel, True.intro⟩⟩, cpo_L, ent_L (by decide +kernel)⟩
theorem B_L_removeLot : Body 312 mc_L_removeLot false := ⟨wAt_mem (i := 6007) (by decide +kernel), plainFor_of_name (by decide +kernel), (fun h => nomatch h), rfl, rfl, rfl, ⟨by decide +kernel, True.intro⟩, cpo_L, ent_L (by decide +kernel)⟩
theorem B_L_undo : Body 313 mc_L_undo false := ⟨wAt_mem (i := 6020) (by decide +kernel), plainFor_of_name (by decide +kernel), (fun h => nomatch h), rfl, rfl, rfl, ⟨by decide +kernel, True.intro⟩, cpo_L, ent_L (by decide +kernel)⟩
theorem B_L_save : Body 314 mc_L_save false := ⟨wAt_mem (i := 6031) (by decide +kernel), plainFor_of_name (by decide +kernel), (fun h => nomatch h), rfl, rfl, rfl, ⟨by decide +kernel, True.intro⟩, cpo_L, ent_L (by decide +kernel)⟩
theorem B_L_restore : Body 315 mc_L_restore false := ⟨wAt_mem (i := 6038) (by decide +kernel), plainFor_of_name (by decide +kernel), (fun h => nomatch h), rfl, rfl, rfl, ⟨by decide +kernel, ⟨by decide +kernel, True.intro⟩⟩, cpo_L, ent_L (by decide +kernel)⟩
theorem B_L_differences : Body 316 mc_L_differences false := ⟨wAt_mem (i := 6049) (by decide +kernel), plainFor_of_name (by decide +kernel), (fun h => nomatch h), rfl, rfl, rfl, ⟨by decide +kernel, ⟨by decide +kernel, True.intro⟩⟩, cpo_L, ent_L (by decide +kernel)⟩
theorem cw_J0_length_8abf5 : codeW (MTd 275) ∈ TW := wAt_mem (i := 1220) (by decide +kernel)
theorem cw_J0_charAt_5068e : codeW (MTd 276) ∈ TW := wAt_mem (i := 1230) (by decide +kernel)
theorem cw_J0_coder_7d493 : codeW (MTd 277) ∈ TW := wAt_mem (i := 1224) (by decide +kernel)
theorem cw_J0_isLatin1_aae02 : codeW (MTd 278) ∈ TW := wAt_mem (i := 1234) (by decide +kernel)
theorem cw_J0_checkIndex_df160 : codeW (MTd 279) ∈ TW := wAt_mem (i := 2000) (by decide +kernel)
theorem cw_J1_charAt_3b067 : codeW (MTd 280) ∈ TW := wAt_mem (i := 1237) (by decide +kernel)
theorem cw_J3_checkIndex_8e157 : codeW (MTd 281) ∈ TW := wAt_mem (i := 2005) (by decide +kernel)
