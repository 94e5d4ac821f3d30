/-! ===== the world at the law's entry: classes, arrays, texts, statics (by wip/whole/gen/mk9u.py) ===== -/
theorem tb_in {w : Cond} (h : w ∈ tables_1) : w ∈ lw_tbl := List.mem_append_right _ h
theorem vwf_at {c : Nat} {q : vw_C} (h : vwCl[c]? = some q) : c < 9 ∧ vwf c = q := by
  refine ⟨(List.getElem?_eq_some_iff.mp h).1, ?_⟩
  unfold vwf
  rw [nth_eq, h]
  rfl
theorem inst_in (c : Nat) (hc : c < 9) : Cond.instantiable (vwf c).1 (vwf c).2.2 ∈ lw_tbl := by
  match c, hc with
  | 0, _ => exact tb_in (List.mem_of_getElem? (i := 178) (by decide +kernel))
  | 1, _ => exact tb_in (List.mem_of_getElem? (i := 54) (by decide +kernel))
  | 2, _ => exact tb_in (List.mem_of_getElem? (i := 140) (by decide +kernel))
  | 3, _ => exact tb_in (List.mem_of_getElem? (i := 48) (by decide +kernel))
  | 4, _ => exact tb_in (List.mem_of_getElem? (i := 203) (by decide +kernel))
  | 5, _ => exact tb_in (List.mem_of_getElem? (i := 84) (by decide +kernel))
  | 6, _ => exact tb_in (List.mem_of_getElem? (i := 32) (by decide +kernel))
  | 7, _ => exact tb_in (List.mem_of_getElem? (i := 24) (by decide +kernel))
  | 8, _ => exact tb_in (List.mem_of_getElem? (i := 1272) (by decide +kernel))
theorem arr_1 {A : Array Value} {s : State} {ty : FieldType} (hty : ∀ C, ty ≠ .object C) (h : (Cond.arrayClass ty).before A s = true) : ∃ x : Nat, ArrOfT s x ty ∧ va_RA s x ty := by
  obtain ⟨cA, kA, comp, h1, h2, h3⟩ := Cond.arrayClass_spec h
  refine ⟨cA, fun n z => ⟨fun k h => (by cases h), kA, h2, comp, h3⟩, ?_⟩
  cases ty with
  | object C => exact absurd rfl (hty C)
  | _ => exact h1
/-- the conditions that the Statement gives of the start -/
def FLw : List Cond := flatC (Cond.and given_1 narrow_1)
def tmS (i : Nat) : Term := .string ((strR.map (fun q => q.1)).getD i "") ((strR.map (fun q => q.2.1)).getD i 0)
def tvS (i : Nat) : Term := .field (tmS i) "java/lang/String" "value" "[B"
def swd (i : Nat) : List Cond := .exactly (tmS i) "java/lang/String" :: .eq (.field (tmS i) "java/lang/String" "coder" "B") (.int 0) :: .arrayOf (tvS i) .byte :: .eq (.length (tvS i)) (.int (Int32.ofNat (strLen.getD i 0))) :: (List.range (strLen.getD i 0)).map (fun j => .eq (.elem (tvS i) (.int (Int32.ofNat j))) (.int ((strL.getD i []).getD j 0)))
def swOff : List Nat := [59, 194, 203, 211, 220, 231, 240, 248, 256, 265, 272, 279, 286, 294, 303, 309, 318, 327, 335]
theorem sw_eq : ∀ i, i < 19 → swd i = (FLw.drop (swOff.getD i 0)).take (4 + strLen.getD i 0) := by decide +kernel
theorem sw_in {i : Nat} (hi : i < 19) {w : Cond} (h : w ∈ swd i) : w ∈ FLw := by
  rw [sw_eq i hi] at h
  exact List.mem_of_mem_drop (List.mem_of_mem_take h)
theorem str_len : ∀ i, i < 19 → strLen.getD i 0 < 2 ^ 31 := by decide +kernel
theorem str_dif : ∀ i, i < 19 → ∀ j, j < 19 → strLen.getD i 0 = strLen.getD j 0 → (∀ k, k < strLen.getD i 0 → (strL.getD i []).getD k 0 = (strL.getD j []).getD k 0) → i = j := by decide +kernel
theorem of_inj {o n d : String} {v v' : Value} {t : Nat} {A : Nat → Prop} {U : State} {H : Heap} (h : va_OF o n d v t A U H) (h' : va_OF o n d v' t A U H) : v = v' := by
  obtain ⟨cf, k, i, f, cell, a1, -, a2, -, a3, -⟩ := h
  obtain ⟨cf', k', i', f', cell', b1, -, b2, -, b3, -⟩ := h'
  cases a1.symm.trans b1
  cases a2.symm.trans b2
  exact Option.some.inj (a3.symm.trans b3)
theorem vt_inj {ty : FieldType} {t N N' : Nat} {f f' : Nat → Value} {A : Nat → Prop} {U : State} {H : Heap} (h : va_T ty t N f A U H) (h' : va_T ty t N' f' A U H) (hN : N < 2 ^ 31) (hN' : N' < 2 ^ 31) : N = N' ∧ ∀ j, j < N → f j = f' j := by
  obtain ⟨c, a1, -, -, -, a2, a3, -⟩ := h
  obtain ⟨c', b1, -, -, -, b2, b3, -⟩ := h'
  cases a1.symm.trans b1
  have e := congrArg Int32.toNatClampNeg (a2.symm.trans b2)
  rw [Int32.toNatClampNeg_ofNat_of_lt hN, Int32.toNatClampNeg_ofNat_of_lt hN'] at e
  exact ⟨e, fun j hj => Option.some.inj ((a3 j hj).symm.trans (b3 j (by omega)))⟩
/-- the texts: each is an ordinary String of its bytes; two of different places are two objects, for their bytes differ -/
theorem str_at {s : State} {args : Array Value} {A : Nat → Prop} (hf : ∀ w ∈ FLw, w.before args s = true) (hA : ∀ a : Nat, a < s.heap.size → ¬ A a) (fm : Nat) :
    ∃ adK adV : Nat → Nat, vk_S nStr strLen strL adK adV A s s.heap ∧ adV 999 = fm ∧ ∀ i : Nat, i < 19 → (tmS i).eval args s none [] s = some (.ref (adK i)) := by
  have h0 : ∀ i : Nat, ∃ q : Nat × Nat, i < 19 → (tmS i).eval args s none [] s = some (.ref q.1) ∧ va_O "java/lang/String" q.1 A s s.heap ∧ va_OF "java/lang/String" "coder" "B" (.int 0) q.1 A s s.heap ∧ va_OF "java/lang/String" "value" "[B" (.ref q.2) q.1 A s s.heap ∧ va_T .byte q.2 (strLen.getD i 0) (fun j => .int ((strL.getD i []).getD j 0)) A s s.heap := by
    intro i
    by_cases hi : i < 19
    · have hw : ∀ w ∈ swd i, w.before args s = true := fun w h => hf w (sw_in hi h)
      obtain ⟨a, c, cA, kA, q1, q2, q3, q4, q5, q6, -⟩ := Cond.exactly_spec (args := args) (first := s) (o := none) (s := s) (idx := []) (t := tmS i) (cls := "java/lang/String") (hw _ List.mem_cons_self)
      obtain ⟨t, ht, hT⟩ := va_Tof (tm := tvS i) (ty := .byte) (N := strLen.getD i 0) (f := fun j => .int ((strL.getD i []).getD j 0)) (A := A) (str_len i hi) (hw _ (List.mem_cons_of_mem _ (List.mem_cons_of_mem _ List.mem_cons_self))) (va_eqt (hw _ (List.mem_cons_of_mem _ (List.mem_cons_of_mem _ (List.mem_cons_of_mem _ List.mem_cons_self)))))
        (fun j hj => va_eqt (hw _ (List.mem_cons_of_mem _ (List.mem_cons_of_mem _ (List.mem_cons_of_mem _ (List.mem_cons_of_mem _ (List.mem_map.mpr ⟨j, List.mem_range.mpr hj, rfl⟩))))))) hA
      exact ⟨(a, t), fun _ => ⟨q1, ⟨cA, q3, q5, by rw [q6]; exact q2, hA a (Array.getElem?_eq_some_iff.mp q3).1⟩, vk_OFof q1 (va_eqt (hw _ (List.mem_cons_of_mem _ List.mem_cons_self))) hA, vk_OFof q1 ht hA, hT⟩⟩
    · exact ⟨(0, 0), fun h => absurd h hi⟩
  obtain ⟨ad, had⟩ := Classical.axiomOfChoice h0
  refine ⟨fun i => (ad i).1, fun i => if i = 999 then fm else (ad i).2, ⟨fun i hi => ?_, fun i j hi hj e => ?_⟩, if_pos rfl, fun i hi => (had i hi).1⟩
  · have hi : i < 19 := hi
    have h := (had i hi).2
    show va_O "java/lang/String" (ad i).1 A s s.heap ∧ va_OF "java/lang/String" "coder" "B" (.int 0) (ad i).1 A s s.heap ∧ va_OF "java/lang/String" "value" "[B" (.ref (if i = 999 then fm else (ad i).2)) (ad i).1 A s s.heap ∧ va_T .byte (if i = 999 then fm else (ad i).2) (strLen.getD i 0) (fun j => .int ((strL.getD i []).getD j 0)) A s s.heap
    rw [if_neg (by omega)]
    exact h
  · have hi : i < 19 := hi
    have hj : j < 19 := hj
    have e : (ad i).1 = (ad j).1 := e
    obtain ⟨-, -, -, ai, bi⟩ := had i hi
    obtain ⟨-, -, -, aj, bj⟩ := had j hj
    have e2 : (ad i).2 = (ad j).2 := Value.ref.inj (of_inj ai (by rw [e]; exact aj))
    obtain ⟨e3, e4⟩ := vt_inj bi (by rw [e2]; exact bj) (str_len i hi) (str_len j hj)
    exact str_dif i hi j hj e3 (fun k hk => Value.int.inj (e4 k hk))
theorem sr_in : ∀ q ∈ strR, Cond.stringRef q.1 q.2.1 q.2.2.1 ∈ tables_1 := by
  unfold strR
  exact List.forall_mem_cons.mpr ⟨List.mem_of_getElem? (i := 212) (by decide +kernel),
    List.forall_mem_cons.mpr ⟨List.mem_of_getElem? (i := 320) (by decide +kernel),
    List.forall_mem_cons.mpr ⟨List.mem_of_getElem? (i := 321) (by decide +kernel),
    List.forall_mem_cons.mpr ⟨List.mem_of_getElem? (i := 322) (by decide +kernel),
    List.forall_mem_cons.mpr ⟨List.mem_of_getElem? (i := 323) (by decide +kernel),
    List.forall_mem_cons.mpr ⟨List.mem_of_getElem? (i := 324) (by decide +kernel),
    List.forall_mem_cons.mpr ⟨List.mem_of_getElem? (i := 325) (by decide +kernel),
    List.forall_mem_cons.mpr ⟨List.mem_of_getElem? (i := 326) (by decide +kernel),
    List.forall_mem_cons.mpr ⟨List.mem_of_getElem? (i := 327) (by decide +kernel),
    List.forall_mem_cons.mpr ⟨List.mem_of_getElem? (i := 328) (by decide +kernel),
    List.forall_mem_cons.mpr ⟨List.mem_of_getElem? (i := 329) (by decide +kernel),
    List.forall_mem_cons.mpr ⟨List.mem_of_getElem? (i := 330) (by decide +kernel),
    List.forall_mem_cons.mpr ⟨List.mem_of_getElem? (i := 331) (by decide +kernel),
    List.forall_mem_cons.mpr ⟨List.mem_of_getElem? (i := 332) (by decide +kernel),
    List.forall_mem_cons.mpr ⟨List.mem_of_getElem? (i := 333) (by decide +kernel),
    List.forall_mem_cons.mpr ⟨List.mem_of_getElem? (i := 334) (by decide +kernel),
    List.forall_mem_cons.mpr ⟨List.mem_of_getElem? (i := 335) (by decide +kernel),
    List.forall_mem_cons.mpr ⟨List.mem_of_getElem? (i := 336) (by decide +kernel),
    List.forall_mem_cons.mpr ⟨List.mem_of_getElem? (i := 337) (by decide +kernel),
    List.forall_mem_cons.mpr ⟨List.mem_of_getElem? (i := 1472) (by decide +kernel),
    List.forall_mem_cons.mpr ⟨List.mem_of_getElem? (i := 1495) (by decide +kernel),
    List.forall_mem_cons.mpr ⟨List.mem_of_getElem? (i := 1500) (by decide +kernel),
    List.forall_mem_cons.mpr ⟨List.mem_of_getElem? (i := 1505) (by decide +kernel),
    List.forall_mem_cons.mpr ⟨List.mem_of_getElem? (i := 1506) (by decide +kernel),
    List.forall_mem_cons.mpr ⟨List.mem_of_getElem? (i := 1507) (by decide +kernel),
    List.forall_mem_cons.mpr ⟨List.mem_of_getElem? (i := 1508) (by decide +kernel),
    List.forall_mem_cons.mpr ⟨List.mem_of_getElem? (i := 1509) (by decide +kernel),
    List.forall_mem_cons.mpr ⟨List.mem_of_getElem? (i := 1510) (by decide +kernel),
    List.forall_mem_cons.mpr ⟨List.mem_of_getElem? (i := 1511) (by decide +kernel),
    List.forall_mem_cons.mpr ⟨List.mem_of_getElem? (i := 1524) (by decide +kernel),
    List.forall_mem_cons.mpr ⟨List.mem_of_getElem? (i := 1544) (by decide +kernel),
    List.forall_mem_cons.mpr ⟨List.mem_of_getElem? (i := 1549) (by decide +kernel),
    List.forall_mem_cons.mpr ⟨List.mem_of_getElem? (i := 1554) (by decide +kernel),
    List.forall_mem_cons.mpr ⟨List.mem_of_getElem? (i := 1555) (by decide +kernel),
    List.forall_mem_cons.mpr ⟨List.mem_of_getElem? (i := 1556) (by decide +kernel),
    List.forall_mem_cons.mpr ⟨List.mem_of_getElem? (i := 1569) (by decide +kernel),
    List.forall_mem_cons.mpr ⟨List.mem_of_getElem? (i := 1574) (by decide +kernel),
    List.forall_mem_nil _⟩⟩⟩⟩⟩⟩⟩⟩⟩⟩⟩⟩⟩⟩⟩⟩⟩⟩⟩⟩⟩⟩⟩⟩⟩⟩⟩⟩⟩⟩⟩⟩⟩⟩⟩⟩⟩
theorem se_in {s : State} {args : Array Value} {adK : Nat → Nat} (hf : ∀ w ∈ FLw, w.before args s = true) (he : ∀ i : Nat, i < 19 → (tmS i).eval args s none [] s = some (.ref (adK i))) : ∀ q ∈ strR, (Term.string q.1 q.2.1).eval args s none [] s = some (.ref (adK q.2.2.2)) := by
  unfold strR
  exact List.forall_mem_cons.mpr ⟨he 0 (by decide),
    List.forall_mem_cons.mpr ⟨he 1 (by decide),
    List.forall_mem_cons.mpr ⟨he 2 (by decide),
    List.forall_mem_cons.mpr ⟨he 3 (by decide),
    List.forall_mem_cons.mpr ⟨he 4 (by decide),
    List.forall_mem_cons.mpr ⟨he 5 (by decide),
    List.forall_mem_cons.mpr ⟨he 6 (by decide),
    List.forall_mem_cons.mpr ⟨he 7 (by decide),
    List.forall_mem_cons.mpr ⟨he 8 (by decide),
    List.forall_mem_cons.mpr ⟨he 9 (by decide),
    List.forall_mem_cons.mpr ⟨he 10 (by decide),
    List.forall_mem_cons.mpr ⟨he 11 (by decide),
    List.forall_mem_cons.mpr ⟨he 12 (by decide),
    List.forall_mem_cons.mpr ⟨he 13 (by decide),
    List.forall_mem_cons.mpr ⟨he 14 (by decide),
    List.forall_mem_cons.mpr ⟨he 15 (by decide),
    List.forall_mem_cons.mpr ⟨he 16 (by decide),
    List.forall_mem_cons.mpr ⟨he 17 (by decide),
    List.forall_mem_cons.mpr ⟨he 18 (by decide),
    List.forall_mem_cons.mpr ⟨va_eqR (hf _ (List.mem_of_getElem? (i := 351) (by decide +kernel))) (he 1 (by decide)),
    List.forall_mem_cons.mpr ⟨va_eqR (hf _ (List.mem_of_getElem? (i := 360) (by decide +kernel))) (he 2 (by decide)),
    List.forall_mem_cons.mpr ⟨va_eqR (hf _ (List.mem_of_getElem? (i := 370) (by decide +kernel))) (he 3 (by decide)),
    List.forall_mem_cons.mpr ⟨va_eqR (hf _ (List.mem_of_getElem? (i := 379) (by decide +kernel))) (he 12 (by decide)),
    List.forall_mem_cons.mpr ⟨va_eqR (hf _ (List.mem_of_getElem? (i := 389) (by decide +kernel))) (he 13 (by decide)),
    List.forall_mem_cons.mpr ⟨va_eqR (hf _ (List.mem_of_getElem? (i := 396) (by decide +kernel))) (he 14 (by decide)),
    List.forall_mem_cons.mpr ⟨va_eqR (hf _ (List.mem_of_getElem? (i := 406) (by decide +kernel))) (he 15 (by decide)),
    List.forall_mem_cons.mpr ⟨va_eqR (hf _ (List.mem_of_getElem? (i := 416) (by decide +kernel))) (he 16 (by decide)),
    List.forall_mem_cons.mpr ⟨va_eqR (hf _ (List.mem_of_getElem? (i := 425) (by decide +kernel))) (he 17 (by decide)),
    List.forall_mem_cons.mpr ⟨va_eqR (hf _ (List.mem_of_getElem? (i := 433) (by decide +kernel))) (he 18 (by decide)),
    List.forall_mem_cons.mpr ⟨va_eqR (hf _ (List.mem_of_getElem? (i := 445) (by decide +kernel))) (he 4 (by decide)),
    List.forall_mem_cons.mpr ⟨va_eqR (hf _ (List.mem_of_getElem? (i := 455) (by decide +kernel))) (he 5 (by decide)),
    List.forall_mem_cons.mpr ⟨va_eqR (hf _ (List.mem_of_getElem? (i := 463) (by decide +kernel))) (he 9 (by decide)),
    List.forall_mem_cons.mpr ⟨va_eqR (hf _ (List.mem_of_getElem? (i := 472) (by decide +kernel))) (he 7 (by decide)),
    List.forall_mem_cons.mpr ⟨va_eqR (hf _ (List.mem_of_getElem? (i := 481) (by decide +kernel))) (he 6 (by decide)),
    List.forall_mem_cons.mpr ⟨va_eqR (hf _ (List.mem_of_getElem? (i := 491) (by decide +kernel))) (he 8 (by decide)),
    List.forall_mem_cons.mpr ⟨va_eqR (hf _ (List.mem_of_getElem? (i := 499) (by decide +kernel))) (he 11 (by decide)),
    List.forall_mem_cons.mpr ⟨va_eqR (hf _ (List.mem_of_getElem? (i := 507) (by decide +kernel))) (he 10 (by decide)),
    List.forall_mem_nil _⟩⟩⟩⟩⟩⟩⟩⟩⟩⟩⟩⟩⟩⟩⟩⟩⟩⟩⟩⟩⟩⟩⟩⟩⟩⟩⟩⟩⟩⟩⟩⟩⟩⟩⟩⟩⟩
theorem nw_in : ∀ w ∈ NW, w ∈ tables_1 := by
  unfold NW
  exact List.forall_mem_cons.mpr ⟨List.mem_of_getElem? (i := 778) (by decide +kernel),
    List.forall_mem_cons.mpr ⟨List.mem_of_getElem? (i := 780) (by decide +kernel),
    List.forall_mem_cons.mpr ⟨List.mem_of_getElem? (i := 782) (by decide +kernel),
    List.forall_mem_cons.mpr ⟨List.mem_of_getElem? (i := 777) (by decide +kernel),
    List.forall_mem_cons.mpr ⟨List.mem_of_getElem? (i := 853) (by decide +kernel),
    List.forall_mem_cons.mpr ⟨List.mem_of_getElem? (i := 876) (by decide +kernel),
    List.forall_mem_cons.mpr ⟨List.mem_of_getElem? (i := 904) (by decide +kernel),
    List.forall_mem_cons.mpr ⟨List.mem_of_getElem? (i := 39) (by decide +kernel),
    List.forall_mem_cons.mpr ⟨List.mem_of_getElem? (i := 40) (by decide +kernel),
    List.forall_mem_cons.mpr ⟨List.mem_of_getElem? (i := 90) (by decide +kernel),
    List.forall_mem_cons.mpr ⟨List.mem_of_getElem? (i := 96) (by decide +kernel),
    List.forall_mem_cons.mpr ⟨List.mem_of_getElem? (i := 98) (by decide +kernel),
    List.forall_mem_cons.mpr ⟨List.mem_of_getElem? (i := 107) (by decide +kernel),
    List.forall_mem_cons.mpr ⟨List.mem_of_getElem? (i := 109) (by decide +kernel),
    List.forall_mem_cons.mpr ⟨List.mem_of_getElem? (i := 152) (by decide +kernel),
    List.forall_mem_cons.mpr ⟨List.mem_of_getElem? (i := 154) (by decide +kernel),
    List.forall_mem_cons.mpr ⟨List.mem_of_getElem? (i := 156) (by decide +kernel),
    List.forall_mem_cons.mpr ⟨List.mem_of_getElem? (i := 157) (by decide +kernel),
    List.forall_mem_nil _⟩⟩⟩⟩⟩⟩⟩⟩⟩⟩⟩⟩⟩⟩⟩⟩⟩⟩
theorem nc_in : ∀ q ∈ NC, Cond.not (Cond.castable q.1 q.2) ∈ FLw := by
  unfold NC
  exact List.forall_mem_cons.mpr ⟨List.mem_of_getElem? (i := 32) (by decide +kernel),
    List.forall_mem_cons.mpr ⟨List.mem_of_getElem? (i := 44) (by decide +kernel),
    List.forall_mem_cons.mpr ⟨List.mem_of_getElem? (i := 56) (by decide +kernel),
    List.forall_mem_cons.mpr ⟨List.mem_of_getElem? (i := 20) (by decide +kernel),
    List.forall_mem_cons.mpr ⟨List.mem_of_getElem? (i := 45) (by decide +kernel),
    List.forall_mem_cons.mpr ⟨List.mem_of_getElem? (i := 57) (by decide +kernel),
    List.forall_mem_cons.mpr ⟨List.mem_of_getElem? (i := 21) (by decide +kernel),
    List.forall_mem_cons.mpr ⟨List.mem_of_getElem? (i := 33) (by decide +kernel),
    List.forall_mem_cons.mpr ⟨List.mem_of_getElem? (i := 58) (by decide +kernel),
    List.forall_mem_cons.mpr ⟨List.mem_of_getElem? (i := 22) (by decide +kernel),
    List.forall_mem_cons.mpr ⟨List.mem_of_getElem? (i := 34) (by decide +kernel),
    List.forall_mem_cons.mpr ⟨List.mem_of_getElem? (i := 46) (by decide +kernel),
    List.forall_mem_nil _⟩⟩⟩⟩⟩⟩⟩⟩⟩⟩⟩⟩
section WORLD
variable {s : State} {b : Nat}
theorem K_cls (hts : ∀ w ∈ lw_tbl, w.before #[Value.ref b] s = true) : ∃ D : va_G, ∀ (c : Nat) (q : vw_C), vwCl[c]? = some q → u_Kn s q.1 q.2.1 q.2.2 (D.1 c) (D.2 c) := by
  have h0 : ∀ c : Nat, ∃ x : Nat × (Nat → Nat), c < 9 → u_Kn s (vwf c).1 (vwf c).2.1 (vwf c).2.2 x.1 x.2 := by
    intro c
    by_cases hc : c < 9
    · obtain ⟨cC, iS, h⟩ := u_known (T := (vwf c).2.1) (N := (vwf c).2.2) hts (fun w hw => (tw_good (cls_ok1 c hc w hw)).1) (hts _ (inst_in c hc))
      exact ⟨(cC, iS), fun _ => h⟩
    · exact ⟨(0, fun _ => 0), fun h => absurd h hc⟩
  obtain ⟨f, hf⟩ := Classical.axiomOfChoice h0
  refine ⟨(fun c => (f c).1, fun c => (f c).2), fun c q hq => ?_⟩
  obtain ⟨hc, rfl⟩ := vwf_at hq
  exact hf c hc
theorem K_all (hts : ∀ w ∈ lw_tbl, w.before #[Value.ref b] s = true) : ∃ (D : va_G) (arr : Nat → ClassId), ∀ g : GE, g.2.1 = arr → va_K D vwCl (tysG g) s := by
  obtain ⟨D, hD⟩ := K_cls hts
  obtain ⟨a0, k0⟩ := arr_1 (ty := .int) (fun _ h => nomatch h) (hts _ (tb_in (List.mem_of_getElem? (i := 82) (by decide +kernel))))
  obtain ⟨a1, k1⟩ := arr_1 (ty := .long) (fun _ h => nomatch h) (hts _ (tb_in (List.mem_of_getElem? (i := 81) (by decide +kernel))))
  obtain ⟨a2, k2⟩ := arr_1 (ty := .byte) (fun _ h => nomatch h) (hts _ (tb_in (List.mem_of_getElem? (i := 46) (by decide +kernel))))
  obtain ⟨a3, k3⟩ := arr_1 (ty := .boolean) (fun _ h => nomatch h) (hts _ (tb_in (List.mem_of_getElem? (i := 1430) (by decide +kernel))))
  obtain ⟨a4, k4⟩ := arr_1 (ty := .double) (fun _ h => nomatch h) (hts _ (tb_in (List.mem_of_getElem? (i := 1837) (by decide +kernel))))
  refine ⟨D, fun k => match k with | 0 => a0 | 1 => a1 | 2 => a2 | 3 => a3 | _ => a4, fun g e => ⟨hD, fun k q hq => ?_⟩⟩
  unfold tysG at hq
  rw [e] at hq
  match k, hq with
  | 0, hq => cases hq; exact k0
  | 1, hq => cases hq; exact k1
  | 2, hq => cases hq; exact k2
  | 3, hq => cases hq; exact k3
  | 4, hq => cases hq; exact k4
  | k + 5, hq => simp at hq
theorem law_world {L : Nat} {xs : Nat → Int32} (hts : ∀ w ∈ lw_tbl, w.before #[Value.ref b] s = true) (hg : (Jvm.Cond.and given_1 narrow_1).before #[Value.ref b] s = true) (hX : va_X b L xs s s.heap) (hbl : b < s.heap.size) :
    ∃ (D : va_G) (arr : Nat → ClassId) (sa rf : Nat → Nat), va_K D vwCl (tysG (D, arr, sa, rf, b, L, xs)) s ∧ Ext (D, arr, sa, rf, b, L, xs) (fun q => s.heap.size ≤ q) s s.heap := by
  have hf : ∀ w ∈ FLw, w.before #[Value.ref b] s = true := flat_of_before _ hg
  have hA : ∀ a : Nat, a < s.heap.size → ¬ (fun q : Nat => s.heap.size ≤ q) a := fun a h => Nat.not_le.mpr h
  obtain ⟨D, arr, hK⟩ := K_all hts
  have hz : ∃ fm : Nat, fmZ fm (fun q => s.heap.size ≤ q) s s.heap := by
    rcases va_Zqof (C := "jdk/internal/util/Preconditions") (n := "SIOOBE_FORMATTER") (d := "Ljava/util/function/BiFunction;") (hts _ (tb_in (List.mem_of_getElem? (i := 242) (by decide +kernel)))) (hts _ (tb_in (List.mem_of_getElem? (i := 11) (by decide +kernel)))) (hf _ (List.mem_of_getElem? (i := 5) (by decide +kernel))) hA with h | ⟨t, h⟩
    · exact ⟨0, Or.inr h⟩
    · exact ⟨t, Or.inl h⟩
  obtain ⟨fm, hz⟩ := hz
  obtain ⟨sa, rf, hS, h9, he⟩ := str_at hf hA fm
  refine ⟨D, arr, sa, rf, hK _ rfl, fun q hq => vk_R.of (hts _ (tb_in (sr_in q hq))) (se_in hf he q hq), fun w hw => va_Nw.of (nw_tab w hw) (hts _ (tb_in (nw_in w hw))), fun q hq => va_Nc.of (hf _ (nc_in q hq)), hS, vx_Zqof (hts _ (tb_in (List.mem_of_getElem? (i := 802) (by decide +kernel)))) (hts _ (tb_in (List.mem_of_getElem? (i := 15) (by decide +kernel)))) (hf _ (List.mem_of_getElem? (i := 9) (by decide +kernel))) hA, vx_Zqof (hts _ (tb_in (List.mem_of_getElem? (i := 804) (by decide +kernel)))) (hts _ (tb_in (List.mem_of_getElem? (i := 15) (by decide +kernel)))) (hf _ (List.mem_of_getElem? (i := 10) (by decide +kernel))) hA, va_Zof (hts _ (tb_in (List.mem_of_getElem? (i := 226) (by decide +kernel)))) (hts _ (tb_in (List.mem_of_getElem? (i := 9) (by decide +kernel)))) (va_eqi (hf _ (List.mem_of_getElem? (i := 4) (by decide +kernel)))) hA, ?_, hX, hA b hbl, hbl⟩
  show fmZ (rf 999) _ _ _
  rw [h9]
  exact hz
end WORLD
/-- THE LAW, from its entry -/
theorem whole_start {p : Program} {e : Env} {s : State} {m : MethodId} {below : List Frame} {meth : Method} {c : Code} (l : Launch) (hflags : l.flags = flags0) (htab : c.exceptionTable.toList = []) {b L : Nat} {xs : Nat → Int32} (hL : L ≤ 3072) (C0 : lw_At p s m meth c b L xs) : W p l e room_1 s m #[Value.ref b] below meth c s.heap [] 0 0 (lw_Z below #[Value.ref b] s) (entryFrame m ([Value.ref b] : List Value).toArray 9) := by
  obtain ⟨-, -, -, -, -, hts, hX, hbl, -, hgv⟩ := id C0
  obtain ⟨D, arr, sa, rf, hK, hE⟩ := law_world hts hgv hX hbl
  have hst : l.stackTraces = false := by
    show (!l.flags.contains noTraceFlag) = false
    rw [hflags]
    decide +kernel
  exact whole_world hL C0 htab hst (fun w hw => hts w (tw_good hw).1) hK hE
