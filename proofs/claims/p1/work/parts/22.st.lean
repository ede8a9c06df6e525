/-! ===== the law's start: the context out of the claim's premises: written by wip/p1/jstart.py ===== -/
theorem gw_107 : (.initialized "java/lang/Throwable" : Jvm.Cond) ∈ gG := List.mem_of_getElem? (i := 107) (by decide +kernel)
theorem gw_114 : (.initialized "java/lang/Integer$IntegerCache" : Jvm.Cond) ∈ gG := List.mem_of_getElem? (i := 114) (by decide +kernel)
theorem gw_726 : (.laysStatic "java/lang/Throwable" "UNASSIGNED_STACK" "[Ljava/lang/StackTraceElement;" : Jvm.Cond) ∈ gG := List.mem_of_getElem? (i := 726) (by decide +kernel)
theorem gw_728 : (.laysStatic "java/lang/Throwable" "SUPPRESSED_SENTINEL" "Ljava/util/List;" : Jvm.Cond) ∈ gG := List.mem_of_getElem? (i := 728) (by decide +kernel)
theorem gw_740 : (.stringRef "PivotalMarket" 296 "outside its range" : Jvm.Cond) ∈ gG := List.mem_of_getElem? (i := 740) (by decide +kernel)
theorem gw_828 : (.stringRef "PivotalMarket" 109 "no such kind of node, or not as its kind asks" : Jvm.Cond) ∈ gG := List.mem_of_getElem? (i := 828) (by decide +kernel)
theorem gw_871 : (.stringRef "PivotalMarket" 294 "no such number" : Jvm.Cond) ∈ gG := List.mem_of_getElem? (i := 871) (by decide +kernel)
theorem gw_989 : (.stringRef "PivotalMarket" 184 "no rising prices began, or they ended" : Jvm.Cond) ∈ gG := List.mem_of_getElem? (i := 989) (by decide +kernel)
theorem gw_1075 : (.stringRef "PivotalMarket" 215 "no such ballot" : Jvm.Cond) ∈ gG := List.mem_of_getElem? (i := 1075) (by decide +kernel)
theorem gw_1088 : (.stringRef "PivotalMarket" 225 "there is no ballot" : Jvm.Cond) ∈ gG := List.mem_of_getElem? (i := 1088) (by decide +kernel)
theorem gw_1167 : (.laysStatic "java/util/ArrayList" "DEFAULTCAPACITY_EMPTY_ELEMENTDATA" "[Ljava/lang/Object;" : Jvm.Cond) ∈ gG := List.mem_of_getElem? (i := 1167) (by decide +kernel)
theorem gw_1265 : (.laysStatic "java/lang/Integer$IntegerCache" "high" "I" : Jvm.Cond) ∈ gG := List.mem_of_getElem? (i := 1265) (by decide +kernel)
theorem gw_1267 : (.laysStatic "java/lang/Integer$IntegerCache" "cache" "[Ljava/lang/Integer;" : Jvm.Cond) ∈ gG := List.mem_of_getElem? (i := 1267) (by decide +kernel)
theorem gw_1352 : (.laysStatic "java/lang/Boolean" "TRUE" "Ljava/lang/Boolean;" : Jvm.Cond) ∈ gG := List.mem_of_getElem? (i := 1352) (by decide +kernel)
theorem gw_1739 : (.interfaceMethod "java/util/Iterator" "java/util/Iterator" "hasNext" "()Z" : Jvm.Cond) ∈ gG := List.mem_of_getElem? (i := 1739) (by decide +kernel)
theorem gw_1740 : (.declares ⟨"java/util/Iterator", "hasNext", "()Z"⟩ : Jvm.Cond) ∈ gG := List.mem_of_getElem? (i := 1740) (by decide +kernel)
theorem gw_1741 : (.castable "java/util/ArrayList$Itr" "java/util/Iterator" : Jvm.Cond) ∈ gG := List.mem_of_getElem? (i := 1741) (by decide +kernel)
theorem gw_1743 : (.unhidden "java/util/ArrayList$Itr" "hasNext" "()Z" : Jvm.Cond) ∈ gG := List.mem_of_getElem? (i := 1743) (by decide +kernel)
theorem gw_1745 : (.publicMethod ⟨"java/util/ArrayList$Itr", "hasNext", "()Z"⟩ : Jvm.Cond) ∈ gG := List.mem_of_getElem? (i := 1745) (by decide +kernel)
theorem gw_1849 : (.castable "java/lang/Integer" "java/lang/Object" : Jvm.Cond) ∈ gG := List.mem_of_getElem? (i := 1849) (by decide +kernel)
theorem gw_1863 : (.castable "java/lang/Boolean" "java/lang/Object" : Jvm.Cond) ∈ gG := List.mem_of_getElem? (i := 1863) (by decide +kernel)
theorem gInst_all : ∀ q ∈ gQs, Jvm.Cond.instantiable q.1.1 q.1.2.2 ∈ gG := List.forall_mem_cons.mpr ⟨gw_193, List.forall_mem_cons.mpr ⟨gw_134, List.forall_mem_cons.mpr ⟨gw_337, List.forall_mem_cons.mpr ⟨gw_252, List.forall_mem_cons.mpr ⟨gw_300, List.forall_mem_cons.mpr ⟨gw_219, List.forall_mem_cons.mpr ⟨gw_278, List.forall_mem_cons.mpr ⟨gw_313, List.forall_mem_cons.mpr ⟨gw_126, List.forall_mem_cons.mpr ⟨gw_1447, List.forall_mem_cons.mpr ⟨gw_1149, List.forall_mem_cons.mpr ⟨gw_1155, List.forall_mem_cons.mpr ⟨gw_1719, (fun _ h => nomatch h)⟩⟩⟩⟩⟩⟩⟩⟩⟩⟩⟩⟩⟩
theorem gStd_args {w : Jvm.Cond} (hw : gStd w = true) {s : State} {a a' : Array Value} (h : w.before a s = true) : w.before a' s = true := by
  cases w <;> first | exact h | (exact absurd hw (by decide)) | (cases hw; done)
theorem gCy_of {s : State} {b : Array Value} (hG : ∀ w ∈ gG, w.before b s = true) : ∃ cy : Nat → ClassId, (∀ (t : Nat) (ty : FieldType), gAty[t]? = some ty → ArrOfT s (cy t) ty ∧ s.vm.findClass ("[" ++ ty.toString) = some (cy t)) ∧ va_RA s (cy 6) (.object "java/lang/Object") := by
  obtain ⟨c0, k0, p0, h01, h02, h03⟩ := Cond.arrayClass_spec (hG _ gw_191)
  obtain ⟨c1, k1, p1, h11, h12, h13⟩ := Cond.arrayClass_spec (hG _ gw_1635)
  obtain ⟨c2, k2, p2, h21, h22, h23⟩ := Cond.arrayClass_spec (hG _ gw_1846)
  obtain ⟨c3, k3, p3, h31, h32, h33⟩ := Cond.arrayClass_spec (hG _ gw_1847)
  obtain ⟨p4, c4, k4, -, -, h42, h43, h41⟩ := arrayOverA_spec (hG _ gw_140)
  obtain ⟨p5, c5, k5, -, -, h52, h53, h51⟩ := arrayOverA_spec (hG _ gw_1607)
  obtain ⟨p6, c6, k6, h60, -, h62, h63, h61⟩ := Cond.arrayOver_spec (hG _ gw_1334)
  refine ⟨fun t => match t with | 0 => c0 | 1 => c1 | 2 => c2 | 3 => c3 | 4 => c4 | 5 => c5 | _ => c6, fun t ty ht => ?_, k6, p6, h62, h63, h60, h61⟩
  match t, ht with
  | 0, ht => cases ht; exact ⟨fun n z => ⟨(fun k h => by cases h), k0, h02, p0, h03⟩, h01⟩
  | 1, ht => cases ht; exact ⟨fun n z => ⟨(fun k h => by cases h), k1, h12, p1, h13⟩, h11⟩
  | 2, ht => cases ht; exact ⟨fun n z => ⟨(fun k h => by cases h), k2, h22, p2, h23⟩, h21⟩
  | 3, ht => cases ht; exact ⟨fun n z => ⟨(fun k h => by cases h), k3, h32, p3, h33⟩, h31⟩
  | 4, ht => cases ht; exact ⟨fun n z => ⟨(fun k h => by cases h), k4, h42, p4, h43⟩, h41⟩
  | 5, ht => cases ht; exact ⟨fun n z => ⟨(fun k h => by cases h), k5, h52, p5, h53⟩, h51⟩
  | 6, ht => cases ht; exact ⟨fun n z => ⟨(fun k h => by cases h), k6, h62, p6, h63⟩, h61⟩
  | t + 7, ht => cases ht
theorem gD_of {s : State} {b : Array Value} (hG : ∀ w ∈ gG, w.before b s = true) : ∃ D : va_G, ∀ (ci : Nat) (q : gQ), gQs[ci]? = some q → u_Kn s q.1.1 q.1.2.1 q.1.2.2 (D.1 ci) (D.2 ci) := by
  have h1 : ∀ ci : Nat, ∃ (cC : ClassId) (iS : Nat → Nat), ∀ q, gQs[ci]? = some q → u_Kn s q.1.1 q.1.2.1 q.1.2.2 cC iS := by
    intro ci
    cases hq : gQs[ci]? with
    | none => exact ⟨(0 : Nat), fun _ => 0, fun q h9 => by cases h9⟩
    | some q =>
      obtain ⟨cC, iS, h2⟩ := u_known hG (gQok_all ci q hq).1 (hG _ (gInst_all q (List.mem_of_getElem? hq)))
      exact ⟨cC, iS, fun q' h9 => by cases h9; exact h2⟩
  exact ⟨(fun ci => (h1 ci).choose, fun ci => (h1 ci).choose_spec.choose), fun ci q hq => (h1 ci).choose_spec.choose_spec q hq⟩
/-- what the codes 0..455 stand for -/
def gFx (xs : Nat → Int32) (b t1 t2 t3 : Nat) (ad : Nat → Nat) (u : Nat) : Value := if u < 5 then .int (xs u) else if u < 100 then .int 0 else if u = 100 then .ref b else if u = 101 then .ref t1 else if u = 103 then .ref t3 else if u < 200 then .ref t2 else .ref (ad (u - 200))
theorem gFx_ok (xs : Nat → Int32) (b t1 t2 t3 : Nat) (ad : Nat → Nat) : gFv (gFx xs b t1 t2 t3 ad) := by
  refine ⟨fun u hu => ?_, fun u hu => ?_⟩
  · unfold gFx
    split
    · exact ⟨_, rfl⟩
    · first | exact ⟨_, rfl⟩ | (rw [if_pos hu]; exact ⟨_, rfl⟩)
  · unfold gFx
    rw [if_neg (by omega), if_neg (by omega)]
    split
    · exact ⟨_, rfl⟩
    · split
      · exact ⟨_, rfl⟩
      · split
        · exact ⟨_, rfl⟩
        · split <;> exact ⟨_, rfl⟩
theorem gFx_ad (xs : Nat → Int32) (b t1 t2 t3 : Nat) (ad : Nat → Nat) {j : Nat} (hj : j < 256) : gFx xs b t1 t2 t3 ad (UInt32.ofNat (200 + j)).toNat = .ref (ad j) := by
  have e : (UInt32.ofNat (200 + j)).toNat = 200 + j := UInt32.toNat_ofNat_of_lt' (by show 200 + j < 4294967296; omega)
  rw [e]
  unfold gFx
  rw [if_neg (by omega), if_neg (by omega), if_neg (by omega), if_neg (by omega), if_neg (by omega), if_neg (by omega), Nat.add_sub_cancel_left]
theorem gAny_of {s : State} {a : Nat} {cell : Cell} {kC : Class} {E : String} (h1 : s.heap[a]? = some cell) (h2 : cell.vm.isStatics = false) (h3 : s.vm.classes[cell.cls]? = some kC) (h4 : s.vm.findClass E = some cell.cls) {b : Array Value} (h5 : (Cond.castable E "java/lang/Object").before b s = true) : va_Any "java/lang/Object" s s.heap a := by
  obtain ⟨c, t, q1, q2, q3⟩ := Cond.castable_spec h5
  cases q1.symm.trans h4
  exact ⟨cell, h1, h2, ⟨kC, h3⟩, fun comp hc => by cases hc.symm.trans q2; exact q3⟩
set_option maxHeartbeats 1000000 in
theorem g_start {s : State} {b L : Nat} {xs : Nat → Int32} (hts : ∀ w ∈ lw_tbl, w.before #[Value.ref b] s = true) (hX : va_X b L xs s s.heap) (hb : b < s.heap.size) (hL : L ≤ 5) (hP : (Jvm.Cond.and given_1 narrow_1).before #[Value.ref b] s = true) :
    ∃ (D : va_G) (cy : Nat → ClassId) (t1 t2 t3 : Nat) (ad : Nat → Nat), ∀ sv : List Value, sv.length = L → (∀ j, j < L → gv s.heap.size (gFx xs b t1 t2 t3 ad) (sv.getD j .null) = .int (xs j)) → gCs gQs gG D cy (gTs sv) gZs gSs s.heap.size (gFx xs b t1 t2 t3 ad) s.heap s := by
  have hF : ∀ c : Cond, c ∈ flatC (Jvm.Cond.and given_1 narrow_1) → c.before #[Value.ref b] s = true := fun c hc => flat_of_before _ hP c hc
  have hG : ∀ w ∈ gG, w.before #[Value.ref b] s = true := fun w hw => (List.mem_append.mp hw).elim (hts w) (fun h => nomatch h)
  have hA : ∀ a : Nat, a < s.heap.size → ¬ gA s.heap.size a := fun a h h2 => absurd h (Nat.not_lt.mpr h2)
  obtain ⟨D, hD⟩ := gD_of hG
  obtain ⟨cy, hcy, hRA⟩ := gCy_of hG
  -- the statics
  have yAL : ∃ v, (Term.static "java/util/ArrayList" "DEFAULTCAPACITY_EMPTY_ELEMENTDATA" "[Ljava/lang/Object;").eval #[Value.ref b] s none [] s = some v := by
    obtain ⟨a, _, _, _, h, -⟩ := Cond.exactly_spec (hF (.exactly (Term.static "java/util/ArrayList" "DEFAULTCAPACITY_EMPTY_ELEMENTDATA" "[Ljava/lang/Object;") "[Ljava/lang/Object;") (by decide +kernel))
    exact ⟨_, h⟩
  have lAL : (Term.length (Term.static "java/util/ArrayList" "DEFAULTCAPACITY_EMPTY_ELEMENTDATA" "[Ljava/lang/Object;")).eval #[Value.ref b] s none [] s = some (.int (Int32.ofNat 0)) := by
    obtain ⟨v, h1, h2⟩ := Cond.eq_one (hF (.eq (.length (Term.static "java/util/ArrayList" "DEFAULTCAPACITY_EMPTY_ELEMENTDATA" "[Ljava/lang/Object;")) (.int 0)) (by decide +kernel))
    rw [h1]; exact h2.symm
  obtain ⟨t1, v1, T1⟩ := va_Tof (A := gA s.heap.size) (N := 0) (f := fun _ => .null) (by decide) (hF (.arrayOf (Term.static "java/util/ArrayList" "DEFAULTCAPACITY_EMPTY_ELEMENTDATA" "[Ljava/lang/Object;") (.object "java/lang/Object")) (by decide +kernel)) lAL (fun j hj => absurd hj (Nat.not_lt_zero j)) hA
  have lIC : (Term.length (Term.static "java/lang/Integer$IntegerCache" "cache" "[Ljava/lang/Integer;")).eval #[Value.ref b] s none [] s = some (.int (Int32.ofNat 256)) := by
    obtain ⟨v, h1, h2⟩ := Cond.eq_one (hF (.eq (.length (Term.static "java/lang/Integer$IntegerCache" "cache" "[Ljava/lang/Integer;")) (.int 256)) (by decide +kernel))
    rw [h1]; exact h2.symm
  obtain ⟨ad, hC, hE⟩ := vb_Cof (A := gA s.heap.size) (st := (Term.static "java/lang/Integer$IntegerCache" "cache" "[Ljava/lang/Integer;")) rfl lIC (hF (.all (Term.static "java/lang/Integer$IntegerCache" "cache" "[Ljava/lang/Integer;") (.and (.exactly (.elem (Term.static "java/lang/Integer$IntegerCache" "cache" "[Ljava/lang/Integer;") (.index 0)) "java/lang/Integer") (.eq (.field (.elem (Term.static "java/lang/Integer$IntegerCache" "cache" "[Ljava/lang/Integer;") (.index 0)) "java/lang/Integer" "value" "I") (.sub (.index 0) (.int 128))))) (by decide +kernel)) hA
  obtain ⟨t3, v3, T3⟩ := va_Tof (A := gA s.heap.size) (N := 256) (f := fun j => .ref (ad j)) (by decide) (hF (.arrayOf (Term.static "java/lang/Integer$IntegerCache" "cache" "[Ljava/lang/Integer;") (.object "java/lang/Integer")) (by decide +kernel)) lIC hE hA
  have vIH : (Term.static "java/lang/Integer$IntegerCache" "high" "I").eval #[Value.ref b] s none [] s = some (.int 127) := by
    obtain ⟨v, h1, h2⟩ := Cond.eq_one (hF (.eq (Term.static "java/lang/Integer$IntegerCache" "high" "I") (.int 127)) (by decide +kernel))
    rw [h1]; exact h2.symm
  obtain ⟨t2, c2, cell2, k2, v2, g21, g22, g23, g24, g25, -⟩ := Cond.exactly_spec (hF (.exactly (Term.static "java/lang/Boolean" "TRUE" "Ljava/lang/Boolean;") "java/lang/Boolean") (by decide +kernel))
  obtain ⟨a0, _, _, _, e0, -, -, -, -, -, -⟩ := Cond.exactly_spec (hF (.exactly (.string "PivotalMarket" 215) "java/lang/String") (by decide +kernel))
  obtain ⟨a1, _, _, _, e1, -, -, -, -, -, -⟩ := Cond.exactly_spec (hF (.exactly (.string "PivotalMarket" 294) "java/lang/String") (by decide +kernel))
  obtain ⟨a2, _, _, _, e2, -, -, -, -, -, -⟩ := Cond.exactly_spec (hF (.exactly (.string "PivotalMarket" 296) "java/lang/String") (by decide +kernel))
  obtain ⟨a3, _, _, _, e3, -, -, -, -, -, -⟩ := Cond.exactly_spec (hF (.exactly (.string "PivotalMarket" 109) "java/lang/String") (by decide +kernel))
  obtain ⟨a4, _, _, _, e4, -, -, -, -, -, -⟩ := Cond.exactly_spec (hF (.exactly (.string "PivotalMarket" 184) "java/lang/String") (by decide +kernel))
  obtain ⟨a5, _, _, _, e5, -, -, -, -, -, -⟩ := Cond.exactly_spec (hF (.exactly (.string "PivotalMarket" 225) "java/lang/String") (by decide +kernel))
  have n01 : va_Nc (gXn 0) (gXn 1) s := va_Nc.of (hF (.not (.castable "java/lang/IllegalStateException" "java/lang/IllegalArgumentException")) (by decide +kernel))
  have n02 : va_Nc (gXn 0) (gXn 2) s := va_Nc.of (hF (.not (.castable "java/lang/IllegalStateException" "java/lang/IndexOutOfBoundsException")) (by decide +kernel))
  have n10 : va_Nc (gXn 1) (gXn 0) s := va_Nc.of (hF (.not (.castable "java/lang/IllegalArgumentException" "java/lang/IllegalStateException")) (by decide +kernel))
  have n12 : va_Nc (gXn 1) (gXn 2) s := va_Nc.of (hF (.not (.castable "java/lang/IllegalArgumentException" "java/lang/IndexOutOfBoundsException")) (by decide +kernel))
  have n20 : va_Nc (gXn 2) (gXn 0) s := va_Nc.of (hF (.not (.castable "java/lang/IndexOutOfBoundsException" "java/lang/IllegalStateException")) (by decide +kernel))
  have n21 : va_Nc (gXn 2) (gXn 1) s := va_Nc.of (hF (.not (.castable "java/lang/IndexOutOfBoundsException" "java/lang/IllegalArgumentException")) (by decide +kernel))
  refine ⟨D, cy, t1, t2, t3, ad, fun sv hsl hsv => ?_⟩
  have hfx : ∀ j : Nat, j < 256 → gFx xs b t1 t2 t3 ad (UInt32.ofNat (200 + j)).toNat = .ref (ad j) := fun j hj => gFx_ad xs b t1 t2 t3 ad hj
  refine ⟨⟨fun w hw hg a => gStd_args hg (hG w hw), hD, hcy, hRA⟩, ⟨?_, ?_, ?_⟩, ?_, ?_, ?_, ?_, ?_⟩
  · unfold gTs
    refine List.forall_mem_cons.mpr ⟨⟨by show sv.length < _; rw [hsl]; omega, b, rfl, ?_⟩, List.forall_mem_cons.mpr ⟨⟨by decide, t1, rfl, ?_⟩, List.forall_mem_cons.mpr ⟨⟨?_, t3, rfl, ?_⟩, fun _ h => nomatch h⟩⟩⟩
    · obtain ⟨scr, x1, x2, x3, x4, x5⟩ := hX
      refine ⟨scr, x1, x2, x3, ?_, ?_, fun j hj => ?_, hA b hb⟩
      · show sv.length ≤ _; omega
      · show scr.slots.size.toInt32 = Int32.ofNat sv.length; first | (rw [x4, hsl]; done) | (rw [x4, hsl]; rfl)
      · have hj' : j < L := by rw [← hsl]; exact hj
        rw [x5 j hj']; exact congrArg some (hsv j hj').symm
    · obtain ⟨cell, x1, x2, x3, x4, x5, -, x7⟩ := T1
      exact ⟨cell, x1, x2, x3, x4, x5, fun j hj => absurd hj (Nat.not_lt_zero j), x7⟩
    · show ((List.range 256).map _).length < 2 ^ 31
      rw [List.length_map, List.length_range]; decide
    · obtain ⟨cell, x1, x2, x3, x4, x5, x6, x7⟩ := T3
      have e9 : ((List.range 256).map (fun j => Value.float (UInt32.ofNat (200 + j)))).length = 256 := by rw [List.length_map, List.length_range]
      refine ⟨cell, x1, x2, x3, by rw [e9]; exact x4, by rw [e9]; exact x5, fun j hj => ?_, x7⟩
      rw [e9] at hj
      rw [x6 j hj]
      refine congrArg some ?_
      show Value.ref (ad j) = gv s.heap.size _ (((List.range 256).map (fun j => Value.float (UInt32.ofNat (200 + j)))).getD j .null)
      rw [List.getD_eq_getElem?_getD, List.getElem?_map, List.getElem?_range hj]
      exact (hfx j hj).symm
  · intro j q hj
    match j, hj with
    | 0, hj => cases hj; exact va_Zof (hG _ gw_1167) (hG _ gw_106) v1 hA
    | 1, hj => cases hj; exact va_Zof (hG _ gw_1352) (hG _ gw_119) v2 hA
    | 2, hj => cases hj; exact va_Zof (hG _ gw_1265) (hG _ gw_114) vIH hA
    | 3, hj => cases hj; exact va_Zof (hG _ gw_1267) (hG _ gw_114) v3 hA
    | j + 4, hj => cases hj
  · intro u h1 h2 h3
    rcases Nat.lt_or_ge u 200 with h4 | h4
    · refine ⟨t2, ?_, (Array.getElem?_eq_some_iff.mp g22).1, gAny_of (E := "java/lang/Boolean") g22 g24 (by rw [g25]; exact g23) (by rw [g25]; exact g21) (hG _ gw_1863)⟩
      unfold gFx
      rw [if_neg (by omega), if_neg (by omega), if_neg (by omega), if_neg (by omega), if_neg h3, if_pos h4]
    · have hj : u - 200 < 256 := by omega
      obtain ⟨cell, x1, x2, x3, -⟩ := hC.1 (u - 200) hj
      obtain ⟨kC, hkC, -⟩ := Vm.findClass_spec x3
      refine ⟨ad (u - 200), ?_, (Array.getElem?_eq_some_iff.mp x1).1, gAny_of (E := "java/lang/Integer") x1 x2 hkC x3 (hG _ gw_1849)⟩
      unfold gFx
      rw [if_neg (by omega), if_neg (by omega), if_neg (by omega), if_neg (by omega), if_neg (by omega), if_neg (by omega)]
  · unfold gSs
    exact List.forall_mem_cons.mpr ⟨⟨a0, vk_R.of (hG _ gw_1075) e0⟩, List.forall_mem_cons.mpr ⟨⟨a1, vk_R.of (hG _ gw_871) e1⟩, List.forall_mem_cons.mpr ⟨⟨a2, vk_R.of (hG _ gw_740) e2⟩, List.forall_mem_cons.mpr ⟨⟨a3, vk_R.of (hG _ gw_828) e3⟩, List.forall_mem_cons.mpr ⟨⟨a4, vk_R.of (hG _ gw_989) e4⟩, List.forall_mem_cons.mpr ⟨⟨a5, vk_R.of (hG _ gw_1088) e5⟩, (fun _ h => nomatch h)⟩⟩⟩⟩⟩⟩
  · exact vx_Zqof (hG _ gw_726) (hG _ gw_107) (hF (.isRef (Term.static "java/lang/Throwable" "UNASSIGNED_STACK" "[Ljava/lang/StackTraceElement;")) (by decide +kernel)) hA
  · exact vx_Zqof (hG _ gw_728) (hG _ gw_107) (hF (.isRef (Term.static "java/lang/Throwable" "SUPPRESSED_SENTINEL" "Ljava/util/List;")) (by decide +kernel)) hA
  · intro i j hi hj hij
    match i, j, hi, hj, hij with
    | 0, 1, _, _, _ => exact n01
    | 0, 2, _, _, _ => exact n02
    | 1, 0, _, _, _ => exact n10
    | 1, 2, _, _, _ => exact n12
    | 2, 0, _, _, _ => exact n20
    | 2, 1, _, _, _ => exact n21
    | 0, 0, _, _, h => exact absurd rfl h
    | 1, 1, _, _, h => exact absurd rfl h
    | 2, 2, _, _, h => exact absurd rfl h
    | i + 3, _, h, _, _ => exact absurd h (by omega)
    | _, j + 3, _, h, _ => exact absurd h (by omega)
  · exact va_Fw.of (hG _ gw_1740) (hG _ gw_1739) (hG _ gw_1745) (hG _ gw_1743) (hG _ gw_1741)

