/-! ===== jumps ===== -/
/-- what is known of the coded ints -/
def gKn (fv : Nat → Value) (F : gF) : Prop := ∀ (i : Nat) (r : Int32 × Int32), gLook F i = some r → ∃ x : Int32, fv i = .int x ∧ r.1 ≤ x ∧ x ≤ r.2
theorem gRng_ok {B : Nat} {fv : Nat → Value} {F : gF} (hk : gKn fv F) {v : Value} {r : Int32 × Int32} (h : gRng F v = some r) : ∃ x : Int32, gv B fv v = .int x ∧ r.1 ≤ x ∧ x ≤ r.2 := by
  cases v with
  | int a => cases h; exact ⟨a, rfl, Int32.le_refl a, Int32.le_refl a⟩
  | float u => exact hk u.toNat r h
  | _ => cases h
def gHolds (c : Jvm.ClassFile.Cond) (x y : Int32) : Prop := match c with
  | .lt => x < y
  | .ge => x ≥ y
  | .gt => x > y
  | .le => x ≤ y
  | .eq => x = y
  | .ne => ¬ x = y
theorem gLt_ok {a b p q x y : Int32} {r : Bool} (h : gLt a b p q = some r) (h1 : a ≤ x) (h2 : x ≤ b) (h3 : p ≤ y) (h4 : y ≤ q) : (r = true → x < y) ∧ (r = false → ¬ x < y) := by
  unfold gLt at h
  rw [Int32.le_iff_toInt_le] at h1 h2 h3 h4
  split at h
  · rename_i hc
    cases h
    rw [Int32.lt_iff_toInt_lt] at hc
    exact ⟨fun _ => by rw [Int32.lt_iff_toInt_lt]; omega, (fun h => by cases h)⟩
  · split at h
    · rename_i hc
      cases h
      rw [Int32.le_iff_toInt_le] at hc
      exact ⟨(fun h => by cases h), fun _ => by rw [Int32.lt_iff_toInt_lt]; omega⟩
    · cases h
theorem gEq_ok {a b p q x y : Int32} {r : Bool} (h : gEq a b p q = some r) (h1 : a ≤ x) (h2 : x ≤ b) (h3 : p ≤ y) (h4 : y ≤ q) : (r = true → x = y) ∧ (r = false → ¬ x = y) := by
  unfold gEq at h
  rw [Int32.le_iff_toInt_le] at h1 h2 h3 h4
  split at h
  · rename_i hc
    cases h
    rw [Int32.lt_iff_toInt_lt] at hc
    exact ⟨(fun h => by cases h), fun _ e => by rw [e] at h2; omega⟩
  · split at h
    · rename_i hc
      cases h
      rw [Int32.lt_iff_toInt_lt] at hc
      exact ⟨(fun h => by cases h), fun _ e => by rw [e] at h1; omega⟩
    · split at h
      · rename_i e1
        split at h
        · rename_i e2
          split at h
          · rename_i e3
            cases h
            subst e1; subst e2; subst e3
            refine ⟨fun _ => ?_, (fun h => by cases h)⟩
            apply Int32.toInt_inj.mp
            omega
          · cases h
        · cases h
      · cases h
theorem gCmp2_ok {c : Jvm.ClassFile.Cond} {a b p q x y : Int32} {r : Bool} (h : gCmp2 c a b p q = some r) (h1 : a ≤ x) (h2 : x ≤ b) (h3 : p ≤ y) (h4 : y ≤ q) : (r = true → gHolds c x y) ∧ (r = false → ¬ gHolds c x y) := by
  have nl : ∀ u v : Int32, ¬ u < v ↔ v ≤ u := fun u v => by rw [Int32.lt_iff_toInt_lt, Int32.le_iff_toInt_le]; omega
  cases c with
  | lt => exact gLt_ok h h1 h2 h3 h4
  | eq => exact gEq_ok h h1 h2 h3 h4
  | gt => exact gLt_ok h h3 h4 h1 h2
  | ne =>
    cases he : gEq a b p q with
    | none => simp [gCmp2, he] at h
    | some z =>
      have h9 : some (!z) = some r := by rw [← h]; show _ = Option.map not _; rw [he]; rfl
      obtain ⟨g1, g2⟩ := gEq_ok he h1 h2 h3 h4
      cases h9
      cases z with
      | true => exact ⟨(fun h => by cases h), fun _ n => n (g1 rfl)⟩
      | false => exact ⟨fun _ => g2 rfl, (fun h => by cases h)⟩
  | ge =>
    cases he : gLt a b p q with
    | none => simp [gCmp2, he] at h
    | some z =>
      have h9 : some (!z) = some r := by rw [← h]; show _ = Option.map not _; rw [he]; rfl
      obtain ⟨g1, g2⟩ := gLt_ok he h1 h2 h3 h4
      cases h9
      cases z with
      | true => exact ⟨(fun h => by cases h), fun _ n => (nl x y).mpr n (g1 rfl)⟩
      | false => exact ⟨fun _ => (nl x y).mp (g2 rfl), (fun h => by cases h)⟩
  | le =>
    cases he : gLt p q a b with
    | none => simp [gCmp2, he] at h
    | some z =>
      have h9 : some (!z) = some r := by rw [← h]; show _ = Option.map not _; rw [he]; rfl
      obtain ⟨g1, g2⟩ := gLt_ok he h3 h4 h1 h2
      cases h9
      cases z with
      | true => exact ⟨(fun h => by cases h), fun _ n => (nl y x).mpr n (g1 rfl)⟩
      | false => exact ⟨fun _ => (nl y x).mp (g2 rfl), (fun h => by cases h)⟩
theorem gCmp_ok {B : Nat} {fv : Nat → Value} {F : gF} (hk : gKn fv F) {c : Jvm.ClassFile.Cond} {v w : Value} {r : Bool} (h : gCmp F c v w = some r) :
    ∃ x y : Int32, gv B fv v = .int x ∧ gv B fv w = .int y ∧ (r = true → gHolds c x y) ∧ (r = false → ¬ gHolds c x y) := by
  unfold gCmp at h
  cases h1 : gRng F v with
  | none => rw [h1] at h; cases h
  | some a =>
    rw [h1] at h
    cases h2 : gRng F w with
    | none => rw [h2] at h; cases h
    | some b =>
      rw [h2] at h
      obtain ⟨x, ex, x1, x2⟩ := gRng_ok (B := B) hk h1
      obtain ⟨y, ey, y1, y2⟩ := gRng_ok (B := B) hk h2
      exact ⟨x, y, ex, ey, gCmp2_ok h x1 x2 y1 y2⟩
/-- where a jump goes -/
def gTgt (pc len : Nat) (b : Bool) (d : Int) : Option Nat := if 0 ≤ (pc : Int) + d then some (bif b then ((pc : Int) + d).toNat else pc + len) else none
theorem gTgt_ok {pc len t : Nat} {b : Bool} {d : Int} (h : gTgt pc len b d = some t) : (pc : Int) + d = (((pc : Int) + d).toNat : Int) ∧ t = bif b then ((pc : Int) + d).toNat else pc + len := by
  unfold gTgt at h
  split at h
  · cases h
    exact ⟨by omega, rfl⟩
  · cases h
section GBR
variable {p : Program} {l : Launch} {e : Env} {R : Room} {s : State} {m : MethodId} {args : Array Value} {below : List Frame} {meth : Method} {c : Code} {H : Heap} {locs : List Loc} {cells slots : Nat} {Q : State → Prop}
variable {cc : ByteArray} {pc : Nat} {ls : Array Slot} {B : Nat} {fv : Nat → Value}
theorem gIf_W (hx : p.tables.exec = Jvm.exec) (hb : c.code = cc) {q : Jvm.ClassFile.Cond} {x : Int32} {rest : List Value} {off : Int} {b : Bool} {t : Nat} (hd : decode cc pc = .ok (.ifCond q off, 3))
    (ht : gTgt pc 3 b off = some t) (h1 : b = true → gHolds q x 0) (h2 : b = false → ¬ gHolds q x 0)
    (k : W p l e R s m args below meth c H locs cells slots Q (F0 m t ls rest)) : W p l e R s m args below meth c H locs cells slots Q (F0 m pc ls (.int x :: rest)) := by
  obtain ⟨hT, rfl⟩ := gTgt_ok ht
  cases b with
  | true =>
    have hh := h1 rfl
    cases q with
    | eq => exact lv_if_eq hx hb hd hT (fun _ => k) (fun n => absurd hh n)
    | ne => exact lv_if_ne hx hb hd hT (fun _ => k) (fun n => absurd n hh)
    | lt => exact lv_if_lt hx hb hd hT (fun _ => k) (fun n => absurd hh n)
    | ge => exact lv_if_ge hx hb hd hT (fun _ => k) (fun n => absurd hh n)
    | gt => exact lv_if_gt hx hb hd hT (fun _ => k) (fun n => absurd hh n)
    | le => exact lv_if_le hx hb hd hT (fun _ => k) (fun n => absurd hh n)
  | false =>
    have hh := h2 rfl
    cases q with
    | eq => exact lv_if_eq hx hb hd hT (fun n => absurd n hh) (fun _ => k)
    | ne => exact lv_if_ne hx hb hd hT (fun n => absurd n hh) (fun _ => k)
    | lt => exact lv_if_lt hx hb hd hT (fun n => absurd n hh) (fun _ => k)
    | ge => exact lv_if_ge hx hb hd hT (fun n => absurd n hh) (fun _ => k)
    | gt => exact lv_if_gt hx hb hd hT (fun n => absurd n hh) (fun _ => k)
    | le => exact lv_if_le hx hb hd hT (fun n => absurd n hh) (fun _ => k)
theorem gIcmp_W (hx : p.tables.exec = Jvm.exec) (hb : c.code = cc) {q : Jvm.ClassFile.Cond} {x y : Int32} {rest : List Value} {off : Int} {b : Bool} {t : Nat} (hd : decode cc pc = .ok (.if_icmp q off, 3))
    (ht : gTgt pc 3 b off = some t) (h1 : b = true → gHolds q x y) (h2 : b = false → ¬ gHolds q x y)
    (k : W p l e R s m args below meth c H locs cells slots Q (F0 m t ls rest)) : W p l e R s m args below meth c H locs cells slots Q (F0 m pc ls (.int y :: .int x :: rest)) := by
  obtain ⟨hT, rfl⟩ := gTgt_ok ht
  cases b with
  | true =>
    have hh := h1 rfl
    cases q with
    | eq => exact lv_icmp_eq hx hb hd hT (fun _ => k) (fun n => absurd hh n)
    | ne => exact lv_icmp_ne hx hb hd hT (fun _ => k) (fun n => absurd n hh)
    | lt => exact lv_icmp_lt hx hb hd hT (fun _ => k) (fun n => absurd hh n)
    | ge => exact lv_icmp_ge hx hb hd hT (fun _ => k) (fun n => absurd hh n)
    | gt => exact lv_icmp_gt hx hb hd hT (fun _ => k) (fun n => absurd hh n)
    | le => exact lv_icmp_le hx hb hd hT (fun _ => k) (fun n => absurd hh n)
  | false =>
    have hh := h2 rfl
    cases q with
    | eq => exact lv_icmp_eq hx hb hd hT (fun n => absurd n hh) (fun _ => k)
    | ne => exact lv_icmp_ne hx hb hd hT (fun n => absurd n hh) (fun _ => k)
    | lt => exact lv_icmp_lt hx hb hd hT (fun n => absurd n hh) (fun _ => k)
    | ge => exact lv_icmp_ge hx hb hd hT (fun n => absurd n hh) (fun _ => k)
    | gt => exact lv_icmp_gt hx hb hd hT (fun n => absurd n hh) (fun _ => k)
    | le => exact lv_icmp_le hx hb hd hT (fun n => absurd n hh) (fun _ => k)
set_option maxHeartbeats 1000000 in
theorem br_ok (hx : p.tables.exec = Jvm.exec) (hb : c.code = cc) (hf : gFv fv) {F : gF} (hk : gKn fv F) {n t len : Nat} {b : Bool} {o : Int} {ins : Instr} {st st2 : List Value}
    (h : gBr F len ins st = some (n, b, o, st2)) (hd : decode cc pc = .ok (ins, n)) (ht : gTgt pc n b o = some t)
    (k : W p l e R s m args below meth c H locs cells slots Q (F0 m t ls (st2.map (gv B fv)))) :
    W p l e R s m args below meth c H locs cells slots Q (F0 m pc ls (st.map (gv B fv))) := by
  unfold gBr at h
  split at h
  · cases h
    obtain ⟨hT, rfl⟩ := gTgt_ok ht
    exact lv_goto hx hb hd hT k
  · unfold gIf at h
    split at h
    · rename_i x r
      split at h
      · cases h
      · rename_i z hz
        cases h
        obtain ⟨x1, y1, e1, e2, g1, g2⟩ := gCmp_ok (B := B) hk hz
        cases e2
        rw [List.map_cons, e1]
        exact gIf_W hx hb hd ht g1 g2 k
    · cases h
  · unfold gIcmp at h
    split at h
    · rename_i y x r
      split at h
      · cases h
      · rename_i z hz
        cases h
        obtain ⟨x1, y1, e1, e2, g1, g2⟩ := gCmp_ok (B := B) hk hz
        rw [List.map_cons, List.map_cons, e1, e2]
        exact gIcmp_W hx hb hd ht g1 g2 k
    · cases h
  · split at h
    · unfold gAcmp at h
      split at h
      · rename_i u w r
        cases hu : Nat.beq u.toNat w.toNat && Nat.ble 100 u.toNat with
        | false => rw [hu] at h; cases h
        | true =>
          rw [hu] at h
          cases h
          rw [Bool.and_eq_true] at hu
          have hq := Nat.eq_of_beq_eq_true hu.1
          obtain ⟨a, ha⟩ := hf.2 _ (Nat.le_of_ble_eq_true hu.2)
          obtain ⟨hT, rfl⟩ := gTgt_ok ht
          rw [List.map_cons, List.map_cons, show gv B fv (.float u) = .ref a from ha, show gv B fv (.float w) = .ref a from (by show fv w.toNat = _; rw [← hq]; exact ha)]
          exact lv_acmp_eq (rx := some a) (ry := some a) hx hb hd hT (fun _ => k) (fun n => absurd rfl n)
      · cases h
    · cases h
  · unfold gNull at h
    split at h
    · cases h
      obtain ⟨hT, rfl⟩ := gTgt_ok ht
      exact lv_ifnullN hx hb hd hT k
    · cases h
      obtain ⟨hT, rfl⟩ := gTgt_ok ht
      exact lv_ifnull hx hb hd k
    · cases h
  · unfold gSw at h
    split at h
    · rename_i x r
      split at h
      · rename_i hc
        cases h
        obtain ⟨hT, rfl⟩ := gTgt_ok ht
        exact lv_tableOut hx hb hd (Or.inl hc) hT k
      · rename_i hc
        split at h
        · rename_i hc2
          cases h
          obtain ⟨hT, rfl⟩ := gTgt_ok ht
          exact lv_tableOut hx hb hd (Or.inr hc2) hT k
        · rename_i hc2
          split at h
          · cases h
          · rename_i of hof
            cases h
            obtain ⟨hT, rfl⟩ := gTgt_ok ht
            exact lv_tableIn hx hb hd hc hc2 (by rw [← Array.getElem?_toList]; exact hof) hT k
    · rename_i u r
      split at h
      · cases h
      · rename_i q hq
        obtain ⟨x, ex, x1, x2⟩ := hk u.toNat q hq
        rw [Int32.le_iff_toInt_le] at x1 x2
        rw [List.map_cons, show gv B fv (.float u) = .int x from ex]
        split at h
        · rename_i hc
          cases h
          obtain ⟨hT, rfl⟩ := gTgt_ok ht
          exact lv_tableOut hx hb hd (Or.inl (by omega)) hT k
        · split at h
          · rename_i hc2
            cases h
            obtain ⟨hT, rfl⟩ := gTgt_ok ht
            exact lv_tableOut hx hb hd (Or.inr (by omega)) hT k
          · cases h
    · cases h
  · cases h
end GBR
