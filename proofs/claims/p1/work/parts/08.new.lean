/-! ===== stores, new objects and arrays, statics, constants ===== -/
/-- 'new' of class ci by own's entry idx -/
def gNOk (Q : List gQ) (G : List Jvm.Cond) (own : String) (idx ci : Nat) : Prop := ∃ q : gQ, Q[ci]? = some q ∧ Jvm.Cond.classLink own idx q.1.1 ∈ G ∧ Jvm.Cond.instantiable q.1.1 q.1.2.2 ∈ G ∧ Jvm.Cond.initialized q.1.1 ∈ G ∧ ∀ k, k < q.1.2.2 → gFix (defaultValue (q.2 k)) = true
/-- 'anewarray', to an array of tag t -/
def gAOk (G : List Jvm.Cond) (own : String) (idx t : Nat) : Prop := (∃ ty, t = 4 ∧ ty = FieldType.int ∧ Jvm.Cond.classLink own idx (FieldType.array ty).toString ∈ G ∧ Jvm.Cond.arrayOver (.array ty) ∈ G) ∨ (∃ C : String, t = 6 ∧ C = "java/lang/Object" ∧ Jvm.Cond.classLink own idx C ∈ G ∧ Jvm.Cond.arrayOver (.object C) ∈ G)
/-- 'multianewarray' of two dimensions, to an array of tag t -/
def gMOk (G : List Jvm.Cond) (own : String) (idx t : Nat) : Prop := ∃ ty, ((t = 4 ∧ ty = FieldType.int) ∨ (t = 5 ∧ ty = FieldType.boolean)) ∧ Jvm.Cond.classLink own idx ("[" ++ (FieldType.array ty).toString) ∈ G ∧ Jvm.Cond.arrayOver (.array ty) ∈ G ∧ Jvm.Cond.arrayClass ty ∈ G
/-- 'getstatic' of the j-th static -/
def gSOk (Z : gZ) (G : List Jvm.Cond) (own : String) (idx j : Nat) : Prop := ∃ (q : String × String × String × Value) (ref : String), Z[j]? = some q ∧ Jvm.Cond.fieldLink own idx ref q.2.1 q.2.2.1 ∈ G ∧ ref = q.1
def gNew (Q : List gQ) (ci : Nat) (w : gW) (st : List Value) : gO := match Q[ci]? with
  | none => none
  | some q => some (3, w ++ [(ci + 8, (List.range q.1.2.2).map (fun k => defaultValue (q.2 k)))], .ref w.length :: st, 1, q.1.2.2)
def gNewa (a : ArrayType) (w : gW) (st : List Value) : gO := match st with
  | .int n :: r => if n < 0 then none else bif Nat.ble n.toNatClampNeg 1000 then (match a with
    | .int => some (2, w ++ [(0, List.replicate n.toNatClampNeg (.int 0))], .ref w.length :: r, 1, n.toNatClampNeg)
    | .boolean => some (2, w ++ [(1, List.replicate n.toNatClampNeg (.int 0))], .ref w.length :: r, 1, n.toNatClampNeg)
    | .long => some (2, w ++ [(2, List.replicate n.toNatClampNeg (.long 0))], .ref w.length :: r, 1, n.toNatClampNeg)
    | .double => some (2, w ++ [(3, List.replicate n.toNatClampNeg (.double 0))], .ref w.length :: r, 1, n.toNatClampNeg)
    | _ => none) else none
  | _ => none
def gAnew (t : Nat) (w : gW) (st : List Value) : gO := match st with
  | .int n :: r => if n < 0 then none else bif Nat.ble n.toNatClampNeg 1000 then some (3, w ++ [(t, List.replicate n.toNatClampNeg .null)], .ref w.length :: r, 1, n.toNatClampNeg) else none
  | _ => none
def gMna (t : Nat) (w : gW) (st : List Value) : gO := match st with
  | .int k :: .int n :: r => if k < 0 then none else if n < 0 then none else bif Nat.ble n.toNatClampNeg 1000 && Nat.ble k.toNatClampNeg 1000 then
      some (4, w ++ ((t, (List.range n.toNatClampNeg).map (fun i => Value.ref (w.length + 1 + i))) :: List.replicate n.toNatClampNeg (t - 4, List.replicate k.toNatClampNeg (.int 0))), .ref w.length :: r, 1 + n.toNatClampNeg, n.toNatClampNeg + n.toNatClampNeg * k.toNatClampNeg) else none
  | _ => none
theorem g_rep {B : Nat} {fv : Nat → Value} {N : Nat} {v : Value} (hv : gFix v = true) (c : ClassId) : arrV c N (fun _ => v) = arrV c (List.replicate N v).length (fun j => gv B fv ((List.replicate N v).getD j .null)) := by
  rw [List.length_replicate]
  unfold arrV
  congr 1
  congr 1
  funext j
  show v = gv B fv ((List.replicate N v).getD j.val .null)
  rw [List.getD_eq_getElem?_getD, List.getElem?_replicate, if_pos j.isLt]
  exact (gFix_ok hv).symm
section GNW
variable {p : Program} {l : Launch} {e : Env} {R : Room} {s : State} {m : MethodId} {args : Array Value} {below : List Frame} {meth : Method} {c : Code} {H : Heap} {locs : List Loc} {cells slots : Nat} {P : State → Prop}
variable {cc : ByteArray} {pc : Nat} {ls : Array Slot} {B : Nat} {fv : Nat → Value} {Q : List gQ} {G : List Jvm.Cond} {D : va_G} {cy : Nat → ClassId} {H0 : Heap} {own : String} {w : gW} {rest : List Value} {T : gT} {Z : gZ}
theorem g_new (hx : p.tables.exec = Jvm.exec) (hb : c.code = cc) (hown : s.vm.findClass own = some m.cls) (hC : gCt Q G D cy s) (hQ : gQok Q G) (hP : gHp Q D cy B fv H0 w H) {idx ci n dc ds : Nat} {w2 : gW} {st st2 : List Value} (h : gNew Q ci w st = some (n, w2, st2, dc, ds)) (hN : gNOk Q G own idx ci) (hd : decode cc pc = .ok (.new idx, n)) (hcl : cells + dc ≤ R.cells) (hsl : slots + ds ≤ R.slots)
    (hL : ∀ q ∈ locs, B ≤ q.base) (kk : ∀ (H1 : Heap) (locs1 : List Loc), gHp Q D cy B fv H0 w2 H1 → (∀ q ∈ locs1, B ≤ q.base) → W p l e R s m args below meth c H1 locs1 (cells + dc) (slots + ds) P (F0 m (pc + n) ls (st2.map (gv B fv)))) : W p l e R s m args below meth c H locs cells slots P (F0 m pc ls (st.map (gv B fv))) := by
  obtain ⟨q, hq, hl, hi, hini, hfx⟩ := hN
  unfold gNew at h
  rw [hq] at h
  cases h
  obtain ⟨hin, hty, -⟩ := hQ ci q hq
  have hKn := hC.2.1 ci q hq
  have hts : ∀ w ∈ u_ws q.1.1 q.1.2.1 q.1.2.2, w.before args s = true := fun w hw => hC.1 w (hin w hw) (by obtain ⟨j, -, rfl⟩ := List.mem_map.mp hw; unfold u_lay; split <;> rfl) args
  refine W.newcK hx hb hown (hC.1 _ hl rfl args) (hC.1 _ hi rfl args) (hC.1 _ hini rfl args) rfl hd hcl hsl hKn.2.1 rfl fun H1 kC hkC g1 g2 g3 => ?_
  have hB := u_born q.2 hts (fun _ h => h) hKn hkC g1 hty
  have hpush := hP.push (d := (ci + 8, (List.range q.1.2.2).map (fun k => defaultValue (q.2 k)))) ⟨fun h => absurd h (by omega), fun ci' q2 h1 h2 => by
    have e9 : ci' = ci := by omega
    subst e9
    cases h2.symm.trans hq
    refine hB.to fun k hk => ?_
    rw [List.getD_eq_getElem?_getD, List.getElem?_map, List.getElem?_range hk]
    exact (gFix_ok (hfx k hk)).symm⟩ g2 g3
  have k1 := kk H1 locs hpush hL
  rw [List.map_cons, show gv B fv (.ref w.length) = .ref H.size from congrArg Value.ref hP.1.symm] at k1
  exact k1
theorem g_newa (hx : p.tables.exec = Jvm.exec) (hb : c.code = cc) (hC : gCt Q G D cy s) (hP : gHp Q D cy B fv H0 w H) (hG : ∀ ty ∈ [FieldType.int, .boolean, .long, .double], Jvm.Cond.arrayClass ty ∈ G) {a : ArrayType} {n dc ds : Nat} {w2 : gW} {st st2 : List Value} (h : gNewa a w st = some (n, w2, st2, dc, ds)) (hd : decode cc pc = .ok (.newarray a, n)) (hcl : cells + dc ≤ R.cells) (hsl : slots + ds ≤ R.slots)
    (hL : ∀ q ∈ locs, B ≤ q.base) (kk : ∀ (H1 : Heap) (locs1 : List Loc), gHp Q D cy B fv H0 w2 H1 → (∀ q ∈ locs1, B ≤ q.base) → W p l e R s m args below meth c H1 locs1 (cells + dc) (slots + ds) P (F0 m (pc + n) ls (st2.map (gv B fv)))) : W p l e R s m args below meth c H locs cells slots P (F0 m pc ls (st.map (gv B fv))) := by
  unfold gNewa at h
  split at h
  · rename_i n9 r
    split at h
    · cases h
    · rename_i hn
      cases hi : Nat.ble n9.toNatClampNeg 1000 with
      | false => rw [hi] at h; cases h
      | true =>
        rw [hi] at h
        dsimp only [cond_true] at h
        have hle := Nat.le_of_ble_eq_true hi
        have go : ∀ (ty : FieldType) (t : Nat) (v : Value), newarray.typeOf a = ty → gAty[t]? = some ty → t < 7 → defaultValue ty = v → gFix v = true → n9.toNatClampNeg * componentBytes ty ≤ 536870912 → Jvm.Cond.arrayClass ty ∈ G →
            some (2, w ++ [(t, List.replicate n9.toNatClampNeg v)], Value.ref w.length :: r, 1, n9.toNatClampNeg) = some (n, w2, st2, dc, ds) → W p l e R s m args below meth c H locs cells slots P (F0 m pc ls ((Value.int n9 :: r).map (gv B fv))) := by
          intro ty t v h1 h2 ht h3 hv h4 h5 h6
          cases h6
          refine va_newaK hx hb (by rw [h1]; exact hC.1 _ h5 rfl args) rfl hd rfl hn rfl (by rw [h1]; exact h4) hcl hsl rfl fun H1 cA e1 e2 e3 e4 e5 => ?_
          rw [h1] at e1 e5
          have ec : cA = cy t := Option.some.inj (e5.symm.trans (hC.2.2.1 t ty h2).2)
          subst ec
          have hpush := hP.push (d := (t, List.replicate n9.toNatClampNeg v)) ⟨fun _ => by rw [e1, h3]; exact congrArg some (g_rep hv _), fun ci q9 h9 => absurd h9 (by show ¬ t = ci + 8; omega)⟩ e2 e3
          have k1 := kk H1 locs hpush hL
          rw [List.map_cons, show gv B fv (.ref w.length) = .ref H.size from congrArg Value.ref hP.1.symm] at k1
          exact k1
        split at h
        · exact go .int 0 (.int 0) rfl rfl (by decide) rfl rfl (by show _ * 4 ≤ _; omega) (hG _ (by simp)) h
        · exact go .boolean 1 (.int 0) rfl rfl (by decide) rfl rfl (by show _ * 1 ≤ _; omega) (hG _ (by simp)) h
        · exact go .long 2 (.long 0) rfl rfl (by decide) rfl rfl (by show _ * 8 ≤ _; omega) (hG _ (by simp)) h
        · exact go .double 3 (.double 0) rfl rfl (by decide) rfl rfl (by show _ * 8 ≤ _; omega) (hG _ (by simp)) h
        · cases h
  · cases h
theorem g_anew (hx : p.tables.exec = Jvm.exec) (hb : c.code = cc) (hown : s.vm.findClass own = some m.cls) (hC : gCt Q G D cy s) (hP : gHp Q D cy B fv H0 w H) {idx t n dc ds : Nat} {w2 : gW} {st st2 : List Value} (h : gAnew t w st = some (n, w2, st2, dc, ds)) (hA : gAOk G own idx t) (hd : decode cc pc = .ok (.anewarray idx, n)) (hcl : cells + dc ≤ R.cells) (hsl : slots + ds ≤ R.slots)
    (hL : ∀ q ∈ locs, B ≤ q.base) (kk : ∀ (H1 : Heap) (locs1 : List Loc), gHp Q D cy B fv H0 w2 H1 → (∀ q ∈ locs1, B ≤ q.base) → W p l e R s m args below meth c H1 locs1 (cells + dc) (slots + ds) P (F0 m (pc + n) ls (st2.map (gv B fv)))) : W p l e R s m args below meth c H locs cells slots P (F0 m pc ls (st.map (gv B fv))) := by
  unfold gAnew at h
  split at h
  · rename_i n9 r
    split at h
    · cases h
    · rename_i hn
      cases hi : Nat.ble n9.toNatClampNeg 1000 with
      | false => rw [hi] at h; cases h
      | true =>
        rw [hi] at h
        cases h
        have hle := Nat.le_of_ble_eq_true hi
        have go : ∀ (ty : FieldType) (cA : ClassId), gAty[t]? = some ty → t < 7 → s.vm.findClass ("[" ++ ty.toString) = some cA → W p l e R s m args below meth c (H.push { cls := cA, slots := Array.replicate n9.toNatClampNeg .null, vm := .none }) locs (cells + 1) (slots + n9.toNatClampNeg) P (F0 m (pc + 3) ls (.ref H.size :: r.map (gv B fv))) := by
          intro ty cA h2 ht e5
          have ec : cA = cy t := Option.some.inj (e5.symm.trans (hC.2.2.1 t ty h2).2)
          subst ec
          have hpush := hP.push (H1 := H.push { cls := cy t, slots := Array.replicate n9.toNatClampNeg .null, vm := .none }) (d := (t, List.replicate n9.toNatClampNeg .null)) ⟨fun _ => by rw [arrV_new, Array.getElem?_push_size]; exact congrArg some (g_rep rfl _), fun ci q9 h9 => absurd h9 (by show ¬ t = ci + 8; omega)⟩ (Array.size_push _) (fun q hq => Array.getElem?_push_lt hq ▸ (Array.getElem?_eq_getElem hq).symm ▸ rfl)
          have k1 := kk _ locs hpush hL
          rw [List.map_cons, show gv B fv (.ref w.length) = .ref H.size from congrArg Value.ref hP.1.symm] at k1
          exact k1
        rcases hA with ⟨ty, rfl, rfl, hl, ho⟩ | ⟨C, rfl, rfl, hl, ho⟩
        · exact W.anewA hx hb hown (hC.1 _ hl rfl args) (hC.1 _ ho rfl args) rfl hd rfl hn (by omega) hcl hsl fun cA kA comp f1 f2 f3 f4 => go (.array .int) cA rfl (by decide) f1
        · exact W.anew hx hb hown (hC.1 _ hl rfl args) (hC.1 _ ho rfl args) rfl hd rfl hn (by omega) hcl hsl fun cA kA comp f1 f2 f3 f4 => go (.object "java/lang/Object") cA rfl (by decide) f1
  · cases h
end GNW
