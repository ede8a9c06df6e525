/-! ===== one heap row, by the instruction ===== -/
def gGetf (ci k : Nat) (w : gW) (st : List Value) : gO := match st with
  | .ref a :: r => match w[a]? with
    | none => none
    | some c => bif Nat.beq c.1 (ci + 8) then (match c.2[k]? with
      | none => none
      | some v => some (3, w, v :: r, 0, 0)) else none
  | _ => none
def gPutf (Q : List gQ) (ci k : Nat) (w : gW) (st : List Value) : gO := match st with
  | v :: .ref a :: r => match w[a]? with
    | none => none
    | some c => match Q[ci]? with
      | none => none
      | some q => bif Nat.beq c.1 (ci + 8) && (Nat.ble (k + 1) c.2.length && gFit (q.2 k) v) then some (3, w.set a (ci + 8, c.2.set k v), r, 0, 0) else none
  | _ => none
def gHeap (Q : List gQ) (T : gT) (Z : gZ) (ins : Instr) (h : List Nat) (w : gW) (st : List Value) : gO := match ins with
  | .getfield _ => gGetf (h.headD 0) (h.getD 1 0) w st
  | .putfield _ => gPutf Q (h.headD 0) (h.getD 1 0) w st
  | .new _ => gNew Q (h.headD 0) w st
  | .newarray a => gNewa a w st
  | .anewarray _ => gAnew (h.headD 0) w st
  | .multianewarray _ _ => gMna (h.headD 0) w st
  | .arraylength => gLen T w st
  | .iaload => gLoad T 0 w st
  | .laload => gLoad T 2 w st
  | .daload => gLoad T 3 w st
  | .aaload => gLoad T 4 w st
  | .iastore => gStore 0 w st
  | .lastore => gStore 2 w st
  | .dastore => gStore 3 w st
  | .aastore => gStore 6 w st
  | .getstatic _ => match Z[h.headD 0]? with
    | none => none
    | some q => some (3, w, q.2.2.2 :: st, 0, 0)
  | .ldc_w _ => some (3, w, .int (Int32.ofNat (h.headD 0)) :: st, 0, 0)
  | .ldc _ => some (2, w, .int (Int32.ofNat (h.headD 0)) :: st, 0, 0)
  | .ldc2_w _ => some (3, w, .long (Int64.ofNat (h.headD 0)) :: st, 0, 0)
  | _ => none
/-- what a row's links must be, by its class and name -/
def gLk (Q : List gQ) (Z : gZ) (G : List Jvm.Cond) (y : MethodName) (ins : Instr) (h : List Nat) : Prop := match ins with
  | .getfield idx => gFOk Q G y.cls idx (h.headD 0) (h.getD 1 0)
  | .putfield idx => gFOkP Q G y.cls y.name idx (h.headD 0) (h.getD 1 0)
  | .new idx => h.headD 0 < 1000 → gNOk Q G y.cls idx (h.headD 0)
  | .anewarray idx => gAOk G y.cls idx (h.headD 0)
  | .multianewarray idx d => d = 2 ∧ gMOk G y.cls idx (h.headD 0)
  | .getstatic idx => gSOk Z G y.cls idx (h.headD 0)
  | .ldc idx => h ≠ [] → Jvm.Cond.constant y.cls idx (Int32.ofNat (h.headD 0)) ∈ G
  | .ldc_w idx => h ≠ [] → Jvm.Cond.constant y.cls idx (Int32.ofNat (h.headD 0)) ∈ G
  | .ldc2_w idx => Jvm.Cond.constantLong y.cls idx (Int64.ofNat (h.headD 0)) ∈ G
  | _ => True
/-- the words that every row asks -/
def gBase (G : List Jvm.Cond) : Prop := (∀ ty ∈ [FieldType.int, .boolean, .long, .double], Jvm.Cond.arrayClass ty ∈ G) ∧ Jvm.Cond.castable "[I" "java/lang/Object" ∈ G
section GHE
variable {p : Program} {l : Launch} {e : Env} {R : Room} {s : State} {m : MethodId} {args : Array Value} {below : List Frame} {meth : Method} {c : Code} {H : Heap} {locs : List Loc} {cells slots : Nat} {P : State → Prop}
variable {cc : ByteArray} {pc : Nat} {ls : Array Slot} {B : Nat} {fv : Nat → Value} {Q : List gQ} {G : List Jvm.Cond} {D : va_G} {cy : Nat → ClassId} {H0 : Heap} {w : gW} {T : gT} {Z : gZ}
theorem heap_ok (hx : p.tables.exec = Jvm.exec) (hb : c.code = cc) (hf : gFv fv) {y : MethodName} (hown : s.vm.findClass y.cls = some m.cls) (hnm : meth.name = y.name) (hC : gCt Q G D cy s) (hQ : gQok Q G) (hG : gBase G) (hK : gKt T Z B fv H0 s) (hBs : s.heap.size ≤ H.size) (hs0 : ∀ q : Nat, q < B → s.heap[q]? = H0[q]?) (hP : gHp Q D cy B fv H0 w H) (hL : ∀ q ∈ locs, B ≤ q.base)
    {ins : Instr} {hh : List Nat} {n dc ds : Nat} {w2 : gW} {st st2 : List Value} (h : gHeap Q T Z ins hh w st = some (n, w2, st2, dc, ds)) (hl : gLk Q Z G y ins hh) (hlt : hh.headD 0 < 1000 ∨ ∀ i, ins ≠ .new i) (hhe : hh ≠ [] ∨ ∀ i, ins ≠ .ldc i ∧ ins ≠ .ldc_w i) (hd : decode cc pc = .ok (ins, n)) (hcl : cells + dc ≤ R.cells) (hsl : slots + ds ≤ R.slots)
    (kk : ∀ (H1 : Heap) (locs1 : List Loc), gHp Q D cy B fv H0 w2 H1 → (∀ q ∈ locs1, B ≤ q.base) → W p l e R s m args below meth c H1 locs1 (cells + dc) (slots + ds) P (F0 m (pc + n) ls (st2.map (gv B fv)))) :
    W p l e R s m args below meth c H locs cells slots P (F0 m pc ls (st.map (gv B fv))) := by
  unfold gHeap at h
  split at h
  · unfold gGetf at h
    split at h
    · rename_i a r
      split at h
      · cases h
      · rename_i q hq
        cases hi : Nat.beq q.1 (hh.headD 0 + 8) with
        | false => rw [hi] at h; cases h
        | true =>
          rw [hi] at h
          dsimp only [cond_true] at h
          split at h
          · cases h
          · rename_i v hv
            cases h
            obtain ⟨t, vs⟩ := q
            have e1 : t = hh.headD 0 + 8 := Nat.eq_of_beq_eq_true hi
            subst e1
            exact g_getf hx hb hown hC hQ hP hl hq hv hd (kk H locs hP hL)
    · cases h
  · unfold gPutf at h
    split at h
    · rename_i v a r
      split at h
      · cases h
      · rename_i q hq
        split at h
        · cases h
        · rename_i z hz
          cases hi : Nat.beq q.1 (hh.headD 0 + 8) && (Nat.ble (hh.getD 1 0 + 1) q.2.length && gFit (z.2 (hh.getD 1 0)) v) with
          | false => rw [hi] at h; cases h
          | true =>
            rw [hi] at h
            cases h
            rw [Bool.and_eq_true, Bool.and_eq_true] at hi
            obtain ⟨t, vs⟩ := q
            have e1 : t = hh.headD 0 + 8 := Nat.eq_of_beq_eq_true hi.1
            subst e1
            exact g_putf hx hb hf hown hC hQ hP hL hnm hl hz hq (Nat.le_of_ble_eq_true hi.2.1) hi.2.2 hd (fun H1 locs1 h1 h2 => kk H1 locs1 h1 h2)
    · cases h
  · rename_i idx
    exact g_new hx hb hown hC hQ hP h (hl (hlt.elim id (fun h9 => absurd rfl (h9 idx)))) hd hcl hsl hL kk
  · exact g_newa hx hb hC hP hG.1 h hd hcl hsl hL kk
  · exact g_anew hx hb hown hC hP h hl hd hcl hsl hL kk
  · obtain ⟨rfl, hl⟩ := hl
    exact g_mna hx hb hown hC hP h hl hd hcl hsl hL kk
  · exact g_len hx hb hC hK hP h hd hL kk
  · exact g_load hx hb hC hK hP h (Or.inl ⟨rfl, hd⟩) hL kk
  · exact g_load hx hb hC hK hP h (Or.inr (Or.inl ⟨rfl, hd⟩)) hL kk
  · exact g_load hx hb hC hK hP h (Or.inr (Or.inr (Or.inl ⟨rfl, hd⟩))) hL kk
  · exact g_load hx hb hC hK hP h (Or.inr (Or.inr (Or.inr ⟨rfl, hd⟩))) hL kk
  · exact g_store hx hb hf hC hK hP hL hG.2 h (Or.inl ⟨rfl, hd⟩) kk
  · exact g_store hx hb hf hC hK hP hL hG.2 h (Or.inr (Or.inl ⟨rfl, hd⟩)) kk
  · exact g_store hx hb hf hC hK hP hL hG.2 h (Or.inr (Or.inr (Or.inl ⟨rfl, hd⟩))) kk
  · exact g_store hx hb hf hC hK hP hL hG.2 h (Or.inr (Or.inr (Or.inr ⟨rfl, hd⟩))) kk
  · split at h
    · cases h
    · rename_i q hq
      cases h
      obtain ⟨q', ref, hq', hl1, rfl⟩ := hl
      cases hq'.symm.trans hq
      have hZ : va_Z q.1 q.2.1 q.2.2.1 (gv B fv q.2.2.2) (gA B) s s.heap := (hK.2.1 _ _ hq).kept (fun a _ ha => hs0 a (Nat.lt_of_not_le ha))
      exact va_gets hx hb (A := gA B) hZ ⟨hBs, fun q _ hq => by have h9 : q < B := Nat.lt_of_not_le hq; rw [hs0 q h9]; exact hP.2.1 q h9, hL⟩ hown (hC.1 _ hl1 rfl args) (fun _ h => h) hd (kk H locs hP hL)
  · cases h
    rename_i idx
    exact lv_ldcw hx hb hown (hC.1 _ (hl (hhe.elim id (fun h9 => absurd rfl (h9 idx).2))) rfl args) hd (kk H locs hP hL)
  · cases h
    rename_i idx
    exact lv_ldc hx hb hown (hC.1 _ (hl (hhe.elim id (fun h9 => absurd rfl (h9 idx).1))) rfl args) hd (kk H locs hP hL)
  · cases h
    exact lv_ldc2 hx hb hown (hC.1 _ hl rfl args) hd (kk H locs hP hL)
  · cases h
end GHE
/-! ===== the interpreter itself ===== -/
/-- what a row does, ready made: on stack and locals; a jump; on the heap; an end; a call (true) or a throw (false) -/
abbrev gAct : Type := (Int32 → Nat → gL → List Value → gP) ⊕ ((gF → List Value → gB) ⊕ ((List gQ → gT → gZ → gW → List Value → gO) ⊕ ((Option FieldType → List Value → Bool) ⊕ Bool)))
/-- a row: pc, instruction, length, hints, what it does -/
abbrev gE : Type := Nat × Instr × Nat × List Nat × gAct
abbrev gH : Type := List (Nat × Nat × Nat × Nat)
abbrev gM : Type := MethodName × ByteArray × Nat × Option FieldType × gH × List gE
abbrev gRes : Type := Option (Nat × Nat × List Value × gW × Nat × Nat)
/-- method, the rows from here (a guess), pc, locals, stack, cells, frames and words left, cells and slots so far -/
abbrev gRec : Type := gM → List gE → Nat → gL → List Value → gW → Nat → Nat → Nat → Nat → gRes
/-- the methods (by sixteen), the classes, the tables that were there, the statics, what is known of the ints, script[0] & 31, the handlers' classes -/
abbrev gX : Type := List (List gM) × List gQ × gT × gZ × gF × Int32 × List (Nat × Nat)
def gFind (code : List gE) (pc : Nat) : Option (gE × List gE) := match code with
  | [] => none
  | q :: t => bif Nat.beq q.1 pc then some (q, t) else gFind t pc
def gSeek (cs code : List gE) (pc : Nat) : Option (gE × List gE) := match cs with
  | [] => gFind code pc
  | q :: t => bif Nat.beq q.1 pc then some (q, t) else gFind code pc
def gMeth (ms : List (List gM)) (k : Nat) : Option gM := match ms[k / 16]? with
  | none => none
  | some l => l[k % 16]?
def gRetOk (ret : Option FieldType) (ins : Instr) (st : List Value) : Bool := match st with
  | [] => (match ins with | .return_ => (match ret with | none => true | _ => false) | _ => false)
  | [v] => (match ins with
    | .ireturn => (match ret with | some .int => gIsI v | some .boolean => gFit .boolean v | _ => false)
    | .areturn => (match ret with | some (.object _) => gIsR v | some (.array _) => gIsR v | _ => false)
    | .lreturn => (match ret with | some .long => (match v with | .long _ => true | _ => false) | _ => false)
    | .dreturn => (match ret with | some .double => (match v with | .double _ => true | _ => false) | _ => false)
    | _ => false)
  | _ => false
def gSum (st : List Value) : Nat := match st with
  | [] => 0
  | v :: t => v.category + gSum t
/-- which row of the table takes class e at pc: the rows' classes by X -/
def gHand (X : List (Nat × Nat)) (hh : gH) (pc e : Nat) : Option Nat := match hh with
  | [] => none
  | q :: t => bif Nat.ble q.1 pc && Nat.ble (pc + 1) q.2.1 then (match X.lookup q.2.2.2 with
      | none => none
      | some z => bif Nat.beq z e then some q.2.2.1 else gHand X t pc e) else gHand X t pc e
def gAfter (rc : gRec) (X : gX) (M : gM) (cs : List gE) (pc len : Nat) (ls : gL) (rest : List Value) (f L kc ks : Nat) (r : gRes) : gRes := match r with
  | none => none
  | some z => match z.1 with
    | 0 => rc M cs (pc + len) ls (z.2.2.1 ++ rest) z.2.2.2.1 f L (kc + z.2.2.2.2.1) (ks + z.2.2.2.2.2)
    | t + 1 => match M.2.2.2.2.1 with
      | [] => some (11 + (t % 10), pc, rest, z.2.2.2.1, kc + z.2.2.2.2.1, ks + z.2.2.2.2.2)
      | _ :: _ => match gHand X.2.2.2.2.2.2 M.2.2.2.2.1 pc (t % 10) with
        | none => none
        | some h => match gFind M.2.2.2.2.2 h with
          | none => none
          | some e => match e.1.2.1 with
            | .astore_n i => bif Nat.beq e.1.2.2.1 1 && Nat.ble (i.val + 1) M.2.2.1 then rc M e.2 (h + 1) (gDel ls i.val) [] z.2.2.2.1 f L (kc + z.2.2.2.2.1) (ks + z.2.2.2.2.2) else none
            | .astore i => bif Nat.beq e.1.2.2.1 2 && Nat.ble (i + 1) M.2.2.1 then rc M e.2 (h + 2) (gDel ls i) [] z.2.2.2.1 f L (kc + z.2.2.2.2.1) (ks + z.2.2.2.2.2) else none
            | _ => none
/-- the callee's run: arguments all, as the callee's locals -/
def gEnter (rc : gRec) (N : gM) (as : List Value) (w : gW) (f L : Nat) : gRes :=
  bif Nat.ble 1 f && (Nat.ble (19 + N.2.2.1) L && Nat.ble (gSum as) N.2.2.1) then rc N N.2.2.2.2.2 0 (lv_args 0 as) [] w (f - 1) (L - (19 + N.2.2.1)) 0 0 else none
/-- calls: hints: kind, callee, number of arguments (without the receiver), the receiver's class -/
def gCall (rc : gRec) (X : gX) (M : gM) (cs : List gE) (pc len : Nat) (h : List Nat) (ls : gL) (st : List Value) (w : gW) (f L kc ks : Nat) : gRes :=
  bif Nat.beq (h.headD 0) 7 then (match st with
    | .ref _ :: r => bif Nat.ble 1 f && (Nat.ble (gSum r + 12) L && Nat.beq len 3) then rc M cs (pc + 3) ls r w f L kc ks else none
    | _ => none)
  else bif Nat.beq (h.headD 0) 8 then (match st with
    | .int y :: .int x :: r => bif Nat.ble 1 f && (Nat.ble (gSum r + 13) L && Nat.beq len 3) then rc M cs (pc + 3) ls (.int (if x < y then y else x) :: r) w f L kc ks else none
    | _ => none)
  else match gMeth X.1 (h.getD 1 0) with
  | none => none
  | some N => bif Nat.beq (h.headD 0) 1 || (Nat.beq (h.headD 0) 4 || Nat.beq (h.headD 0) 6) then
      (bif Nat.beq (st.take (h.getD 2 0)).length (h.getD 2 0) && (Nat.ble (gSum (st.drop (h.getD 2 0))) 8 && Nat.beq len 3) then gAfter rc X M cs pc len ls (st.drop (h.getD 2 0)) f L kc ks (gEnter rc N (st.take (h.getD 2 0)).reverse w f L) else none)
    else match st.drop (h.getD 2 0) with
      | .ref b :: r => match w[b]? with
        | none => none
        | some d => bif Nat.ble (gSum r) 8 && ((Nat.beq (h.headD 0) 2 || Nat.beq d.1 (h.getD 3 0 + 8)) && (bif Nat.beq (h.headD 0) 5 then Nat.beq len 5 else Nat.beq len 3)) then gAfter rc X M cs pc len ls r f L kc ks (gEnter rc N (.ref b :: (st.take (h.getD 2 0)).reverse) w f L) else none
      | _ => none
def gRun (rc : gRec) (X : gX) (M : gM) (pc : Nat) (ls : gL) (st : List Value) (w : gW) (f L kc ks : Nat) (e : gE) (cs : List gE) : gRes := match e.2.2.2.2 with
  | .inl g => match g X.2.2.2.2.2.1 M.2.2.1 ls st with
    | none => none
    | some z => bif Nat.beq e.2.2.1 z.1 then rc M cs (pc + z.1) z.2.1 z.2.2 w f L kc ks else none
  | .inr (.inl g) => match g X.2.2.2.2.1 st with
    | none => none
    | some z => bif Nat.beq e.2.2.1 z.1 then (match gTgt pc z.1 z.2.1 z.2.2.1 with
      | none => none
      | some t => rc M cs t ls z.2.2.2 w f L kc ks) else none
  | .inr (.inr (.inl g)) => match g X.2.1 X.2.2.1 X.2.2.2.1 w st with
    | none => none
    | some z => bif Nat.beq e.2.2.1 z.1 then rc M cs (pc + z.1) ls z.2.2.1 z.2.1 f L (kc + z.2.2.2.1) (ks + z.2.2.2.2) else none
  | .inr (.inr (.inr (.inl g))) => bif Nat.beq e.2.2.1 1 && g M.2.2.2.1 st then some (0, pc, st, w, kc, ks) else none
  | .inr (.inr (.inr (.inr true))) => gCall rc X M cs pc e.2.2.1 e.2.2.2.1 ls st w f L kc ks
  | .inr (.inr (.inr (.inr false))) => bif Nat.ble (gSum st) 8 && (Nat.ble 6 f && Nat.ble 90 L) then some (1 + (e.2.2.2.1.headD 0 - 1000) % 10, pc, st, w ++ [(7, [])], kc + 1, ks + 6) else none
def gStep (rc : gRec) (X : gX) (M : gM) (cs : List gE) (pc : Nat) (ls : gL) (st : List Value) (w : gW) (f L kc ks : Nat) : gRes := match gSeek cs M.2.2.2.2.2 pc with
  | none => none
  | some q => gRun rc X M pc ls st w f L kc ks q.1 q.2
noncomputable def ex (X : gX) (n : Nat) : gRec := Nat.rec (motive := fun _ => gRec) (fun _ _ _ _ _ _ _ _ _ _ => none) (fun _ ih => gStep ih X) n
theorem ex_s (X : gX) (n : Nat) : ex X (n + 1) = gStep (ex X n) X := rfl
