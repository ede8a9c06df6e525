/-! ===== what must be known of a row, of a method ===== -/
abbrev gNms : List String := ["java/lang/RuntimeException", "java/lang/Exception"]
/-- a throw of class e at pc, with its text -/
def gTh (G : List Jvm.Cond) (S : gSt) (M : gM) (pc e : Nat) : Prop := ∃ (ik is ic : Nat) (text : String), (M.1.cls, is, text) ∈ S ∧ e < 3 ∧ M.2.2.2.2.1 = [] ∧ Bundle.fit (gXn e) = true ∧
  Jvm.Cond.classLink M.1.cls ik (gXn e) ∈ G ∧ Jvm.Cond.initialized (gXn e) ∈ G ∧ (∀ w ∈ vx_atS M.1.cls ic (gXn e) gNms, w ∈ G ∧ gStd w = true) ∧
  (∀ w ∈ Jvm.Cond.classLink M.1.cls ik (gXn e) :: Jvm.Cond.initialized (gXn e) :: vx_atS M.1.cls ic (gXn e) gNms, vx_ot w = true) ∧
  decode M.2.1 pc = .ok (.new ik, 3) ∧ decode M.2.1 (pc + 3) = .ok (.dup, 1) ∧
  ((decode M.2.1 (pc + 4) = .ok (.ldc is, 2) ∧ decode M.2.1 (pc + 6) = .ok (.invokespecial ic, 3) ∧ decode M.2.1 (pc + 9) = .ok (.athrow, 1)) ∨ (decode M.2.1 (pc + 4) = .ok (.ldc_w is, 3) ∧ decode M.2.1 (pc + 7) = .ok (.invokespecial ic, 3) ∧ decode M.2.1 (pc + 10) = .ok (.athrow, 1)))
/-- the word of a method's code -/
def gWord (N : gM) : Jvm.Cond := match N.2.2.2.2.1 with
  | [] => .code N.1 N.2.1 N.2.2.1 N.2.2.2.1
  | q :: t => .codeWith N.1 N.2.1 N.2.2.1 N.2.2.2.1 (q :: t)
def gNoMH (s : String) : Prop := s ≠ "java/lang/invoke/MethodHandle" ∧ s ≠ "java/lang/invoke/VarHandle"
/-- what any call of N asks -/
def gCl (G : List Jvm.Cond) (N : gM) (n : Nat) : Prop := gWord N ∈ G ∧ Jvm.Cond.initialized N.1.cls ∈ G ∧ gNoMH N.1.cls ∧ (parseMethodDescriptor N.1.desc).map (fun d => d.parameters.length) = some n
/-- a call's links, by its kind -/
def gCOk (Q : List gQ) (G : List Jvm.Cond) (ms : List (List gM)) (y : MethodName) (ins : Instr) (h : List Nat) : Prop :=
  (h.headD 0 = 7 ∧ ∃ idx, ins = .invokespecial idx ∧ Jvm.Cond.methodLink y.cls idx Lib.objectInit ∈ G ∧ Jvm.Cond.instanceMethod Lib.objectInit ∈ G ∧ Jvm.Cond.code Lib.objectInit ⟨#[0xb1]⟩ 1 none ∈ G) ∨
  (h.headD 0 = 8 ∧ ∃ idx, ins = .invokestatic idx ∧ Jvm.Cond.methodLink y.cls idx Lib.Math.max.name ∈ G ∧ Jvm.Cond.static Lib.Math.max.name ∈ G ∧ Jvm.Cond.initialized "java/lang/Math" ∈ G ∧ Jvm.Cond.code Lib.Math.max.name Lib.Math.max.code 2 (some .int) ∈ G) ∨
  ∃ N, gMeth ms (h.getD 1 0) = some N ∧ gCl G N (h.getD 2 0) ∧
    ((h.headD 0 = 1 ∧ N.2.2.2.2.1 = [] ∧ ∃ idx, ins = .invokestatic idx ∧ Jvm.Cond.methodLink y.cls idx N.1 ∈ G ∧ Jvm.Cond.static N.1 ∈ G) ∨
     (h.headD 0 = 6 ∧ (∃ q t, N.2.2.2.2.1 = q :: t) ∧ ∃ idx, ins = .invokestatic idx ∧ Jvm.Cond.methodLink y.cls idx N.1 ∈ G ∧ Jvm.Cond.static N.1 ∈ G) ∨
     (h.headD 0 = 4 ∧ N.2.2.2.2.1 = [] ∧ ∃ idx host, ins = .invokestatic idx ∧ Jvm.Cond.methodLinkNest y.cls idx N.1 host ∈ G ∧ Jvm.Cond.static N.1 ∈ G) ∨
     (h.headD 0 = 2 ∧ N.2.2.2.2.1 = [] ∧ N.1.name = "<init>" ∧ N.2.2.2.1 = none ∧ ∃ idx, ins = .invokespecial idx ∧ Jvm.Cond.methodLink y.cls idx N.1 ∈ G ∧ Jvm.Cond.instanceMethod N.1 ∈ G) ∨
     (h.headD 0 = 0 ∧ N.2.2.2.2.1 = [] ∧ (∃ q : gQ, Q[h.getD 3 0]? = some q ∧ q.1.1 = N.1.cls) ∧ ∃ idx, ins = .invokevirtual idx ∧ Jvm.Cond.methodLink y.cls idx N.1 ∈ G ∧ Jvm.Cond.instanceMethod N.1 ∈ G ∧ Jvm.Cond.selects N.1.cls N.1 N.1 ∈ G) ∨
     (h.headD 0 = 3 ∧ N.2.2.2.2.1 = [] ∧ (∃ q : gQ, Q[h.getD 3 0]? = some q ∧ q.1.1 = N.1.cls) ∧ ∃ idx host, ins = .invokevirtual idx ∧ Jvm.Cond.methodLinkNest y.cls idx N.1 host ∈ G ∧ Jvm.Cond.instanceMethod N.1 ∈ G ∧ Jvm.Cond.selects N.1.cls N.1 N.1 ∈ G) ∨
     (h.headD 0 = 5 ∧ N.2.2.2.2.1 = [] ∧ N.1 = gIf3.2.2 ∧ (∃ q : gQ, Q[h.getD 3 0]? = some q ∧ q.1.1 = N.1.cls) ∧ ∃ idx, ins = .invokeinterface idx 1 ∧ Jvm.Cond.methodLink y.cls idx gIf3.2.1 ∈ G ∧ Jvm.Cond.instanceMethod N.1 ∈ G ∧ Jvm.Cond.selects N.1.cls gIf3.2.1 N.1 ∈ G))
def gEOk (Q : List gQ) (Z : gZ) (G : List Jvm.Cond) (S : gSt) (ms : List (List gM)) (M : gM) (e : gE) : Prop := decode M.2.1 e.1 = .ok (e.2.1, e.2.2.1) ∧ match e.2.2.2.2 with
  | .inl g => ∀ kk nL ls st, g kk nL ls st = gPure kk nL e.2.1 ls st
  | .inr (.inl g) => ∀ F st, g F st = gBr F e.2.2.1 e.2.1 st
  | .inr (.inr (.inl g)) => (∀ Q T Z w st, g Q T Z w st = gHeap Q T Z e.2.1 e.2.2.2.1 w st) ∧ gLk Q Z G M.1 e.2.1 e.2.2.2.1 ∧ (e.2.2.2.1.headD 0 < 1000 ∨ ∀ i, e.2.1 ≠ .new i) ∧ (e.2.2.2.1 ≠ [] ∨ ∀ i, e.2.1 ≠ .ldc i ∧ e.2.1 ≠ .ldc_w i)
  | .inr (.inr (.inr (.inl g))) => ∀ ret st, g ret st = true → gRetOk ret e.2.1 st = true
  | .inr (.inr (.inr (.inr true))) => gCOk Q G ms M.1 e.2.1 e.2.2.2.1
  | .inr (.inr (.inr (.inr false))) => gTh G S M e.1 ((e.2.2.2.1.headD 0 - 1000) % 10)
/-- the handlers' classes, for the methods with a table: all of one class -/
def gHok (G : List Jvm.Cond) (M : gM) (Y : List (Nat × Nat)) : Prop := ∀ q ∈ M.2.2.2.2.1, ∀ z, Y.lookup q.2.2.2 = some z → z < 3 ∧ ¬ q.2.2.2 = 0 ∧ Jvm.Cond.classLink M.1.cls q.2.2.2 (gXn z) ∈ G ∧ Jvm.Cond.castable (gXn z) (gXn z) ∈ G
def gMeOk (Q : List gQ) (Z : gZ) (G : List Jvm.Cond) (S : gSt) (ms : List (List gM)) (Y : List (Nat × Nat)) (M : gM) : Prop := (∀ e ∈ M.2.2.2.2.2, gEOk Q Z G S ms M e) ∧ plainName M.1.cls = true ∧ gHok G M Y
theorem gFind_ok {code : List gE} {pc : Nat} {q : gE × List gE} (h : gFind code pc = some q) : q.1 ∈ code ∧ q.1.1 = pc ∧ ∀ e ∈ q.2, e ∈ code := by
  induction code with
  | nil => cases h
  | cons a t ih =>
    unfold gFind at h
    cases hq : Nat.beq a.1 pc with
    | true =>
      rw [hq] at h
      cases h
      exact ⟨List.mem_cons_self, Nat.eq_of_beq_eq_true hq, fun e he => List.mem_cons_of_mem _ he⟩
    | false =>
      rw [hq] at h
      obtain ⟨h1, h2, h3⟩ := ih h
      exact ⟨List.mem_cons_of_mem _ h1, h2, fun e he => List.mem_cons_of_mem _ (h3 e he)⟩
theorem gSeek_ok {cs code : List gE} {pc : Nat} {q : gE × List gE} (hc : ∀ e ∈ cs, e ∈ code) (h : gSeek cs code pc = some q) : q.1 ∈ code ∧ q.1.1 = pc ∧ ∀ e ∈ q.2, e ∈ code := by
  unfold gSeek at h
  split at h
  · exact gFind_ok h
  · rename_i a t
    cases hq : Nat.beq a.1 pc with
    | true =>
      rw [hq] at h
      cases h
      exact ⟨hc _ List.mem_cons_self, Nat.eq_of_beq_eq_true hq, fun e he => hc _ (List.mem_cons_of_mem _ he)⟩
    | false =>
      rw [hq] at h
      exact gFind_ok h
/-! ===== a method on its way ===== -/
section GSN
variable (Q : List gQ) (G : List Jvm.Cond) (D : va_G) (cy : Nat → ClassId) (T : gT) (Z : gZ) (S : gSt) (B : Nat) (fv : Nat → Value) (H0 : Heap)
def gAv (M : gM) (p : Program) (l : Launch) (s : State) (m : MethodId) (meth : Method) (c : Code) : Prop :=
  p.tables.exec = Jvm.exec ∧ c.code = M.2.1 ∧ c.maxLocals = M.2.2.1 ∧ meth.sig.returnType = M.2.2.2.1 ∧ s.vm.findClass M.1.cls = some m.cls ∧ meth.name = M.1.name ∧ c.exceptionTable.toList = tableOf M.2.2.2.2.1 ∧ meth.locks = false ∧
  gCs Q G D cy T Z S B fv H0 s ∧ (∀ q : Nat, q < B → s.heap[q]? = H0[q]?) ∧ l.stackTraces = false
/-- where it goes on: its end, its own throw, another's throw that it doesn't catch -/
def gKr (M : gM) (p : Program) (l : Launch) (e : Env) (R : Room) (s : State) (m : MethodId) (args : Array Value) (below : List Frame) (meth : Method) (c : Code) (P : State → Prop) (tag pcR : Nat) (vs : List Value) (w' : gW) (kc' ks' : Nat) : Prop :=
  ∀ (H' : Heap) (locs' : List Loc) (ls' : Array Slot), (∀ q ∈ locs', B ≤ q.base) → ls'.size = c.maxLocals →
    (tag = 0 → gHp Q D cy B fv H0 w' H' → (∃ ins, decode M.2.1 pcR = .ok (ins, 1) ∧ gRetOk M.2.2.2.1 ins vs = true) → W p l e R s m args below meth c H' locs' kc' ks' P (F0 m pcR ls' (vs.map (gv B fv)))) ∧
    (∀ (w0 : gW) (kc0 ks0 eh : Nat), eh < 10 → tag = 1 + eh → w' = w0 ++ [(7, [])] → kc' = kc0 + 1 → ks' = ks0 + 6 → gHp Q D cy B fv H0 w0 H' → gTh G S M pcR eh → gSum vs ≤ 8 → 6 ≤ R.frames → 90 ≤ R.locals → W p l e R s m args below meth c H' locs' kc0 ks0 P (F0 m pcR ls' (vs.map (gv B fv)))) ∧
    (∀ (eh q : Nat) (ce : Cell), eh < 10 → tag = 11 + eh → gHp Q D cy B fv H0 w' H' → H'[q]? = some ce → ce.vm = .none → s.vm.findClass (gXn eh) = some ce.cls → M.2.2.2.2.1 = [] → vx_W p l e R s m args below meth c H' locs' kc' ks' P (F0 m pcR ls' (vs.map (gv B fv))) q)
def gSnd (X : gX) (n : Nat) : Prop := ∀ (M : gM), gMeOk Q Z G S X.1 X.2.2.2.2.2.2 M → ∀ (cs : List gE), (∀ e ∈ cs, e ∈ M.2.2.2.2.2) → ∀ (pc : Nat) (l1 : gL) (st : List Value) (w : gW) (f L kc ks tag pcR : Nat) (vs : List Value) (w' : gW) (kc' ks' : Nat), ex X n M cs pc l1 st w f L kc ks = some (tag, pcR, vs, w', kc', ks') →
  kc ≤ kc' ∧ ks ≤ ks' ∧ (tag = 0 → vs.length ≤ 1) ∧ ∀ (p : Program) (l : Launch) (e : Env) (R : Room) (s : State) (m : MethodId) (args : Array Value) (below : List Frame) (meth : Method) (c : Code) (P : State → Prop) (H : Heap) (locs : List Loc) (ls : Array Slot),
    gAv Q G D cy T Z S B fv H0 M p l s m meth c → R.frames = f → R.locals = L → kc' ≤ R.cells → ks' ≤ R.slots → lv_has ls M.2.2.1 (gls B fv l1) → gHp Q D cy B fv H0 w H → (∀ q ∈ locs, B ≤ q.base) →
    gKr Q G D cy S B fv H0 M p l e R s m args below meth c P tag pcR vs w' kc' ks' → W p l e R s m args below meth c H locs kc ks P (F0 m pc ls (st.map (gv B fv)))
/-- a method's start, by its arguments and cells -/
def gPc (as : List Value) (w : gW) : Array Value → State → Prop := fun av U => av = (as.map (gv B fv)).toArray ∧ gCs Q G D cy T Z S B fv H0 U ∧ gHp Q D cy B fv H0 w U.heap
def gQc (tag : Nat) (vs : List Value) (w' : gW) : Array Value → State → Outcome → State → Prop := fun _ _ o t => tag = 0 ∧ o = .returned (vs.map (gv B fv)).head? ∧ gHp Q D cy B fv H0 w' t.heap
def gXC (tag : Nat) (w' : gW) : String → State → State → Prop := fun E _ t => ¬ tag = 0 ∧ E = gXn ((tag - 1) % 10) ∧ gHp Q D cy B fv H0 w' t.heap
def gRoom (f L mc ms : Nat) : Room := { frames := f, cells := mc, slots := ms, locals := L }
end GSN
theorem gSum_eq (st : List Value) : gSum st = (st.map fun v => v.category).sum := by
  induction st with
  | nil => rfl
  | cons v t ih => unfold gSum; rw [ih]; rfl
theorem gSum_gv {B : Nat} {fv : Nat → Value} (hf : gFv fv) (st : List Value) : ((st.map (gv B fv)).map fun v => v.category).sum = gSum st := by
  rw [gSum_eq, List.map_map]
  congr 1
  apply List.map_congr_left
  intro v _
  exact gv_cat hf v
theorem gSl_len (vs : List Value) : (lg_sl vs).length = gSum vs := by
  induction vs with
  | nil => rfl
  | cons v t ih =>
    unfold lg_sl at ih ⊢
    rw [List.flatMap_cons, List.length_append, ih]
    show _ = v.category + gSum t
    congr 1
    rcases lv_cat v with h | h <;> rw [h] <;> rfl
theorem gArgs_gv {B : Nat} {fv : Nat → Value} (hf : gFv fv) : ∀ (vs : List Value) (i : Nat), lv_args i (vs.map (gv B fv)) = gls B fv (lv_args i vs)
  | [], _ => rfl
  | v :: t, i => by
    show (i, gv B fv v) :: lv_args _ (t.map (gv B fv)) = (i, gv B fv v) :: gls B fv (lv_args _ t)
    rw [gv_cat hf, gArgs_gv hf t]
theorem W.grown {p : Program} {l : Launch} {e : Env} {R : Room} {s : State} {m : MethodId} {args : Array Value} {below : List Frame} {meth : Method} {c : Code} {H : Heap} {locs : List Loc} {cells slots : Nat} {P : State → Prop} {g : JFrame} (h : s.heap.size ≤ H.size → W p l e R s m args below meth c H locs cells slots P g) : W p l e R s m args below meth c H locs cells slots P g :=
  fun T hT X => h (by rw [← hT]; exact X.heapGrown) T hT X
