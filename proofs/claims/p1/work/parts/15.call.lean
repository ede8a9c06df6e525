/-! ===== calls ===== -/
section GCL
variable {Q : List gQ} {G : List Jvm.Cond} {D : va_G} {cy : Nat → ClassId} {T : gT} {Z : gZ} {S : gSt} {B : Nat} {fv : Nat → Value} {H0 : Heap}
variable {p : Program} {l : Launch} {e : Env} {R : Room} {s : State} {m : MethodId} {args : Array Value} {below : List Frame} {meth : Method} {c : Code} {H : Heap} {locs : List Loc} {cells slots : Nat} {P : State → Prop}
variable {pc : Nat} {ls : Array Slot} {st0 rest : List Value} {mc ms : Nat}
/-- a call's run, by its length, goes on -/
def gRunL (p : Program) (l : Launch) (e : Env) (R : Room) (s : State) (m : MethodId) (args : Array Value) (below : List Frame) (meth : Method) (c : Code) (H : Heap) (locs : List Loc) (cells slots mc ms len : Nat) (g : JFrame) (rest : List Value) (Qa : State → Outcome → State → Prop) (XC : String → State → State → Prop) (free : Addr → Prop) : Prop :=
  ∀ T : State, T.heap = H → Stand p l e R s m args below meth c T locs cells slots →
    (∃ (v : Option Value) (st₀ t T' : State) (L : List Loc), st₀.heap = H ∧ Stand p l e R s m args below meth c T' (locs ++ L) (cells + mc) (slots + ms) ∧ (∀ q ∈ L, free q.base) ∧ T'.heap = t.heap ∧ T'.vm = t.vm ∧ Qa st₀ (.returned v) t ∧
      Goes p e below T g T' { g with pc := g.pc + len, stack := v.toList ++ rest }) ∨
    (∃ (q : Addr) (st₀ t T' : State) (L : List Loc) (E : String) (ce : Cell), st₀.heap = H ∧ Stand p l e R s m args below meth c T' (locs ++ L) (cells + mc) (slots + ms) ∧ (∀ z ∈ L, free z.base) ∧ T'.heap = t.heap ∧ T'.vm = t.vm ∧ XC E st₀ t ∧ t.heap[q]? = some ce ∧ ce.vm = .none ∧ s.vm.findClass E = some ce.cls ∧
      Steps p.tables e below (T.setTop g) ((T'.setTop { g with stack := rest }).pushFrame (.throwing q)))
theorem g_after {len tag : Nat} {vs : List Value} {w' : gW} {av : Array Value} (hL : ∀ q ∈ locs, B ≤ q.base)
    (hr : gRunL p l e R s m args below meth c H locs cells slots mc ms len (F0 m pc ls st0) rest (gQc Q D cy B fv H0 tag vs w' av) (gXC Q D cy B fv H0 tag w') (gA B))
    (k0 : tag = 0 → ∀ (H1 : Heap) (locs1 : List Loc), gHp Q D cy B fv H0 w' H1 → (∀ q ∈ locs1, B ≤ q.base) → W p l e R s m args below meth c H1 locs1 (cells + mc) (slots + ms) P (F0 m (pc + len) ls ((vs.map (gv B fv)).head?.toList ++ rest)))
    (kx : ¬ tag = 0 → ∀ (H1 : Heap) (locs1 : List Loc) (q : Nat) (ce : Cell), gHp Q D cy B fv H0 w' H1 → (∀ q ∈ locs1, B ≤ q.base) → H1[q]? = some ce → ce.vm = .none → s.vm.findClass (gXn ((tag - 1) % 10)) = some ce.cls → vx_W p l e R s m args below meth c H1 locs1 (cells + mc) (slots + ms) P (F0 m pc ls rest) q) :
    W p l e R s m args below meth c H locs cells slots P (F0 m pc ls st0) := by
  intro X hX Xs
  rcases hr X hX Xs with ⟨v, st₀, t, T', L, h0, X', hL2, e1, e2, hq, go⟩ | ⟨q, st₀, t, T', L, E, ce, h0, X', hL2, e1, e2, hxc, hce, hv, hcl, go⟩
  · obtain ⟨ht, ho, hP⟩ := hq
    cases ho
    obtain ⟨t2, a1, b1⟩ := k0 ht T'.heap (locs ++ L) (by rw [e1]; exact hP) (fun q hq => (List.mem_append.mp hq).elim (hL q) (hL2 q)) T' rfl X'
    exact ⟨t2, go t2 a1, b1⟩
  · obtain ⟨ht, rfl, hP⟩ := hxc
    obtain ⟨t2, a1, b1⟩ := kx ht T'.heap (locs ++ L) q ce (by rw [e1]; exact hP) (fun q hq => (List.mem_append.mp hq).elim (hL q) (hL2 q)) (by rw [e1]; exact hce) hv hcl T' rfl X'
    exact ⟨t2, go.trans a1, b1⟩
theorem gPc_blind {as : List Value} {w : gW} : FrameBlind (gPc Q G D cy T Z S B fv H0 as w) := fun _ U _ _ h => ⟨h.1, h.2.1.warm (State.WarmedH.refl U), h.2.2⟩
theorem gGood {N : gM} : goodWord (gWord N) = true := by
  unfold gWord
  split <;> rfl
theorem gStd_of {w : Jvm.Cond} (h : goodWord w = true) : gStd w = true := by
  cases w with
  | arrayOver ty => cases ty <;> first | rfl | exact h
  | _ => first | rfl | exact h
/-- what a call of N asks of the caller, but its link -/
theorem gCallB (hCs : gCs Q G D cy T Z S B fv H0 s) {N : gM} {n f L : Nat} (hN : gCl G N n) (hf1 : 1 ≤ R.frames) (hL1 : 19 + N.2.2.1 ≤ R.locals) (hf : f = R.frames - 1) (hL : L = R.locals - (19 + N.2.2.1)) (args : Array Value) :
    ((gRoom f L mc ms).cells = mc ∧ (gRoom f L mc ms).slots = ms ∧ (gRoom f L mc ms).frames + 1 ≤ R.frames ∧ 8 + (N.2.2.1 + 11) + (gRoom f L mc ms).locals ≤ R.locals ∧ (∀ w ∈ [gWord N], ∀ (a' : Array Value) (U : State), s.WarmedH U.vm → w.before a' U = true) ∧ gWord N ∈ [gWord N]) ∧
      (gWord N).before args s = true ∧ (Jvm.Cond.initialized N.1.cls).before args s = true ∧ (N.1.cls ≠ "java/lang/invoke/MethodHandle" ∧ N.1.cls ≠ "java/lang/invoke/VarHandle") ∧ (∀ sig, parseMethodDescriptor N.1.desc = some sig → n = sig.parameters.length) := by
  obtain ⟨h1, h2, h3, h4⟩ := hN
  have hw : (gWord N).before args s = true := hCs.1.1 _ h1 (gStd_of gGood) args
  refine ⟨⟨rfl, rfl, ?_, ?_, fun w hw' a' U hW => ?_, List.mem_cons_self⟩, hw, hCs.1.1 _ h2 rfl args, h3, fun sig hs => ?_⟩
  · show f + 1 ≤ R.frames; omega
  · show 8 + (N.2.2.1 + 11) + L ≤ R.locals; omega
  · rw [List.mem_singleton.mp hw']
    exact word_at hW (good_of_word gGood) hw
  · rw [hs] at h4
    exact (Option.some.inj h4).symm
set_option maxHeartbeats 2000000 in
/-- the run of a call, by its kind -/
theorem g_run (hf : gFv fv) {M N : gM} (hA : gAv Q G D cy T Z S B fv H0 M p l s m meth c) {ins : Instr} {hh : List Nat} {n len f L tag : Nat} {vs : List Value} {w w' : gW} (hP : gHp Q D cy B fv H0 w H) (hsz : ls.size = c.maxLocals)
    (hCl : gCl G N n) (hd : decode M.2.1 pc = .ok (ins, len)) (hf1 : 1 ≤ R.frames) (hL1 : 19 + N.2.2.1 ≤ R.locals) (hfe : f = R.frames - 1) (hLe : L = R.locals - (19 + N.2.2.1)) (hRc : cells + mc ≤ R.cells) (hRs : slots + ms ≤ R.slots) {as r : List Value} (hsum : gSum r ≤ 8)
    (hk : (hh.headD 0 = 1 ∧ N.2.2.2.2.1 = [] ∧ ∃ idx, ins = .invokestatic idx ∧ Jvm.Cond.methodLink M.1.cls idx N.1 ∈ G ∧ Jvm.Cond.static N.1 ∈ G) ∨
     (hh.headD 0 = 6 ∧ (∃ q t, N.2.2.2.2.1 = q :: t) ∧ ∃ idx, ins = .invokestatic idx ∧ Jvm.Cond.methodLink M.1.cls idx N.1 ∈ G ∧ Jvm.Cond.static N.1 ∈ G) ∨
     (hh.headD 0 = 4 ∧ N.2.2.2.2.1 = [] ∧ ∃ idx host, ins = .invokestatic idx ∧ Jvm.Cond.methodLinkNest M.1.cls idx N.1 host ∈ G ∧ Jvm.Cond.static N.1 ∈ G))
    (hM : vx_Met l N.1 [gWord N] (gRoom f L mc ms) (gPc Q G D cy T Z S B fv H0 as w) (gQc Q D cy B fv H0 tag vs w') (gXC Q D cy B fv H0 tag w') mc ms (gA B)) (hn : as.length = n) (hlen : len = 3) :
    gRunL p l e R s m args below meth c H locs cells slots mc ms len (F0 m pc ls (((as.reverse ++ r)).map (gv B fv))) (r.map (gv B fv)) (gQc Q D cy B fv H0 tag vs w' (as.map (gv B fv)).toArray) (gXC Q D cy B fv H0 tag w') (gA B) := by
  subst hlen
  obtain ⟨hx, hb, hml, hr, hown, hnm, htab, hlocks, hCs, hs0, hst⟩ := hA
  obtain ⟨b1, b2, b3, b4, b5⟩ := gCallB (mc := mc) (ms := ms) hCs hCl hf1 hL1 hfe hLe args
  have hfix : CallFix p m c M.2.1 ls.size s args [] M.1.cls := ⟨hx, hb, hsz.symm, hown, fun _ h => nomatch h⟩
  have hpre : PreS s H (gPc Q G D cy T Z S B fv H0 as w) (as.map (gv B fv)) := ⟨gPc_blind, fun U hU hW => ⟨rfl, hCs.warm hW, by rw [hU]; exact hP⟩⟩
  have hstk : (F0 m pc ls (((as.reverse ++ r)).map (gv B fv))).stack = (as.map (gv B fv)).reverse ++ r.map (gv B fv) := by show List.map _ _ = _; rw [List.map_append, List.map_reverse]
  have hroom : 2 * (F0 m pc ls (((as.reverse ++ r)).map (gv B fv))).monitorRoom + ((r.map (gv B fv)).map fun v => v.category).sum ≤ 8 := lv_room (by rw [gSum_gv hf]; exact hsum)
  have hln : (as.map (gv B fv)).length = n := by rw [List.length_map]; exact hn
  rcases hk with ⟨-, hhh, idx, rfl, hl, hs⟩ | ⟨-, ⟨q, t, hhh⟩, idx, rfl, hl, hs⟩ | ⟨-, hhh, idx, host, rfl, hl, hs⟩
  · have hw : gWord N = .code N.1 N.2.1 N.2.2.1 N.2.2.2.1 := by unfold gWord; rw [hhh]
    rw [hw] at b1 b2
    exact vx_runS hfix hM ⟨⟨b1.1, b1.2.1, b1.2.2.1, b1.2.2.2.1, by rw [hw]; exact b1.2.2.2.2.1, by rw [hw]; exact List.mem_cons_self, b2, b3, b4, b5, hCs.1.1 _ hl rfl args⟩, hCs.1.1 _ hs rfl args⟩ hpre rfl hln rfl hstk hroom hd ⟨hRc, hRs⟩
  · have hw : gWord N = .codeWith N.1 N.2.1 N.2.2.1 N.2.2.2.1 (q :: t) := by unfold gWord; rw [hhh]
    rw [hw] at b1 b2
    exact vx_runSX hfix hM ⟨⟨b1.1, b1.2.1, b1.2.2.1, b1.2.2.2.1, by rw [hw]; exact b1.2.2.2.2.1, by rw [hw]; exact List.mem_cons_self⟩, b2, b3, b4, b5, hCs.1.1 _ hl rfl args, hCs.1.1 _ hs rfl args⟩ hpre rfl hln rfl hstk hroom hd ⟨hRc, hRs⟩
  · have hw : gWord N = .code N.1 N.2.1 N.2.2.1 N.2.2.2.1 := by unfold gWord; rw [hhh]
    rw [hw] at b1 b2
    exact vx_runSN (host := host) hfix hM ⟨⟨⟨b1.1, b1.2.1, b1.2.2.1, b1.2.2.2.1, by rw [hw]; exact b1.2.2.2.2.1, by rw [hw]; exact List.mem_cons_self⟩, b2, b3, b4, b5, hCs.1.1 _ hl rfl args⟩, hCs.1.1 _ hs rfl args, trivial⟩ hpre rfl hln rfl hstk hroom hd ⟨hRc, hRs⟩
set_option maxHeartbeats 2000000 in
/-- .. with a receiver -/
theorem g_runR (hf : gFv fv) {M N : gM} (hA : gAv Q G D cy T Z S B fv H0 M p l s m meth c) {ins : Instr} {hh : List Nat} {n len f L tag : Nat} {vs : List Value} {w w' : gW} (hP : gHp Q D cy B fv H0 w H) (hsz : ls.size = c.maxLocals)
    (hCl : gCl G N n) (hd : decode M.2.1 pc = .ok (ins, len)) (hf1 : 1 ≤ R.frames) (hL1 : 19 + N.2.2.1 ≤ R.locals) (hfe : f = R.frames - 1) (hLe : L = R.locals - (19 + N.2.2.1)) (hRc : cells + mc ≤ R.cells) (hRs : slots + ms ≤ R.slots) {as r : List Value} (hsum : gSum r ≤ 8) {b : Nat} {d : Nat × List Value} (hwb : w[b]? = some d) (hdk : hh.headD 0 = 2 ∨ d.1 = hh.getD 3 0 + 8)
    (hk : (hh.headD 0 = 2 ∧ N.2.2.2.2.1 = [] ∧ N.1.name = "<init>" ∧ N.2.2.2.1 = none ∧ ∃ idx, ins = .invokespecial idx ∧ Jvm.Cond.methodLink M.1.cls idx N.1 ∈ G ∧ Jvm.Cond.instanceMethod N.1 ∈ G) ∨
     (hh.headD 0 = 0 ∧ N.2.2.2.2.1 = [] ∧ (∃ q : gQ, Q[hh.getD 3 0]? = some q ∧ q.1.1 = N.1.cls) ∧ ∃ idx, ins = .invokevirtual idx ∧ Jvm.Cond.methodLink M.1.cls idx N.1 ∈ G ∧ Jvm.Cond.instanceMethod N.1 ∈ G ∧ Jvm.Cond.selects N.1.cls N.1 N.1 ∈ G) ∨
     (hh.headD 0 = 3 ∧ N.2.2.2.2.1 = [] ∧ (∃ q : gQ, Q[hh.getD 3 0]? = some q ∧ q.1.1 = N.1.cls) ∧ ∃ idx host, ins = .invokevirtual idx ∧ Jvm.Cond.methodLinkNest M.1.cls idx N.1 host ∈ G ∧ Jvm.Cond.instanceMethod N.1 ∈ G ∧ Jvm.Cond.selects N.1.cls N.1 N.1 ∈ G) ∨
     (hh.headD 0 = 5 ∧ N.2.2.2.2.1 = [] ∧ N.1 = gIf3.2.2 ∧ (∃ q : gQ, Q[hh.getD 3 0]? = some q ∧ q.1.1 = N.1.cls) ∧ ∃ idx, ins = .invokeinterface idx 1 ∧ Jvm.Cond.methodLink M.1.cls idx gIf3.2.1 ∈ G ∧ Jvm.Cond.instanceMethod N.1 ∈ G ∧ Jvm.Cond.selects N.1.cls gIf3.2.1 N.1 ∈ G))
    (hM : vx_Met l N.1 [gWord N] (gRoom f L mc ms) (gPc Q G D cy T Z S B fv H0 (.ref b :: as) w) (gQc Q D cy B fv H0 tag vs w') (gXC Q D cy B fv H0 tag w') mc ms (gA B)) (hn : as.length = n) (hlen : len = if hh.headD 0 = 5 then 5 else 3) :
    gRunL p l e R s m args below meth c H locs cells slots mc ms len (F0 m pc ls (((as.reverse ++ .ref b :: r)).map (gv B fv))) (r.map (gv B fv)) (gQc Q D cy B fv H0 tag vs w' ((.ref b :: as).map (gv B fv)).toArray) (gXC Q D cy B fv H0 tag w') (gA B) := by
  obtain ⟨hx, hb, hml, hr, hown, hnm, htab, hlocks, hCs, hs0, hst⟩ := hA
  obtain ⟨b1, b2, b3, b4, b5⟩ := gCallB (mc := mc) (ms := ms) hCs hCl hf1 hL1 hfe hLe args
  have hfix : CallFix p m c M.2.1 ls.size s args [] M.1.cls := ⟨hx, hb, hsz.symm, hown, fun _ h => nomatch h⟩
  have hstk : (F0 m pc ls (((as.reverse ++ .ref b :: r)).map (gv B fv))).stack = (as.map (gv B fv)).reverse ++ .ref (B + b) :: r.map (gv B fv) := by show List.map _ _ = _; rw [List.map_append, List.map_reverse]; rfl
  have hroom : 2 * (F0 m pc ls (((as.reverse ++ .ref b :: r)).map (gv B fv))).monitorRoom + ((r.map (gv B fv)).map fun v => v.category).sum ≤ 8 := lv_room (by rw [gSum_gv hf]; exact hsum)
  have hln : (as.map (gv B fv)).length = n := by rw [List.length_map]; exact hn
  have hPc : ∀ U : State, U.heap = H → s.WarmedH U.vm → gPc Q G D cy T Z S B fv H0 (.ref b :: as) w (Value.ref (B + b) :: as.map (gv B fv)).toArray U := fun U hU hW => ⟨rfl, hCs.warm hW, by rw [hU]; exact hP⟩
  have hcell : ∀ q : gQ, Q[hh.getD 3 0]? = some q → d.1 = hh.getD 3 0 + 8 → ∃ cellB : Cell, H[B + b]? = some cellB ∧ cellB.vm.isStatics = false ∧ s.vm.findClass q.1.1 = some cellB.cls := fun q hq hd8 => by
    obtain ⟨cell, g1, g2, g3, -⟩ := (hP.2.2 b d hwb).2 _ q hd8 hq
    exact ⟨cell, g1, by rw [g3]; rfl, by rw [g2]; exact (hCs.1.2.1 _ q hq).2.1⟩
  rcases hk with ⟨h2, hhh, hnmN, hret, idx, rfl, hl, hi⟩ | ⟨h2, hhh, ⟨q, hq, hqc⟩, idx, rfl, hl, hi, hse⟩ | ⟨h2, hhh, ⟨q, hq, hqc⟩, idx, host, rfl, hl, hi, hse⟩ | ⟨h2, hhh, hN3, ⟨q, hq, hqc⟩, idx, rfl, hl, hi, hse⟩
  all_goals
    have hw : gWord N = .code N.1 N.2.1 N.2.2.1 N.2.2.2.1 := by unfold gWord; rw [hhh]
    rw [hw] at b1 b2
  · have e3 : len = 3 := by rw [hlen, h2]; rfl
    subst e3
    rw [hret] at hw b1 b2
    exact vx_runI hfix hM ⟨⟨b1.1, b1.2.1, b1.2.2.1, b1.2.2.2.1, by rw [hw]; exact b1.2.2.2.2.1, by rw [hw]; exact List.mem_cons_self, b2, b3, b4, b5, hCs.1.1 _ hl rfl args⟩, hnmN, hCs.1.1 _ hi rfl args⟩ ⟨gPc_blind, hPc⟩ rfl hln rfl hstk hroom hd ⟨hRc, hRs⟩
  · have e3 : len = 3 := by rw [hlen, h2]; rfl
    subst e3
    exact vx_runV (C := N.1.cls) hfix hM ⟨⟨b1.1, b1.2.1, b1.2.2.1, b1.2.2.2.1, by rw [hw]; exact b1.2.2.2.2.1, by rw [hw]; exact List.mem_cons_self, b2, b3, b4, b5, hCs.1.1 _ hl rfl args⟩, hCs.1.1 _ hi rfl args, hCs.1.1 _ hse rfl args⟩ ⟨gPc_blind, by rw [← hqc]; exact hcell q hq (hdk.resolve_left (by rw [h2]; decide)), hPc⟩ rfl hln rfl hstk hroom hd ⟨hRc, hRs⟩
  · have e3 : len = 3 := by rw [hlen, h2]; rfl
    subst e3
    exact vx_runVN (C := N.1.cls) (host := host) hfix hM ⟨⟨⟨b1.1, b1.2.1, b1.2.2.1, b1.2.2.2.1, by rw [hw]; exact b1.2.2.2.2.1, by rw [hw]; exact List.mem_cons_self⟩, b2, b3, b4, b5, hCs.1.1 _ hl rfl args⟩, hCs.1.1 _ hi rfl args, hCs.1.1 _ hse rfl args⟩ ⟨gPc_blind, by rw [← hqc]; exact hcell q hq (hdk.resolve_left (by rw [h2]; decide)), hPc⟩ rfl hln rfl hstk hroom hd ⟨hRc, hRs⟩
  · have e3 : len = 5 := by rw [hlen, h2]; rfl
    subst e3
    obtain ⟨w1, w2, w3, w4, w5⟩ := hCs.2.2.2.2.2.2
    have hcls : N.1.cls = gIf3.1 := by rw [hN3]
    rw [hcls] at hqc hse
    have hany : ∀ {wd : Jvm.Cond}, wd.onTables = true → wd.before #[] s = true → wd.before args s = true := fun ho h => va_any ho h
    exact vx_runF (C := gIf3.1) (x := gIf3.2.1) (cC := D.1 (hh.getD 3 0)) (by rw [← hqc]; exact (hCs.1.2.1 _ q hq).2) hfix hM ⟨⟨b1.1, b1.2.1, b1.2.2.1, b1.2.2.2.1, by rw [hw]; exact b1.2.2.2.2.1, by rw [hw]; exact List.mem_cons_self⟩, hCs.1.1 _ hl rfl args, hany rfl w1, hany rfl w2, hCs.1.1 _ hse rfl args, hCs.1.1 _ hi rfl args, by rw [hN3]; exact hany rfl w3, hany rfl w4, hany rfl w5, b3, b2, by decide, by rw [hN3] at b5; exact b5⟩ ⟨gPc_blind, by rw [← hqc]; exact hcell q hq (hdk.resolve_left (by rw [h2]; decide)), hPc⟩ rfl hln rfl hstk hroom hd ⟨hRc, hRs⟩
end GCL
