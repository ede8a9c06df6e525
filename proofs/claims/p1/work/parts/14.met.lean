/-! ===== a method's contract out of its run ===== -/
section GME
variable {Q : List gQ} {G : List Jvm.Cond} {D : va_G} {cy : Nat → ClassId} {T : gT} {Z : gZ} {S : gSt} {B : Nat} {fv : Nat → Value} {H0 : Heap}
set_option maxHeartbeats 2000000 in
/-- what a body owes at its end, for the contract of this section -/
theorem g_kr (hf : gFv fv) {M : gM} {p : Program} {l : Launch} {e : Env} {R : Room} {s : State} {m : MethodId} {args : Array Value} {below : List Frame} {meth : Method} {c : Code}
    (hA : gAv Q G D cy T Z S B fv H0 M p l s m meth c) {tag pcR : Nat} {vs : List Value} {w' : gW} {mc ms : Nat} (hRc : mc ≤ R.cells) (hRs : ms ≤ R.slots) :
    gKr Q G D cy S B fv H0 M p l e R s m args below meth c (vx_MQ below (gQc Q D cy B fv H0 tag vs w') (gXC Q D cy B fv H0 tag w') args s mc ms (gA B)) tag pcR vs w' mc ms := by
  obtain ⟨hx, hb, hml, hr, hown, hnm, htab, hlocks, hCs, hs0, hst⟩ := hA
  intro H' locs' ls' hL' hsz
  refine ⟨fun h0 hP ⟨ins, hd, hret⟩ => ?_, fun w0 kc0 ks0 eh he ht hw hkc hks hP hth hsum hfr hlo => ?_, fun eh q ce he ht hP hce hv hcl hhh => ?_⟩
  · unfold gRetOk at hret
    split at hret
    · split at hret
      · split at hret
        · rename_i hrr
          exact vx_ret (W.vret hx hb (hr.trans hrr) (fun t ht hW => ⟨h0, rfl, by rw [ht]; exact hP⟩) hL' hd)
        · cases hret
      · cases hret
    · rename_i v h9
      split at hret
      · split at hret
        · rename_i hrr
          obtain ⟨x, ex⟩ := gv_I (B := B) hf hret
          refine vx_ret ?_
          rw [List.map_cons, ex]
          exact W.iret hx hb (hr.trans hrr) (fun t ht hW => ⟨h0, by rw [List.map_cons, ex]; rfl, by rw [ht]; exact hP⟩) hL' hd
        · rename_i hrr
          obtain ⟨hn, -⟩ := gFit_ok (B := B) hf hret
          cases v with
          | int x => exact vx_ret (W.zret hx hb (hr.trans hrr) hn (fun t ht hW => ⟨h0, rfl, by rw [ht]; exact hP⟩) hL' hd)
          | _ => cases hret
        · cases hret
      · have go : ∀ rt : FieldType, M.2.2.2.1 = some rt → ((∃ n, rt = .object n) ∨ ∃ t, rt = .array t) → gIsR v = true → W p l e R s m args below meth c H' locs' mc ms (vx_MQ below (gQc Q D cy B fv H0 tag [v] w') (gXC Q D cy B fv H0 tag w') args s mc ms (gA B)) (F0 m pcR ls' ([v].map (gv B fv))) := by
          intro rt hrr hrt hv
          refine vx_ret ?_
          have hv2 : gv B fv v = .null ∨ ∃ a, gv B fv v = .ref a := gv_R hf hv
          exact W.aret hx hb (hr.trans hrr) hrt hv2 (fun t ht hW => ⟨h0, rfl, by rw [ht]; exact hP⟩) hL' hd
        split at hret
        · rename_i n hrr; exact go _ hrr (Or.inl ⟨n, rfl⟩) hret
        · rename_i n hrr; exact go _ hrr (Or.inr ⟨n, rfl⟩) hret
        · cases hret
      · split at hret
        · rename_i hrr
          cases v with
          | long x => exact vx_ret (W.lret hx hb (hr.trans hrr) (fun t ht hW => ⟨h0, rfl, by rw [ht]; exact hP⟩) hL' hd)
          | _ => cases hret
        · cases hret
      · split at hret
        · rename_i hrr
          cases v with
          | double x => exact vx_ret (W.dret hx hb (hr.trans hrr) (fun t ht hW => ⟨h0, rfl, by rw [ht]; exact hP⟩) hL' hd)
          | _ => cases hret
        · cases hret
      · cases hret
    · cases hret
  · obtain ⟨ik, is, ic, text, hS, he3, hhh, hfit, hk, hini, hat, hot, d0, d3, dd⟩ := hth
    obtain ⟨hC, hK, x1, x2, x3, -⟩ := hCs
    obtain ⟨sa, hstr⟩ := x1 _ hS
    have hs1 : ∀ a : Nat, a < H0.size → ¬ gA B a → s.heap[a]? = H0[a]? := fun a _ ha => hs0 a (Nat.lt_of_not_le ha)
    have hat' : ∀ w ∈ vx_atS M.1.cls ic (gXn eh) gNms, w.before args s = true := fun w hw => hC.1 w (hat w hw).1 (hat w hw).2 args
    have hcov : ∀ z : Nat, ∀ x ∈ c.exceptionTable.toList, covers x z = false := fun z x hx => by rw [htab, hhh] at hx; cases hx
    have hXC : ∀ t : State, s.vm.Alike t.vm → t.heap.size = H'.size + 1 → (∀ q : Nat, q < H'.size → t.heap[q]? = H'[q]?) → gXC Q D cy B fv H0 tag w' (gXn eh) s t := fun t _ hz ho => by
      refine ⟨by omega, by rw [ht, show 1 + eh - 1 = eh by omega, Nat.mod_eq_of_lt he], ?_⟩
      rw [hw]
      exact hP.push ⟨fun h => absurd h (by omega), fun ci q9 h9 => absurd h9 (by show ¬ 7 = ci + 8; omega)⟩ hz ho
    refine W.grown fun hg => ?_
    have hSS : va_S (gA B) s.heap H' locs' := ⟨hg, fun q _ hq => by have h9 : q < B := Nat.lt_of_not_le hq; rw [hs0 q h9]; exact hP.2.1 q h9, hL'⟩
    rcases dd with ⟨d4, d6, d9⟩ | ⟨d4, d7, d10⟩
    · exact vx_throwS hx hb hst hown hfit (by decide) (hC.1 _ hk rfl args) (hC.1 _ hini rfl args) hstr hat' hot (x2.kept hs1) (x3.kept hs1) hSS hsz d0 d3 d4 d6 d9 (hcov _) (by show 2 + 3 < R.frames; omega) (by rw [gSum_gv hf]; show gSum vs + (13 * (2 + 1) + 43) ≤ R.locals; omega) (by omega) (by omega) hlocks hXC hL' (by omega) (by omega)
    · exact vx_throwSW hx hb hst hown hfit (by decide) (hC.1 _ hk rfl args) (hC.1 _ hini rfl args) hstr hat' hot (x2.kept hs1) (x3.kept hs1) hSS hsz d0 d3 d4 d7 d10 (hcov _) (by show 2 + 3 < R.frames; omega) (by rw [gSum_gv hf]; show gSum vs + (13 * (2 + 1) + 43) ≤ R.locals; omega) (by omega) (by omega) hlocks hXC hL' (by omega) (by omega)
  · refine vx_out (fun x hx => by rw [htab, hhh] at hx; cases hx) hlocks hce hv hcl (fun t ht2 _ => ⟨by omega, by rw [ht, show 11 + eh - 1 = 10 + eh by omega, Nat.add_mod_left, Nat.mod_eq_of_lt he], by rw [ht2]; exact hP⟩) hL' (Nat.le_refl _) (Nat.le_refl _)
/-- the contract -/
theorem g_met (hf : gFv fv) {X : gX} {n : Nat} (hS : gSnd Q G D cy T Z S B fv H0 X n) {N : gM} (hN : gMeOk Q Z G S X.1 X.2.2.2.2.2.2 N) {as : List Value} {w w' : gW} {f L tag pcR mc ms : Nat} {vs : List Value} (hsz : gSum as ≤ N.2.2.1)
    (h : ex X n N N.2.2.2.2.2 0 (lv_args 0 as) [] w f L 0 0 = some (tag, pcR, vs, w', mc, ms)) (l : Launch) (hst : l.stackTraces = false) :
    vx_Met l N.1 [gWord N] (gRoom f L mc ms) (gPc Q G D cy T Z S B fv H0 as w) (gQc Q D cy B fv H0 tag vs w') (gXC Q D cy B fv H0 tag w') mc ms (gA B) := by
  obtain ⟨-, -, -, go⟩ := hS N hN _ (fun _ h => h) _ _ _ _ _ _ _ _ _ _ _ _ _ _ h
  have body : ∀ (p : Program) (e : Env) (s : State) (m : MethodId) (args : Array Value) (below : List Frame) (meth : Method) (c : Code), p.tables.exec = Jvm.exec → c.code = N.2.1 → c.maxLocals = N.2.2.1 → meth.sig.returnType = N.2.2.2.1 → s.vm.findClass N.1.cls = some m.cls → meth.name = N.1.name → c.exceptionTable.toList = tableOf N.2.2.2.2.1 → meth.locks = false → gPc Q G D cy T Z S B fv H0 as w args s →
      W p l e (headSpec [gWord N] (gRoom f L mc ms)).room s m args below meth c s.heap [] 0 0 (vx_MQ below (gQc Q D cy B fv H0 tag vs w') (gXC Q D cy B fv H0 tag w') args s mc ms (gA B)) (entryFrame m args N.2.2.1) := by
    intro p e s m args below meth c hx hb hml hr hown hnm htab hlocks hP
    obtain ⟨rfl, hCs, hP⟩ := hP
    have hA : gAv Q G D cy T Z S B fv H0 N p l s m meth c := ⟨hx, hb, hml, hr, hown, hnm, htab, hlocks, hCs, hP.2.1, hst⟩
    rw [lg_entry_eq]
    have hle : (lg_sl (as.map (gv B fv))).length ≤ N.2.2.1 := by rw [gSl_len, gSum_eq, gSum_gv hf]; exact hsz
    have hl := lv_entry (as.map (gv B fv)) hle
    rw [gArgs_gv hf] at hl
    exact go p l e _ s m _ below meth c _ s.heap [] _ hA rfl rfl (Nat.le_refl _) (Nat.le_refl _) hl hP (fun q hq => nomatch hq) (g_kr hf hA (Nat.le_refl _) (Nat.le_refl _))
  cases hh : N.2.2.2.2.1 with
  | nil =>
    have hw : [gWord N] = Jvm.Cond.code N.1 N.2.1 N.2.2.1 N.2.2.2.1 :: [] := by unfold gWord; rw [hh]
    refine vx_ofW (cc := N.2.1) (maxL := N.2.2.1) (ret := N.2.2.2.1) hN.2.1 hw ?_
    intro p e s m args below meth c s₁ Bd hml hemp hP
    refine body p e s m args below meth c Bd.exec Bd.bytes hml Bd.returns (findClass_of_methodNamed Bd.named) (name_of_methodNamed Bd.named Bd.method).1 ?_ Bd.notSynchronized hP
    rw [hh]
    cases ht : c.exceptionTable.toList with
    | nil => rfl
    | cons x t => exact (hemp x (by rw [ht]; exact List.mem_cons_self)).elim
  | cons q t =>
    have hw : [gWord N] = Jvm.Cond.codeWith N.1 N.2.1 N.2.2.1 N.2.2.2.1 (q :: t) :: [] := by unfold gWord; rw [hh]
    refine vx_ofWH (cc := N.2.1) (maxL := N.2.2.1) (ret := N.2.2.2.1) (hh := q :: t) hN.2.1 hw ?_
    intro p e s m args below meth c s₁ Bd hml hP
    refine body p e s m args below meth c Bd.exec Bd.bytes hml Bd.returns (findClass_of_methodNamed Bd.named) (name_of_methodNamed Bd.named Bd.method).1 ?_ Bd.notSynchronized hP
    rw [hh]
    exact vx_table (x := N.1) Bd (atoms_spec (ws := [gWord N]) Bd.pre _ (by rw [hw]; exact List.mem_cons_self))
end GME
