/-! ===== THE INTERPRETER IS TRUE: by induction on its fuel ===== -/
section GMA
variable {Q : List gQ} {G : List Jvm.Cond} {D : va_G} {cy : Nat → ClassId} {T : gT} {Z : gZ} {S : gSt} {B : Nat} {fv : Nat → Value} {H0 : Heap}
/-- the interpreter's tables are the context's, and every method of its is in order -/
def gXok (Q : List gQ) (G : List Jvm.Cond) (T : gT) (Z : gZ) (S : gSt) (fv : Nat → Value) (X : gX) : Prop :=
  X.2.1 = Q ∧ X.2.2.1 = T ∧ X.2.2.2.1 = Z ∧ gKn fv X.2.2.2.2.1 ∧ (∀ x : Int32, fv 0 = .int x → x &&& 31 = X.2.2.2.2.2.1) ∧ (∀ (k : Nat) (N : gM), gMeth X.1 k = some N → gMeOk Q Z G S X.1 X.2.2.2.2.2.2 N) ∧ gQok Q G ∧ gBase G ∧ gFv fv
theorem gHand_ok {Y : List (Nat × Nat)} {pc eh h : Nat} : ∀ (hh : gH), gHand Y hh pc eh = some h → ∃ (pre : gH) (x : Nat × Nat × Nat × Nat) (suf : gH), hh = pre ++ x :: suf ∧ x.2.2.1 = h ∧ (x.1 ≤ pc ∧ pc < x.2.1) ∧ Y.lookup x.2.2.2 = some eh ∧ ∀ y ∈ pre, (¬ (y.1 ≤ pc ∧ pc < y.2.1)) ∨ ∃ z, Y.lookup y.2.2.2 = some z ∧ ¬ z = eh
  | [], hq => by cases hq
  | q :: t, hq => by
    unfold gHand at hq
    cases hi : Nat.ble q.1 pc && Nat.ble (pc + 1) q.2.1 with
    | false =>
      rw [hi] at hq
      obtain ⟨pre, x, suf, h1, h2, h3, h4, h5⟩ := gHand_ok t hq
      refine ⟨q :: pre, x, suf, by rw [h1]; rfl, h2, h3, h4, fun y hy => ?_⟩
      rcases List.mem_cons.mp hy with rfl | hy
      · refine Or.inl fun hc => ?_
        have h1 : Nat.ble y.1 pc = true := Nat.ble_eq.mpr hc.1
        have h2 : Nat.ble (pc + 1) y.2.1 = true := Nat.ble_eq.mpr hc.2
        rw [h1, h2] at hi
        cases hi
      · exact h5 y hy
    | true =>
      rw [hi] at hq
      dsimp only [cond_true] at hq
      rw [Bool.and_eq_true] at hi
      have hcov : q.1 ≤ pc ∧ pc < q.2.1 := ⟨Nat.le_of_ble_eq_true hi.1, Nat.le_of_ble_eq_true hi.2⟩
      split at hq
      · cases hq
      · rename_i z hz
        cases he : Nat.beq z eh with
        | true =>
          rw [he] at hq
          cases hq
          exact ⟨[], q, t, rfl, rfl, hcov, by rw [hz, Nat.eq_of_beq_eq_true he], fun y hy => nomatch hy⟩
        | false =>
          rw [he] at hq
          obtain ⟨pre, x, suf, h1, h2, h3, h4, h5⟩ := gHand_ok t hq
          refine ⟨q :: pre, x, suf, by rw [h1]; rfl, h2, h3, h4, fun y hy => ?_⟩
          rcases List.mem_cons.mp hy with rfl | hy
          · exact Or.inr ⟨z, hz, fun e => by rw [e, Nat.beq_refl] at he; cases he⟩
          · exact h5 y hy
theorem gls_drop {fv : Nat → Value} (hf : gFv fv) (ls : gL) (i : Nat) : (gls B fv ls).filter (fun q => !(q.1 == i) && !(q.1 + 1 == i && q.2.category == 2)) = gls B fv (gDel ls i) := by
  rw [gDel_eq]
  exact (gls_filter hf (fun a b => !(a == i) && !(a + 1 == i && b == 2)) ls).symm
set_option maxHeartbeats 4000000 in
/-- behind a call -/
theorem g_aft {X : gX} {n : Nat} (hX : gXok Q G T Z S fv X) (ih : gSnd Q G D cy T Z S B fv H0 X n) {M : gM} (hM : gMeOk Q Z G S X.1 X.2.2.2.2.2.2 M) {cs : List gE} (hcs : ∀ e ∈ cs, e ∈ M.2.2.2.2.2) {pc len : Nat} {l1 : gL} {rest : List Value} {f L kc ks tagN pcN mc ms : Nat} {vsN : List Value} {wN : gW} {tag pcR : Nat} {vs : List Value} {w' : gW} {kc' ks' : Nat}
    (hvs : tagN = 0 → vsN.length ≤ 1) (h : gAfter (ex X n) X M cs pc len l1 rest f L kc ks (some (tagN, pcN, vsN, wN, mc, ms)) = some (tag, pcR, vs, w', kc', ks')) :
    kc + mc ≤ kc' ∧ ks + ms ≤ ks' ∧ (tag = 0 → vs.length ≤ 1) ∧ ∀ (p : Program) (l : Launch) (e : Env) (R : Room) (s : State) (m : MethodId) (args : Array Value) (below : List Frame) (meth : Method) (c : Code) (P : State → Prop) (H : Heap) (locs : List Loc) (ls : Array Slot) (st0 : List Value) (av : Array Value),
      gAv Q G D cy T Z S B fv H0 M p l s m meth c → R.frames = f → R.locals = L → kc' ≤ R.cells → ks' ≤ R.slots → lv_has ls M.2.2.1 (gls B fv l1) → (∀ q ∈ locs, B ≤ q.base) →
      gRunL p l e R s m args below meth c H locs kc ks mc ms len (F0 m pc ls st0) (rest.map (gv B fv)) (gQc Q D cy B fv H0 tagN vsN wN av) (gXC Q D cy B fv H0 tagN wN) (gA B) →
      gKr Q G D cy S B fv H0 M p l e R s m args below meth c P tag pcR vs w' kc' ks' → W p l e R s m args below meth c H locs kc ks P (F0 m pc ls st0) := by
  unfold gAfter at h
  dsimp only at h
  cases htag : tagN with
  | zero =>
    rw [htag] at h
    dsimp only at h
    obtain ⟨h1, h2, h3v, go⟩ := ih M hM cs hcs _ _ _ _ _ _ _ _ _ _ _ _ _ _ h
    refine ⟨h1, h2, h3v, fun p l e R s m args below meth c P H locs ls st0 av hA hRf hRl hRc hRs hl hL hr hK => ?_⟩
    refine g_after hL hr (fun _ H1 locs1 hP1 hL1 => ?_) (fun h9 => absurd rfl h9)
    have k1 := go p l e R s m args below meth c P H1 locs1 ls hA hRf hRl hRc hRs hl hP1 hL1 hK
    rw [List.map_append] at k1
    cases vsN with
    | nil => exact k1
    | cons v t =>
      cases t with
      | nil => exact k1
      | cons v2 t2 => exact absurd (hvs htag) (by simp)
  | succ t =>
    rw [htag] at h
    dsimp only at h
    cases hhh : M.2.2.2.2.1 with
    | nil =>
      rw [hhh] at h
      cases h
      refine ⟨Nat.le_refl _, Nat.le_refl _, (fun h9 => absurd h9 (by omega)), fun p l e R s m args below meth c P H locs ls st0 av hA hRf hRl hRc hRs hl hL hr hK => ?_⟩
      refine g_after hL hr (fun h9 => absurd h9 (by omega)) (fun _ H1 locs1 q ce hP1 hL1 hce hv hcl => ?_)
      have hsz : ls.size = c.maxLocals := by rw [hl.1]; exact hA.2.2.1.symm
      exact (hK H1 locs1 ls hL1 hsz).2.2 (t % 10) q ce (Nat.mod_lt _ (by omega)) rfl hP1 hce hv hcl hhh
    | cons q0 t0 =>
      rw [hhh] at h
      dsimp only at h
      split at h
      · cases h
      · rename_i hpc hh9
        split at h
        · cases h
        · rename_i e9 he9
          obtain ⟨g1, g2, g3⟩ := gFind_ok he9
          have hdec := (hM.1 _ g1).1
          rw [g2] at hdec
          obtain ⟨pre, x, suf, hs1, hs2, hs3, hs4, hs5⟩ := gHand_ok _ hh9
          have fin : ∀ (i wd : Nat), i < M.2.2.1 → ex X n M e9.2 (hpc + wd) (gDel l1 i) [] wN f L (kc + mc) (ks + ms) = some (tag, pcR, vs, w', kc', ks') →
              (∀ (p : Program) (l : Launch) (e : Env) (R : Room) (s : State) (m : MethodId) (args : Array Value) (below : List Frame) (meth : Method) (c : Code) (P : State → Prop) (H : Heap) (locs : List Loc) (ls : Array Slot) (kc ks a : Nat) (lv : List (Nat × Value)), p.tables.exec = Jvm.exec → c.code = M.2.1 → lv_has ls M.2.2.1 lv → (∀ ls2, lv_has ls2 M.2.2.1 ((i, Value.ref a) :: lv.filter (fun q => !(q.1 == i) && !(q.1 + 1 == i && q.2.category == 2))) → W p l e R s m args below meth c H locs kc ks P (F0 m (hpc + wd) ls2 [])) → W p l e R s m args below meth c H locs kc ks P (F0 m hpc ls [.ref a])) →
              kc + mc ≤ kc' ∧ ks + ms ≤ ks' ∧ (tag = 0 → vs.length ≤ 1) ∧ ∀ (p : Program) (l : Launch) (e : Env) (R : Room) (s : State) (m : MethodId) (args : Array Value) (below : List Frame) (meth : Method) (c : Code) (P : State → Prop) (H : Heap) (locs : List Loc) (ls : Array Slot) (st0 : List Value) (av : Array Value),
                gAv Q G D cy T Z S B fv H0 M p l s m meth c → R.frames = f → R.locals = L → kc' ≤ R.cells → ks' ≤ R.slots → lv_has ls M.2.2.1 (gls B fv l1) → (∀ q ∈ locs, B ≤ q.base) →
                gRunL p l e R s m args below meth c H locs kc ks mc ms len (F0 m pc ls st0) (rest.map (gv B fv)) (gQc Q D cy B fv H0 (t + 1) vsN wN av) (gXC Q D cy B fv H0 (t + 1) wN) (gA B) →
                gKr Q G D cy S B fv H0 M p l e R s m args below meth c P tag pcR vs w' kc' ks' → W p l e R s m args below meth c H locs kc ks P (F0 m pc ls st0) := by
            intro i wd hi hex row
            obtain ⟨h1, h2, h3v, go⟩ := ih M hM e9.2 g3 _ _ _ _ _ _ _ _ _ _ _ _ _ _ hex
            refine ⟨h1, h2, h3v, fun p l e R s m args below meth c P H locs ls st0 av hA hRf hRl hRc hRs hl hL hr hK => ?_⟩
            refine g_after hL hr (fun h9 => absurd h9 (by omega)) (fun _ H1 locs1 q ce hP1 hL1 hce hv hcl => ?_)
            have hcl : s.vm.findClass (gXn (t % 10)) = some ce.cls := hcl
            have hA' := hA
            obtain ⟨hx, hb, hml, hr2, hown, hnm, htab, hlocks, hCs, hs0, hst⟩ := hA'
            have hxm : x ∈ M.2.2.2.2.1 := by rw [hhh, hs1]; exact List.mem_append_right _ List.mem_cons_self
            obtain ⟨z1, z2, z3, z4⟩ := hM.2.2 x hxm _ hs4
            refine vx_catch (E := gXn (t % 10)) (name := gXn (t % 10)) hown (tableOf pre) ⟨x.1, x.2.1, x.2.2.1, x.2.2.2⟩ (tableOf suf) ?_ ?_ ?_ z2 (hCs.1.1 _ z3 rfl args) (hCs.1.1 _ z4 rfl args) hce hv hcl ?_
            · rw [htab, hhh, hs1]
              unfold tableOf
              rw [List.map_append, List.map_cons]
            · intro z hz
              obtain ⟨y, hy, rfl⟩ := List.mem_map.mp hz
              rcases hs5 y hy with hc | ⟨z', hz1, hz2⟩
              · left
                show (decide (y.1 ≤ pc) && decide (pc < y.2.1)) = false
                rw [Bool.and_eq_false_iff]
                by_cases hc1 : y.1 ≤ pc
                · right; exact decide_eq_false (fun hc2 => hc ⟨hc1, hc2⟩)
                · left; exact decide_eq_false hc1
              · have hym : y ∈ M.2.2.2.2.1 := by rw [hhh, hs1]; exact List.mem_append_left _ hy
                obtain ⟨y1, y2, y3, y4⟩ := hM.2.2 y hym _ hz1
                exact Or.inr ⟨y2, gXn z', hCs.1.1 _ y3 rfl args, hCs.2.2.2.2.2.1 (t % 10) z' z1 y1 (fun e => hz2 e.symm)⟩
            · show (decide (x.1 ≤ pc) && decide (pc < x.2.1)) = true
              rw [Bool.and_eq_true]
              exact ⟨decide_eq_true hs3.1, decide_eq_true hs3.2⟩
            · show W p l e R s m args below meth c H1 locs1 (kc + mc) (ks + ms) P (F0 m x.2.2.1 ls [.ref q])
              rw [hs2]
              refine row p l e R s m args below meth c P H1 locs1 ls _ _ q _ hx hb hl fun ls2 hl2 => ?_
              rw [gls_drop (B := B) hX.2.2.2.2.2.2.2.2] at hl2
              exact go p l e R s m args below meth c P H1 locs1 ls2 hA hRf hRl hRc hRs ⟨hl2.1, hl2.2.1, fun q hq => hl2.2.2 q (List.mem_cons_of_mem _ hq)⟩ hP1 hL1 hK
          split at h
          · rename_i i hi
            cases hc : Nat.beq e9.1.2.2.1 1 && Nat.ble (i.val + 1) M.2.2.1 with
            | false => rw [hc] at h; cases h
            | true =>
              rw [hc] at h
              rw [Bool.and_eq_true] at hc
              rw [hi, Nat.eq_of_beq_eq_true hc.1] at hdec
              exact fin i.val 1 (Nat.le_of_ble_eq_true hc.2) h (fun p l e R s m args below meth c P H locs ls kc ks a lv hx hb hl k => lv_astore_n hx hb hdec rfl hl (Nat.le_of_ble_eq_true hc.2) rfl k)
          · rename_i i hi
            cases hc : Nat.beq e9.1.2.2.1 2 && Nat.ble (i + 1) M.2.2.1 with
            | false => rw [hc] at h; cases h
            | true =>
              rw [hc] at h
              rw [Bool.and_eq_true] at hc
              rw [hi, Nat.eq_of_beq_eq_true hc.1] at hdec
              exact fin i 2 (Nat.le_of_ble_eq_true hc.2) h (fun p l e R s m args below meth c P H locs ls kc ks a lv hx hb hl k => lv_astore hx hb hdec hl (Nat.le_of_ble_eq_true hc.2) rfl k)
          · cases h
end GMA
