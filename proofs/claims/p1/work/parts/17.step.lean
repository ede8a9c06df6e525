section GST
variable {Q : List gQ} {G : List Jvm.Cond} {D : va_G} {cy : Nat → ClassId} {T : gT} {Z : gZ} {S : gSt} {B : Nat} {fv : Nat → Value} {H0 : Heap}
theorem gRet_len {ret : Option FieldType} {ins : Instr} {st : List Value} (h : gRetOk ret ins st = true) : st.length ≤ 1 := by
  unfold gRetOk at h
  split at h
  · exact Nat.zero_le _
  · exact Nat.le_refl _
  · cases h
theorem gEnter_ok {rc : gRec} {N : gM} {as : List Value} {w : gW} {f L : Nat} {r : Nat × Nat × List Value × gW × Nat × Nat} (h : gEnter rc N as w f L = some r) : 1 ≤ f ∧ 19 + N.2.2.1 ≤ L ∧ gSum as ≤ N.2.2.1 ∧ rc N N.2.2.2.2.2 0 (lv_args 0 as) [] w (f - 1) (L - (19 + N.2.2.1)) 0 0 = some r := by
  unfold gEnter at h
  cases hc : Nat.ble 1 f && (Nat.ble (19 + N.2.2.1) L && Nat.ble (gSum as) N.2.2.1) with
  | false => rw [hc] at h; cases h
  | true =>
    rw [hc] at h
    rw [Bool.and_eq_true, Bool.and_eq_true] at hc
    exact ⟨Nat.le_of_ble_eq_true hc.1, Nat.le_of_ble_eq_true hc.2.1, Nat.le_of_ble_eq_true hc.2.2, h⟩
theorem gAfter_some {rc : gRec} {X : gX} {M : gM} {cs : List gE} {pc len : Nat} {ls : gL} {rest : List Value} {f L kc ks : Nat} {r : gRes} {z : Nat × Nat × List Value × gW × Nat × Nat} (h : gAfter rc X M cs pc len ls rest f L kc ks r = some z) : ∃ y, r = some y := by
  cases r with
  | none => cases h
  | some y => exact ⟨y, rfl⟩
set_option maxHeartbeats 4000000 in
theorem g_call {X : gX} {n : Nat} (hX : gXok Q G T Z S fv X) (ih : gSnd Q G D cy T Z S B fv H0 X n) {M : gM} (hM : gMeOk Q Z G S X.1 X.2.2.2.2.2.2 M) {cs : List gE} (hcs : ∀ e ∈ cs, e ∈ M.2.2.2.2.2) {pc len : Nat} {ins : Instr} {hh : List Nat} {l1 : gL} {st : List Value} {w : gW} {f L kc ks tag pcR : Nat} {vs : List Value} {w' : gW} {kc' ks' : Nat}
    (hd : decode M.2.1 pc = .ok (ins, len)) (hl : gCOk Q G X.1 M.1 ins hh) (h : gCall (ex X n) X M cs pc len hh l1 st w f L kc ks = some (tag, pcR, vs, w', kc', ks')) :
    kc ≤ kc' ∧ ks ≤ ks' ∧ (tag = 0 → vs.length ≤ 1) ∧ ∀ (p : Program) (l : Launch) (e : Env) (R : Room) (s : State) (m : MethodId) (args : Array Value) (below : List Frame) (meth : Method) (c : Code) (P : State → Prop) (H : Heap) (locs : List Loc) (ls : Array Slot),
    gAv Q G D cy T Z S B fv H0 M p l s m meth c → R.frames = f → R.locals = L → kc' ≤ R.cells → ks' ≤ R.slots → lv_has ls M.2.2.1 (gls B fv l1) → gHp Q D cy B fv H0 w H → (∀ q ∈ locs, B ≤ q.base) →
    gKr Q G D cy S B fv H0 M p l e R s m args below meth c P tag pcR vs w' kc' ks' → W p l e R s m args below meth c H locs kc ks P (F0 m pc ls (st.map (gv B fv))) := by
  have hf : gFv fv := hX.2.2.2.2.2.2.2.2
  unfold gCall at h
  cases h7 : Nat.beq (hh.headD 0) 7 with
  | true =>
    rw [h7] at h
    dsimp only [cond_true] at h
    have e7 := Nat.eq_of_beq_eq_true h7
    split at h
    · rename_i b r
      cases hc : Nat.ble 1 f && (Nat.ble (gSum r + 12) L && Nat.beq len 3) with
      | false => rw [hc] at h; cases h
      | true =>
        rw [hc] at h
        rw [Bool.and_eq_true, Bool.and_eq_true] at hc
        have e3 := Nat.eq_of_beq_eq_true hc.2.2
        subst e3
        obtain ⟨h1, h2, h3v, go⟩ := ih M hM cs hcs _ _ _ _ _ _ _ _ _ _ _ _ _ _ h
        refine ⟨h1, h2, h3v, fun p l e R s m args below meth c P H locs ls hA hRf hRl hRc hRs hlv hP hL hK => ?_⟩
        rcases hl with ⟨-, idx, rfl, g1, g2, g3⟩ | ⟨h8, -⟩ | ⟨N, -, -, hk⟩
        · have k1 := go p l e R s m args below meth c P H locs ls hA hRf hRl hRc hRs hlv hP hL hK
          obtain ⟨hx, hb, hml, hr, hown, hnm, htab, hlocks, hCs, hs0, hst⟩ := hA
          exact W.objInit hx hb hown (hCs.1.1 _ g1 rfl args) (hCs.1.1 _ g2 rfl args) (hCs.1.1 _ g3 rfl args) rfl (hlv.1.trans hml.symm) rfl hd (by have := Nat.le_of_ble_eq_true hc.1; omega) (by
            have h9 := Nat.le_of_ble_eq_true hc.2.1
            show 2 * 0 + ((r.map (gv B fv)).map fun v => v.category).sum + 12 ≤ R.locals
            rw [gSum_gv hf]; omega) k1
        · omega
        · omega
    · cases h
  | false =>
  rw [h7] at h
  dsimp only [cond_false] at h
  cases h8 : Nat.beq (hh.headD 0) 8 with
  | true =>
    rw [h8] at h
    dsimp only [cond_true] at h
    have e8 := Nat.eq_of_beq_eq_true h8
    split at h
    · rename_i y x r
      cases hc : Nat.ble 1 f && (Nat.ble (gSum r + 13) L && Nat.beq len 3) with
      | false => rw [hc] at h; cases h
      | true =>
        rw [hc] at h
        rw [Bool.and_eq_true, Bool.and_eq_true] at hc
        have e3 := Nat.eq_of_beq_eq_true hc.2.2
        subst e3
        obtain ⟨h1, h2, h3v, go⟩ := ih M hM cs hcs _ _ _ _ _ _ _ _ _ _ _ _ _ _ h
        refine ⟨h1, h2, h3v, fun p l e R s m args below meth c P H locs ls hA hRf hRl hRc hRs hlv hP hL hK => ?_⟩
        rcases hl with ⟨h9, -⟩ | ⟨-, idx, rfl, g1, g2, g3, g4⟩ | ⟨N, -, -, hk⟩
        · omega
        · have k1 := go p l e R s m args below meth c P H locs ls hA hRf hRl hRc hRs hlv hP hL hK
          obtain ⟨hx, hb, hml, hr, hown, hnm, htab, hlocks, hCs, hs0, hst⟩ := hA
          exact va_mmax hx hb (hml.trans hlv.1.symm) hown (hCs.1.1 _ g1 rfl args) (hCs.1.1 _ g2 rfl args) (hCs.1.1 _ g3 rfl args) (hCs.1.1 _ g4 rfl args) (by have := Nat.le_of_ble_eq_true hc.1; omega) (by
            have h9 := Nat.le_of_ble_eq_true hc.2.1
            rw [gSum_gv hf]; omega) (by omega) (by omega) hd k1
        · omega
    · cases h
  | false =>
  rw [h8] at h
  dsimp only [cond_false] at h
  have n7 : ¬ hh.headD 0 = 7 := fun e => by rw [e] at h7; cases h7
  have n8 : ¬ hh.headD 0 = 8 := fun e => by rw [e] at h8; cases h8
  rcases hl with ⟨h9, -⟩ | ⟨h9, -⟩ | ⟨N, hN, hCl, hk⟩
  · exact absurd h9 n7
  · exact absurd h9 n8
  rw [hN] at h
  dsimp only at h
  have hNok := hX.2.2.2.2.2.1 _ _ hN
  cases hst : Nat.beq (hh.headD 0) 1 || (Nat.beq (hh.headD 0) 4 || Nat.beq (hh.headD 0) 6) with
  | true =>
    rw [hst] at h
    dsimp only [cond_true] at h
    cases hc : Nat.beq (st.take (hh.getD 2 0)).length (hh.getD 2 0) && (Nat.ble (gSum (st.drop (hh.getD 2 0))) 8 && Nat.beq len 3) with
    | false => rw [hc] at h; cases h
    | true =>
      rw [hc] at h
      dsimp only [cond_true] at h
      rw [Bool.and_eq_true, Bool.and_eq_true] at hc
      obtain ⟨⟨tagN, pcN, vsN, wN, mc, ms⟩, hE⟩ := gAfter_some h
      rw [hE] at h
      obtain ⟨f1, L1, sz1, hex⟩ := gEnter_ok hE
      obtain ⟨-, -, hv1, -⟩ := ih N hNok _ (fun _ h => h) _ _ _ _ _ _ _ _ _ _ _ _ _ _ hex
      obtain ⟨h1, h2, h3v, go⟩ := g_aft hX ih hM hcs hv1 h
      refine ⟨by omega, by omega, h3v, fun p l e R s m args below meth c P H locs ls hA hRf hRl hRc hRs hlv hP hL hK => ?_⟩
      have hM2 := g_met hf ih hNok sz1 hex l hA.2.2.2.2.2.2.2.2.2.2
      have hstk : st = (st.take (hh.getD 2 0)).reverse.reverse ++ st.drop (hh.getD 2 0) := by rw [List.reverse_reverse, List.take_append_drop]
      have hk2 : (hh.headD 0 = 1 ∧ N.2.2.2.2.1 = [] ∧ ∃ idx, ins = .invokestatic idx ∧ Jvm.Cond.methodLink M.1.cls idx N.1 ∈ G ∧ Jvm.Cond.static N.1 ∈ G) ∨
         (hh.headD 0 = 6 ∧ (∃ q t, N.2.2.2.2.1 = q :: t) ∧ ∃ idx, ins = .invokestatic idx ∧ Jvm.Cond.methodLink M.1.cls idx N.1 ∈ G ∧ Jvm.Cond.static N.1 ∈ G) ∨
         (hh.headD 0 = 4 ∧ N.2.2.2.2.1 = [] ∧ ∃ idx host, ins = .invokestatic idx ∧ Jvm.Cond.methodLinkNest M.1.cls idx N.1 host ∈ G ∧ Jvm.Cond.static N.1 ∈ G) := by
        simp only [Bool.or_eq_true] at hst
        rcases hk with hk | hk | hk | hk | hk | hk | hk
        · exact Or.inl hk
        · exact Or.inr (Or.inl hk)
        · exact Or.inr (Or.inr hk)
        all_goals
          exfalso
          have h9 := hk.1
          rcases hst with q | q | q <;> (have := Nat.eq_of_beq_eq_true q; omega)
      have hrun := g_run (mc := mc) (ms := ms) (cells := kc) (slots := ks) (e := e) (R := R) (args := args) (below := below) (locs := locs) hf hA hP (hlv.1.trans hA.2.2.1.symm) hCl hd (by omega) (by omega) (by rw [hRf]) (by rw [hRl]) (by omega) (by omega) (r := st.drop (hh.getD 2 0)) (Nat.le_of_ble_eq_true hc.2.1) hk2 hM2 (by rw [List.length_reverse]; exact Nat.eq_of_beq_eq_true hc.1) (Nat.eq_of_beq_eq_true hc.2.2)
      rw [← hstk] at hrun
      exact go p l e R s m args below meth c P H locs ls _ _ hA hRf hRl hRc hRs hlv hL hrun hK
  | false =>
    rw [hst] at h
    dsimp only [cond_false] at h
    split at h
    · rename_i b r hdrop
      split at h
      · cases h
      · rename_i d hwb
        cases hc : Nat.ble (gSum r) 8 && ((Nat.beq (hh.headD 0) 2 || Nat.beq d.1 (hh.getD 3 0 + 8)) && (bif Nat.beq (hh.headD 0) 5 then Nat.beq len 5 else Nat.beq len 3)) with
        | false => rw [hc] at h; cases h
        | true =>
          rw [hc] at h
          dsimp only [cond_true] at h
          rw [Bool.and_eq_true, Bool.and_eq_true, Bool.or_eq_true] at hc
          obtain ⟨⟨tagN, pcN, vsN, wN, mc, ms⟩, hE⟩ := gAfter_some h
          rw [hE] at h
          obtain ⟨f1, L1, sz1, hex⟩ := gEnter_ok hE
          obtain ⟨-, -, hv1, -⟩ := ih N hNok _ (fun _ h => h) _ _ _ _ _ _ _ _ _ _ _ _ _ _ hex
          obtain ⟨h1, h2, h3v, go⟩ := g_aft hX ih hM hcs hv1 h
          refine ⟨by omega, by omega, h3v, fun p l e R s m args below meth c P H locs ls hA hRf hRl hRc hRs hlv hP hL hK => ?_⟩
          have hM2 := g_met hf ih hNok sz1 hex l hA.2.2.2.2.2.2.2.2.2.2
          have hstk : st = (st.take (hh.getD 2 0)).reverse.reverse ++ .ref b :: r := by rw [List.reverse_reverse, ← hdrop, List.take_append_drop]
          have hlenA : (st.take (hh.getD 2 0)).length = hh.getD 2 0 := by
            have h9 : (st.drop (hh.getD 2 0)).length = r.length + 1 := by rw [hdrop]; rfl
            rw [List.length_drop] at h9
            rw [List.length_take]
            omega
          have hk2 := hk.resolve_left (fun q => by rw [q.1] at hst; cases hst)
          have hk3 := hk2.resolve_left (fun q => by rw [q.1] at hst; cases hst)
          have hk4 := hk3.resolve_left (fun q => by rw [q.1] at hst; cases hst)
          have hlen2 : len = if hh.headD 0 = 5 then 5 else 3 := by
            have h9 := hc.2.2
            cases h5 : Nat.beq (hh.headD 0) 5 with
            | true => rw [h5] at h9; rw [if_pos (Nat.eq_of_beq_eq_true h5)]; exact Nat.eq_of_beq_eq_true h9
            | false => rw [h5] at h9; rw [if_neg (fun e => by rw [e] at h5; cases h5)]; exact Nat.eq_of_beq_eq_true h9
          have hrun := g_runR (mc := mc) (ms := ms) (cells := kc) (slots := ks) (e := e) (R := R) (args := args) (below := below) (locs := locs) hf hA hP (hlv.1.trans hA.2.2.1.symm) hCl hd (by omega) (by omega) (by rw [hRf]) (by rw [hRl]) (by omega) (by omega) (r := r) (Nat.le_of_ble_eq_true hc.1) hwb (hc.2.1.imp Nat.eq_of_beq_eq_true Nat.eq_of_beq_eq_true) hk4 hM2 (by rw [List.length_reverse]; exact hlenA) hlen2
          rw [← hstk] at hrun
          exact go p l e R s m args below meth c P H locs ls _ _ hA hRf hRl hRc hRs hlv hL hrun hK
    · cases h
set_option maxHeartbeats 4000000 in
theorem g_snd {X : gX} (hX : gXok Q G T Z S fv X) : ∀ n : Nat, gSnd Q G D cy T Z S B fv H0 X n
  | 0 => fun M hM cs hcs pc l1 st w f L kc ks tag pcR vs w' kc' ks' h => by cases h
  | n + 1 => fun M hM cs hcs pc l1 st w f L kc ks tag pcR vs w' kc' ks' h => by
    have ih := g_snd hX n
    have hf : gFv fv := hX.2.2.2.2.2.2.2.2
    rw [ex_s] at h
    unfold gStep at h
    split at h
    · cases h
    · rename_i q hq
      obtain ⟨g1, g2, g3⟩ := gSeek_ok hcs hq
      obtain ⟨hd, hact⟩ := hM.1 _ g1
      rw [g2] at hd
      unfold gRun at h
      cases ha : q.1.2.2.2.2 with
      | inl g =>
        rw [ha] at h hact
        dsimp only at h hact
        rw [hact] at h
        split at h
        · cases h
        · rename_i z hz
          cases hl : Nat.beq q.1.2.2.1 z.1 with
          | false => rw [hl] at h; cases h
          | true =>
            rw [hl] at h
            dsimp only [cond_true] at h
            rw [Nat.eq_of_beq_eq_true hl] at hd
            obtain ⟨h1, h2, h3v, go⟩ := ih M hM _ g3 _ _ _ _ _ _ _ _ _ _ _ _ _ _ h
            refine ⟨h1, h2, h3v, fun p l e R s m args below meth c P H locs ls hA hRf hRl hRc hRs hlv hP hL hK => ?_⟩
            exact pure_ok hA.1 hA.2.1 hf hX.2.2.2.2.1 hz hd hlv fun ls2 hl2 => go p l e R s m args below meth c P H locs ls2 hA hRf hRl hRc hRs hl2 hP hL hK
      | inr a1 =>
        cases a1 with
        | inl g =>
          rw [ha] at h hact
          dsimp only at h hact
          rw [hact] at h
          split at h
          · cases h
          · rename_i z hz
            cases hl : Nat.beq q.1.2.2.1 z.1 with
            | false => rw [hl] at h; cases h
            | true =>
              rw [hl] at h
              dsimp only [cond_true] at h
              rw [Nat.eq_of_beq_eq_true hl] at hd
              split at h
              · cases h
              · rename_i t ht
                obtain ⟨h1, h2, h3v, go⟩ := ih M hM _ g3 _ _ _ _ _ _ _ _ _ _ _ _ _ _ h
                refine ⟨h1, h2, h3v, fun p l e R s m args below meth c P H locs ls hA hRf hRl hRc hRs hlv hP hL hK => ?_⟩
                exact br_ok hA.1 hA.2.1 hf hX.2.2.2.1 hz hd ht (go p l e R s m args below meth c P H locs ls hA hRf hRl hRc hRs hlv hP hL hK)
        | inr a2 =>
          cases a2 with
          | inl g =>
            rw [ha] at h hact
            dsimp only at h hact
            obtain ⟨hg, hlk, hn1, hn2⟩ := hact
            rw [hg, hX.1, hX.2.1, hX.2.2.1] at h
            split at h
            · cases h
            · rename_i z hz
              cases hl : Nat.beq q.1.2.2.1 z.1 with
              | false => rw [hl] at h; cases h
              | true =>
                rw [hl] at h
                dsimp only [cond_true] at h
                rw [Nat.eq_of_beq_eq_true hl] at hd
                obtain ⟨h1, h2, h3v, go⟩ := ih M hM _ g3 _ _ _ _ _ _ _ _ _ _ _ _ _ _ h
                refine ⟨by omega, by omega, h3v, fun p l e R s m args below meth c P H locs ls hA hRf hRl hRc hRs hlv hP hL hK => ?_⟩
                refine W.grown fun hgr => ?_
                have hA' := hA
                obtain ⟨hx, hb, hml, hr, hown, hnm, htab, hlocks, hCs, hs0, hst⟩ := hA'
                exact heap_ok hx hb hf hown hnm hCs.1 hX.2.2.2.2.2.2.1 hX.2.2.2.2.2.2.2.1 hCs.2.1 hgr hs0 hP hL hz hlk hn1 hn2 hd (Nat.le_trans h1 hRc) (Nat.le_trans h2 hRs) fun H1 locs1 hP1 hL1 => go p l e R s m args below meth c P H1 locs1 ls hA hRf hRl hRc hRs hlv hP1 hL1 hK
          | inr a3 =>
            cases a3 with
            | inl g =>
              rw [ha] at h hact
              dsimp only at h hact
              cases hl : Nat.beq q.1.2.2.1 1 && g M.2.2.2.1 st with
              | false => rw [hl] at h; cases h
              | true =>
                rw [hl] at h
                cases h
                rw [Bool.and_eq_true] at hl
                rw [Nat.eq_of_beq_eq_true hl.1] at hd
                have hret := hact _ _ hl.2
                refine ⟨Nat.le_refl _, Nat.le_refl _, (fun _ => gRet_len hret), fun p l e R s m args below meth c P H locs ls hA hRf hRl hRc hRs hlv hP hL hK => ?_⟩
                exact (hK H locs ls hL (hlv.1.trans hA.2.2.1.symm)).1 rfl hP ⟨_, hd, hret⟩
            | inr bt =>
              cases bt with
              | true =>
                rw [ha] at h hact
                dsimp only at h hact
                exact g_call hX ih hM g3 hd hact h
              | false =>
                rw [ha] at h hact
                dsimp only at h hact
                cases hl : Nat.ble (gSum st) 8 && (Nat.ble 6 f && Nat.ble 90 L) with
                | false => rw [hl] at h; cases h
                | true =>
                  rw [hl] at h
                  dsimp only [cond_true] at h
                  simp only [Option.some.injEq, Prod.mk.injEq] at h
                  obtain ⟨rfl, rfl, rfl, rfl, rfl, rfl⟩ := h
                  rw [Bool.and_eq_true, Bool.and_eq_true] at hl
                  refine ⟨by omega, by omega, (fun h9 => absurd h9 (by omega)), fun p l e R s m args below meth c P H locs ls hA hRf hRl hRc hRs hlv hP hL hK => ?_⟩
                  have h6 := Nat.le_of_ble_eq_true hl.2.1
                  have h9 := Nat.le_of_ble_eq_true hl.2.2
                  exact (hK H locs ls hL (hlv.1.trans hA.2.2.1.symm)).2.1 w kc ks _ (Nat.mod_lt _ (by omega)) rfl rfl rfl rfl hP (by rw [g2] at hact; exact hact) (Nat.le_of_ble_eq_true hl.1) (by omega) (by omega)
end GST
