/-! ===== arrays of arrays, stores, statics, constants ===== -/
theorem g_outer (c : ClassId) (N h0 : Nat) : ∀ i : Nat, Jvm.Free.Multi.outerC c N h0 i = arrV c N (fun j => if j < i then .ref (h0 + 1 + j) else .null)
  | 0 => by
    show ({ cls := c, slots := Array.replicate N .null, vm := .none } : Cell) = _
    rw [arrV_new]
    refine congrArg (arrV c N) (funext fun j => ?_)
    simp
  | i + 1 => by
    show (Jvm.Free.Multi.outerC c N h0 i).setSlot i (.ref (h0 + 1 + i)) = _
    rw [g_outer c N h0 i, arrV_store]
    refine congrArg (arrV c N) (funext fun j => ?_)
    by_cases e : j = i
    · subst e
      simp [updV]
    · by_cases h : j < i
      · simp [updV, e, h, Nat.lt_succ_of_lt h]
      · simp [updV, e, h, show ¬ j < i + 1 by omega]
theorem gHp.app {Q : List gQ} {D : va_G} {cy : Nat → ClassId} {B : Nat} {fv : Nat → Value} {H0 H H1 : Heap} {w x : gW} (h : gHp Q D cy B fv H0 w H) (hz : H1.size = H.size + x.length) (ho : ∀ q : Nat, q < H.size → H1[q]? = H[q]?) (hd : ∀ (j : Nat) (d : Nat × List Value), x[j]? = some d → gAt Q D cy B fv (H.size + j) d H1) : gHp Q D cy B fv H0 (w ++ x) H1 := by
  refine ⟨by rw [hz, h.1, List.length_append]; omega, fun q hq => (ho q (by rw [h.1]; omega)).trans (h.2.1 q hq), fun j d hj => ?_⟩
  rcases Nat.lt_or_ge j w.length with hlt | hge
  · rw [List.getElem?_append_left hlt] at hj
    exact (h.2.2 j d hj).kept (ho _ (by rw [h.1]; omega))
  · rw [List.getElem?_append_right hge] at hj
    have := hd _ _ hj
    rw [h.1, show B + w.length + (j - w.length) = B + j by omega] at this
    exact this
section GMN
variable {p : Program} {l : Launch} {e : Env} {R : Room} {s : State} {m : MethodId} {args : Array Value} {below : List Frame} {meth : Method} {c : Code} {H : Heap} {locs : List Loc} {cells slots : Nat} {P : State → Prop}
variable {cc : ByteArray} {pc : Nat} {ls : Array Slot} {B : Nat} {fv : Nat → Value} {Q : List gQ} {G : List Jvm.Cond} {D : va_G} {cy : Nat → ClassId} {H0 : Heap} {own : String} {w : gW} {rest : List Value} {T : gT} {Z : gZ}
theorem g_mna (hx : p.tables.exec = Jvm.exec) (hb : c.code = cc) (hown : s.vm.findClass own = some m.cls) (hC : gCt Q G D cy s) (hP : gHp Q D cy B fv H0 w H) {idx t n dc ds : Nat} {w2 : gW} {st st2 : List Value} (h : gMna t w st = some (n, w2, st2, dc, ds)) (hM : gMOk G own idx t) (hd : decode cc pc = .ok (.multianewarray idx 2, n)) (hcl : cells + dc ≤ R.cells) (hsl : slots + ds ≤ R.slots)
    (hL : ∀ q ∈ locs, B ≤ q.base) (kk : ∀ (H1 : Heap) (locs1 : List Loc), gHp Q D cy B fv H0 w2 H1 → (∀ q ∈ locs1, B ≤ q.base) → W p l e R s m args below meth c H1 locs1 (cells + dc) (slots + ds) P (F0 m (pc + n) ls (st2.map (gv B fv)))) : W p l e R s m args below meth c H locs cells slots P (F0 m pc ls (st.map (gv B fv))) := by
  unfold gMna at h
  split at h
  · rename_i k9 n9 r
    split at h
    · cases h
    · rename_i hk
      split at h
      · cases h
      · rename_i hn
        cases hi : Nat.ble n9.toNatClampNeg 1000 && Nat.ble k9.toNatClampNeg 1000 with
        | false => rw [hi] at h; cases h
        | true =>
          rw [hi] at h
          cases h
          rw [Bool.and_eq_true] at hi
          have hle := Nat.le_of_ble_eq_true hi.1
          have hle2 := Nat.le_of_ble_eq_true hi.2
          obtain ⟨ty, hty, hl, ho, ha⟩ := hM
          obtain ⟨ht4, ht, ht2, hdf, hdd, hdv, hcb⟩ : 4 ≤ t ∧ gAty[t]? = some (.array ty) ∧ gAty[t - 4]? = some ty ∧ fits ty (defaultValue ty) = true ∧ (defaultValue ty).isDefault = true ∧ defaultValue ty = .int 0 ∧ componentBytes ty ≤ 4 := by
            rcases hty with ⟨rfl, rfl⟩ | ⟨rfl, rfl⟩
            · exact ⟨by omega, rfl, rfl, rfl, rfl, rfl, Nat.le_refl _⟩
            · exact ⟨by omega, rfl, rfl, rfl, rfl, rfl, by decide⟩
          have ht7 : t < 7 := by rcases hty with ⟨rfl, -⟩ | ⟨rfl, -⟩ <;> omega
          intro X hX Xs
          obtain ⟨vm₁, cA, comp, -, fA, fC, hO, -, X', step⟩ := Xs.multianewarray2F hx hown (hC.1 _ hl rfl args) (hC.1 _ ho rfl args) (hC.1 _ ha rfl args) (g := F0 m pc ls (.int k9 :: .int n9 :: r.map (gv B fv))) rfl (by rw [hb]; exact hd) rfl hn hk (by omega) (Nat.le_trans (Nat.mul_le_mul hle2 hcb) (by decide)) (by omega) hdf hdd hcl hsl
          have eA : cA = cy t := Option.some.inj (fA.symm.trans (hC.2.2.1 t _ ht).2)
          have eC : comp = cy (t - 4) := Option.some.inj (fC.symm.trans (hC.2.2.1 (t - 4) _ ht2).2)
          subst eA; subst eC
          generalize hF : Jvm.Free.Multi.fill (X.setVm vm₁) (cy t) (cy (t - 4)) n9.toNatClampNeg k9.toNatClampNeg (defaultValue ty) n9.toNatClampNeg = F at X' step
          have hTh : (X.setVm vm₁).heap = H := hX
          obtain ⟨f1, f2, -, -⟩ := Jvm.Free.Multi.fill_facts (X.setVm vm₁) (cy t) (cy (t - 4)) n9.toNatClampNeg k9.toNatClampNeg (defaultValue ty) n9.toNatClampNeg
          rw [hF, hTh] at f1 f2
          have hold : ∀ x : Nat, x < H.size → F.heap[x]? = H[x]? := fun x hx => by
            have := Jvm.Free.Multi.fill_old (X.setVm vm₁) (cy t) (cy (t - 4)) n9.toNatClampNeg k9.toNatClampNeg (defaultValue ty) (a := x) (by rw [hTh]; exact hx) n9.toNatClampNeg
            rw [hF, hTh] at this
            exact this
          have hrow : ∀ j : Nat, j < n9.toNatClampNeg → F.heap[H.size + 1 + j]? = some (arrV (cy (t - 4)) k9.toNatClampNeg (fun _ => .int 0)) := fun j hj => by
            have := Jvm.Free.Multi.fill_inner (X.setVm vm₁) (cy t) (cy (t - 4)) n9.toNatClampNeg k9.toNatClampNeg (defaultValue ty) n9.toNatClampNeg j hj
            rw [hF, hTh, hdv] at this
            rw [this, ← arrV_new]
            rfl
          rw [g_outer] at f2
          have happ := hP.app (H1 := F.heap) (x := (t, (List.range n9.toNatClampNeg).map (fun i => Value.ref (w.length + 1 + i))) :: List.replicate n9.toNatClampNeg (t - 4, List.replicate k9.toNatClampNeg (.int 0))) (by rw [f1]; simp; omega) hold (fun j d hj => by
            cases j with
            | zero =>
              cases hj
              refine ⟨fun _ => ?_, fun ci q9 h9 => absurd h9 (by show ¬ t = ci + 8; omega)⟩
              rw [Nat.add_zero, f2]
              simp only [List.length_map, List.length_range]
              unfold arrV
              congr 2
              congr 1
              funext j
              have e1 : ((List.range n9.toNatClampNeg).map (fun i => Value.ref (w.length + 1 + i))).getD j.val .null = .ref (w.length + 1 + j.val) := by
                rw [List.getD_eq_getElem?_getD, List.getElem?_map, List.getElem?_range j.isLt]; rfl
              show (if j.val < n9.toNatClampNeg then Value.ref (H.size + 1 + j.val) else .null) = gv B fv (((List.range n9.toNatClampNeg).map (fun i => Value.ref (w.length + 1 + i))).getD j.val .null)
              rw [if_pos j.isLt, e1]
              show Value.ref (H.size + 1 + j.val) = Value.ref (B + (w.length + 1 + j.val))
              rw [hP.1]
              exact congrArg Value.ref (show (B + w.length + 1 + j.val : Nat) = B + (w.length + 1 + j.val) by omega)
            | succ j =>
              rw [List.getElem?_cons_succ, List.getElem?_replicate] at hj
              split at hj
              · rename_i hj2
                cases hj
                refine ⟨fun _ => ?_, fun ci q9 h9 => absurd h9 (by show ¬ t - 4 = ci + 8; omega)⟩
                rw [show H.size + (j + 1) = H.size + 1 + j by omega, hrow j hj2]
                exact congrArg some (g_rep rfl _)
              · cases hj)
          have k1 := kk _ locs happ hL
          rw [List.map_cons, show gv B fv (.ref w.length) = .ref H.size from congrArg Value.ref hP.1.symm, ← Nat.add_assoc, ← Nat.add_assoc] at k1
          obtain ⟨t2, a1, b1⟩ := k1 F rfl X'
          refine ⟨t2, step t2 ?_, b1⟩
          rw [hX]
          exact a1
  · cases h
theorem g_upd2 {vs : List Value} {N k : Nat} (hk : k < vs.length) (v : Value) (cA : ClassId) (hN : vs.length = N) : (arrV cA N (fun j => gv B fv (vs.getD j .null))).setSlot k (gv B fv v) = arrV cA (vs.set k v).length (fun j => gv B fv ((vs.set k v).getD j .null)) := by
  rw [arrV_store, List.length_set, hN]
  refine congrArg (arrV cA N) (funext fun j => ?_)
  exact g_upd hk v j
theorem g_store (hx : p.tables.exec = Jvm.exec) (hb : c.code = cc) (hf : gFv fv) (hC : gCt Q G D cy s) (hK : gKt T Z B fv H0 s) (hP : gHp Q D cy B fv H0 w H) (hL : ∀ q ∈ locs, B ≤ q.base) (hG : Jvm.Cond.castable "[I" "java/lang/Object" ∈ G) {t n dc ds : Nat} {w2 : gW} {st st2 : List Value} (h : gStore t w st = some (n, w2, st2, dc, ds))
    (hd : (t = 0 ∧ decode cc pc = .ok (.iastore, n)) ∨ (t = 2 ∧ decode cc pc = .ok (.lastore, n)) ∨ (t = 3 ∧ decode cc pc = .ok (.dastore, n)) ∨ (t = 6 ∧ decode cc pc = .ok (.aastore, n)))
    (kk : ∀ (H1 : Heap) (locs1 : List Loc), gHp Q D cy B fv H0 w2 H1 → (∀ q ∈ locs1, B ≤ q.base) → W p l e R s m args below meth c H1 locs1 (cells + dc) (slots + ds) P (F0 m (pc + n) ls (st2.map (gv B fv)))) : W p l e R s m args below meth c H locs cells slots P (F0 m pc ls (st.map (gv B fv))) := by
  unfold gStore at h
  split at h
  · rename_i v j a r
    split at h
    · cases h
    · rename_i q hq
      cases hi : Nat.beq q.1 t && gStOk t w v with
      | false => rw [hi] at h; cases h
      | true =>
      rw [hi] at h
      dsimp only [cond_true] at h
      split at h
      · cases h
      · rename_i hj
        cases hb2 : Nat.ble (j.toNatClampNeg + 1) q.2.length with
        | false => rw [hb2] at h; cases h
        | true =>
          rw [hb2] at h
          cases h
          have hlt : j.toNatClampNeg < q.2.length := Nat.le_of_ble_eq_true hb2
          rw [Bool.and_eq_true] at hi
          have e7 := Nat.eq_of_beq_eq_true hi.1
          have hok := hi.2
          clear hi
          obtain ⟨t', vs⟩ := q
          have e7 : t' = t := e7
          subst e7
          have h6 : t' < 7 := by omega
          have hcell := (hP.2.2 a _ hq).1 h6
          have hin : ¬ (j < 0 ∨ (arrV (cy t') vs.length (fun j => gv B fv (vs.getD j .null))).slots.size ≤ j.toNatClampNeg) := by
            rw [arrV_size]; intro h9; rcases h9 with h9 | h9
            · exact hj h9
            · exact absurd hlt (by show ¬ _ < vs.length; omega)
          have hend : ∀ H' : Heap, H'[B + a]? = some ((arrV (cy t') vs.length (fun j => gv B fv (vs.getD j .null))).setSlot j.toNatClampNeg (gv B fv v)) → H'.size = H.size → (∀ q : Nat, q ≠ B + a → H'[q]? = H[q]?) → W p l e R s m args below meth c H' (locs ++ [⟨B + a, j.toNatClampNeg⟩]) cells slots P (F0 m (pc + 1) ls (st2.map (gv B fv))) := by
            intro H' e1 e2 e3
            refine kk H' _ (hP.set hq ⟨fun _ => ?_, fun ci q9 h9 => absurd h9 (by show ¬ t' = ci + 8; omega)⟩ e2 e3) (gLc (a := B + a) hL (Nat.le_add_right B a))
            rw [e1]
            exact congrArg some (g_upd2 hlt v _ rfl)
          rcases hd with ⟨rfl, hd⟩ | ⟨rfl, hd⟩ | ⟨rfl, hd⟩ | ⟨rfl, hd⟩
          · obtain ⟨x, ex⟩ := gv_I (B := B) hf hok
            rw [List.map_cons, ex]
            rw [ex] at hend
            exact W.iast hx hb hcell ((hC.2.2.1 0 .int rfl).1 _ _) (fun h => by cases h) hin rfl rfl hd hend
          · cases v with
            | long x => exact W.last hx hb hcell ((hC.2.2.1 2 .long rfl).1 _ _) (fun h => by cases h) hin rfl rfl hd hend
            | _ => cases hok
          · cases v with
            | double x => exact W.dast hx hb hcell ((hC.2.2.1 3 .double rfl).1 _ _) (fun h => by cases h) hin rfl rfl hd hend
            | _ => cases hok
          · have hany : ∃ (x : Nat) (cv : Cell) (kv : Class), gv B fv v = .ref x ∧ H[x]? = some cv ∧ (∀ q, cv.vm ≠ .statics q) ∧ s.vm.classes[cv.cls]? = some kv ∧ ∀ comp : ClassId, s.vm.findClass "java/lang/Object" = some comp → s.vm.assignable cv.cls comp = true := by
              cases v with
              | ref k =>
                have hi2 : (match w[k]? with | some d => Nat.beq d.1 0 | none => false) = true := hok
                cases hk : w[k]? with
                | none => rw [hk] at hi2; cases hi2
                | some d =>
                  rw [hk] at hi2
                  have e0 : d.1 = 0 := Nat.eq_of_beq_eq_true hi2
                  have g1 := (hP.2.2 k d hk).1 (by omega)
                  have hfc := (hC.2.2.1 0 .int rfl).2
                  obtain ⟨kC, hkC, -⟩ := Vm.findClass_spec hfc
                  refine ⟨B + k, _, kC, rfl, g1, (fun q h => by cases h), (by rw [e0]; exact hkC), fun comp hcomp => ?_⟩
                  show s.vm.assignable (cy d.1) comp = true
                  rw [e0]
                  obtain ⟨x, t1, f1, f2, f3⟩ := Cond.castable_spec (hC.1 _ hG rfl #[])
                  have ex : x = cy 0 := Option.some.inj (f1.symm.trans hfc)
                  have et : t1 = comp := Option.some.inj (f2.symm.trans hcomp)
                  rw [← ex, ← et]
                  exact f3
              | float u =>
                have hi2 : (Nat.ble 102 u.toNat && Nat.ble u.toNat 455 && !Nat.beq u.toNat 103) = true := hok
                rw [Bool.and_eq_true, Bool.and_eq_true] at hi2
                obtain ⟨t9, ht, hlt9, cv, g1, g2, ⟨kC, hkC⟩, g4⟩ := hK.2.2 u.toNat (Nat.le_of_ble_eq_true hi2.1.1) (Nat.lt_succ_of_le (Nat.le_of_ble_eq_true hi2.1.2)) (fun h9 => by rw [h9] at hi2; exact absurd hi2.2 (by decide))
                exact ⟨t9, cv, kC, ht, (by rw [hP.2.1 t9 hlt9]; exact g1), (fun q h => by rw [h] at g2; cases g2), hkC, g4⟩
              | _ => cases hok
            obtain ⟨x, cv, kv, ex, g1, g2, g3, g4⟩ := hany
            rw [List.map_cons, ex]
            rw [ex] at hend
            obtain ⟨kA, comp, k1, k2, k3, -⟩ := hC.2.2.2
            obtain ⟨kE, hkE, -⟩ := Vm.findClass_spec k3
            exact W.aast hx hb hcell (fun q h => by cases h) (fun h => by cases h) k1 k2 rfl hkE ⟨hj, by rw [arrV_size]; exact hlt⟩ g1 g2 g3 (g4 comp k3) rfl rfl hd hend
  · cases h
end GMN
