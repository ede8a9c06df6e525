/-! ===== the heap: a cell of ours is (tag, values): tags 0..6 arrays (of int, boolean, long, double, int[], boolean[], Object), 7 a cell of which nothing is said, 8 + ci an object of class ci ===== -/
abbrev gQ : Type := vw_C × (Nat → FieldType)
def gAty : List FieldType := [.int, .boolean, .long, .double, .array .int, .array .boolean, .object "java/lang/Object"]
/-- the kinds of words that stay, whatever a method resolves -/
def gStd (w : Jvm.Cond) : Bool := match w with
  | .fieldLinkNest .. => true
  | .methodLinkNest .. => true
  | .arrayOver (.object _) => true
  | .arrayOver (.array _) => true
  | .castable .. => true
  | .superclass .. => true
  | .declares _ => true
  | w => goodWord w
/-- what a method's start holds of the tables: the words, the classes, the arrays' classes -/
def gCt (Q : List gQ) (G : List Jvm.Cond) (D : va_G) (cy : Nat → ClassId) (s : State) : Prop :=
  (∀ w ∈ G, gStd w = true → ∀ a : Array Value, w.before a s = true) ∧ (∀ (ci : Nat) (q : gQ), Q[ci]? = some q → u_Kn s q.1.1 q.1.2.1 q.1.2.2 (D.1 ci) (D.2 ci)) ∧
  (∀ (t : Nat) (ty : FieldType), gAty[t]? = some ty → ArrOfT s (cy t) ty ∧ s.vm.findClass ("[" ++ ty.toString) = some (cy t)) ∧ va_RA s (cy 6) (.object "java/lang/Object")
/-- the classes' own rows, by program -/
def gQok (Q : List gQ) (G : List Jvm.Cond) : Prop := ∀ (ci : Nat) (q : gQ), Q[ci]? = some q →
  (∀ w ∈ u_ws q.1.1 q.1.2.1 q.1.2.2, w ∈ G) ∧ (∀ k, k < q.1.2.2 → parseFieldDescriptor (q.1.2.1 k).2.2.1 = some (q.2 k)) ∧ (∀ a, a < q.1.2.2 → ∀ b, b < q.1.2.2 → a ≠ b → (q.1.2.1 a).2.1 ≠ (q.1.2.1 b).2.1)
def gAt (Q : List gQ) (D : va_G) (cy : Nat → ClassId) (B : Nat) (fv : Nat → Value) (a : Nat) (c : Nat × List Value) (H : Heap) : Prop :=
  (c.1 < 7 → H[a]? = some (arrV (cy c.1) c.2.length (fun j => gv B fv (c.2.getD j .null)))) ∧
  ∀ (ci : Nat) (q : gQ), c.1 = ci + 8 → Q[ci]? = some q → t_OB a (D.1 ci) q.1.2.2 (D.2 ci) H (fun j => gv B fv (c.2.getD j .null))
def gHp (Q : List gQ) (D : va_G) (cy : Nat → ClassId) (B : Nat) (fv : Nat → Value) (H0 : Heap) (w : gW) (H : Heap) : Prop :=
  H.size = B + w.length ∧ (∀ q : Nat, q < B → H[q]? = H0[q]?) ∧ ∀ (k : Nat) (c : Nat × List Value), w[k]? = some c → gAt Q D cy B fv (B + k) c H
section GHP
variable {Q : List gQ} {D : va_G} {cy : Nat → ClassId} {B : Nat} {fv : Nat → Value} {H0 : Heap}
theorem gAt.kept {a : Nat} {c : Nat × List Value} {H H1 : Heap} (h : gAt Q D cy B fv a c H) (e : H1[a]? = H[a]?) : gAt Q D cy B fv a c H1 :=
  ⟨fun h1 => e.trans (h.1 h1), fun ci q h1 h2 => (h.2 ci q h1 h2).kept e⟩
theorem gHp.lt {w : gW} {H : Heap} (h : gHp Q D cy B fv H0 w H) {k : Nat} {c : Nat × List Value} (hk : w[k]? = some c) : B + k < H.size := by
  have := (List.getElem?_eq_some_iff.mp hk).1
  rw [h.1]; omega
theorem gHp.set {w : gW} {H H1 : Heap} (h : gHp Q D cy B fv H0 w H) {k : Nat} {c d : Nat × List Value} (hk : w[k]? = some c) (hd : gAt Q D cy B fv (B + k) d H1) (hz : H1.size = H.size) (ho : ∀ q : Nat, q ≠ B + k → H1[q]? = H[q]?) : gHp Q D cy B fv H0 (w.set k d) H1 := by
  refine ⟨by rw [hz, List.length_set]; exact h.1, fun q hq => (ho q (by omega)).trans (h.2.1 q hq), fun j x hj => ?_⟩
  rw [List.getElem?_set] at hj
  split at hj
  · rename_i e
    split at hj
    · cases hj; rw [← e]; exact hd
    · cases hj
  · rename_i e
    exact (h.2.2 j x hj).kept (ho _ (by omega))
theorem gHp.push {w : gW} {H H1 : Heap} (h : gHp Q D cy B fv H0 w H) {d : Nat × List Value} (hd : gAt Q D cy B fv H.size d H1) (hz : H1.size = H.size + 1) (ho : ∀ q : Nat, q < H.size → H1[q]? = H[q]?) : gHp Q D cy B fv H0 (w ++ [d]) H1 := by
  refine ⟨by rw [hz, h.1, List.length_append]; rfl, fun q hq => (ho q (by rw [h.1]; omega)).trans (h.2.1 q hq), fun j x hj => ?_⟩
  rcases Nat.lt_or_ge j w.length with hlt | hge
  · rw [List.getElem?_append_left hlt] at hj
    exact (h.2.2 j x hj).kept (ho _ (by rw [h.1]; omega))
  · rw [List.getElem?_append_right hge] at hj
    have h0 : j - w.length < 1 := (List.getElem?_eq_some_iff.mp hj).1
    have e : j = w.length := by omega
    subst e
    rw [Nat.sub_self] at hj
    cases hj
    rw [← h.1]; exact hd
end GHP
def gA (B : Nat) : Nat → Prop := fun q => B ≤ q
theorem gLc {B a k : Nat} {locs : List Loc} (h : ∀ q ∈ locs, B ≤ q.base) (ha : B ≤ a) : ∀ q ∈ locs ++ [⟨a, k⟩], B ≤ q.base := fun q hq => (List.mem_append.mp hq).elim (h q) (fun h1 => by rw [List.mem_singleton.mp h1]; exact ha)
/-- a field by its link: own's entry idx is class ci's k-th field -/
def gFOk (Q : List gQ) (G : List Jvm.Cond) (own : String) (idx ci k : Nat) : Prop := ∃ (q : gQ) (ref : String), Q[ci]? = some q ∧ k < q.1.2.2 ∧
  (Jvm.Cond.fieldLink own idx ref (q.1.2.1 k).2.1 (q.1.2.1 k).2.2.1 ∈ G ∨ ∃ host, Jvm.Cond.fieldLinkNest own idx ref (q.1.2.1 k).2.1 (q.1.2.1 k).2.2.1 host ∈ G) ∧
  (ref = (q.1.2.1 k).1 ∨ Jvm.Cond.sameField ref (q.1.2.1 k).1 (q.1.2.1 k).2.1 (q.1.2.1 k).2.2.1 ∈ G)
/-- .. and is not final, or written in its class's constructor -/
def gFOkP (Q : List gQ) (G : List Jvm.Cond) (own nm : String) (idx ci k : Nat) : Prop := gFOk Q G own idx ci k ∧ ∃ q : gQ, Q[ci]? = some q ∧
  ((q.1.2.1 k).2.2.2 = false ∨ ((q.1.2.1 k).2.2.2 = true ∧ nm = "<init>" ∧ (q.1.2.1 k).1 = own ∧ Jvm.Cond.fieldLink own idx (q.1.2.1 k).1 (q.1.2.1 k).2.1 (q.1.2.1 k).2.2.1 ∈ G))
/-- the value fits a field or an element of the type -/
def gFit (ty : FieldType) (v : Value) : Bool := match ty with
  | .int => gIsI v
  | .boolean => match v with | .int x => decide (x = 0) || decide (x = 1) | _ => false
  | .object _ => gIsR v
  | .array _ => gIsR v
  | _ => false
theorem gFit_ok {B : Nat} {fv : Nat → Value} (hf : gFv fv) {ty : FieldType} {v : Value} (h : gFit ty v = true) : narrow ty (gv B fv v) = gv B fv v ∧ fits ty (gv B fv v) = true := by
  cases ty with
  | int => obtain ⟨x, e⟩ := gv_I (B := B) hf h; rw [e]; exact ⟨rfl, rfl⟩
  | boolean =>
    cases v with
    | int x =>
      have h1 : (decide (x = 0) || decide (x = 1)) = true := h
      rw [Bool.or_eq_true] at h1
      rcases h1 with h1 | h1
      · rw [of_decide_eq_true h1]; show narrow .boolean (.int 0) = .int 0 ∧ fits .boolean (.int 0) = true; exact ⟨by decide, by decide⟩
      · rw [of_decide_eq_true h1]; show narrow .boolean (.int 1) = .int 1 ∧ fits .boolean (.int 1) = true; exact ⟨by decide, by decide⟩
    | _ => cases h
  | object n => rcases gv_R (B := B) hf h with e | ⟨a, e⟩ <;> rw [e] <;> exact ⟨rfl, rfl⟩
  | array t => rcases gv_R (B := B) hf h with e | ⟨a, e⟩ <;> rw [e] <;> exact ⟨rfl, rfl⟩
  | _ => cases h
section GHW
variable {p : Program} {l : Launch} {e : Env} {R : Room} {s : State} {m : MethodId} {args : Array Value} {below : List Frame} {meth : Method} {c : Code} {H : Heap} {locs : List Loc} {cells slots : Nat} {P : State → Prop}
variable {cc : ByteArray} {pc : Nat} {ls : Array Slot} {B : Nat} {fv : Nat → Value} {Q : List gQ} {G : List Jvm.Cond} {D : va_G} {cy : Nat → ClassId} {H0 : Heap} {own : String} {w : gW} {rest : List Value}
theorem g_getf (hx : p.tables.exec = Jvm.exec) (hb : c.code = cc) (hown : s.vm.findClass own = some m.cls) (hC : gCt Q G D cy s) (hQ : gQok Q G) (hP : gHp Q D cy B fv H0 w H) {idx ci k a : Nat} (hF : gFOk Q G own idx ci k) {vs : List Value} (hw : w[a]? = some (ci + 8, vs)) {v : Value} (hv : vs[k]? = some v) (hd : decode cc pc = .ok (.getfield idx, 3))
    (kk : W p l e R s m args below meth c H locs cells slots P (F0 m (pc + 3) ls (gv B fv v :: rest))) : W p l e R s m args below meth c H locs cells slots P (F0 m pc ls (.ref (B + a) :: rest)) := by
  obtain ⟨q, ref, hq, hk, hl, hs⟩ := hF
  obtain ⟨hS, hfc, kC, hkC, hkind⟩ := hC.2.1 ci q hq
  obtain ⟨cell, q1, q2, q3, q4⟩ := (hP.2.2 a _ hw).2 ci q rfl hq
  obtain ⟨cf, kf, fi, f, hi, hsl⟩ := hS k hk
  have hlay := u_lays (args := args) (fun w hw => hC.1 w ((hQ ci q hq).1 w hw) (by obtain ⟨j, -, rfl⟩ := List.mem_map.mp hw; unfold u_lay; split <;> rfl) args) (fun _ h => h) hk
  have hst := (u_facts hfc hkC hlay hi).1
  have hi2 : s.fieldFound? ref (q.1.2.1 k).2.1 (q.1.2.1 k).2.2.1 = some (cf, kf, fi, f) := by
    rcases hs with rfl | hs
    · exact hi
    · exact u_same (hC.1 _ hs rfl #[]) _ hi
  have hval : cell.slots[f.slot]? = some (gv B fv v) := by
    rw [hsl, q4 k hk]
    show some (gv B fv (vs.getD k .null)) = _
    rw [List.getD_eq_getElem?_getD, hv]; rfl
  rcases hl with hl | ⟨host, hl⟩
  · exact W.getf hx hb hown (hC.1 _ hl rfl args) hi2 hst q1 (by rw [q3]; exact fun h => by cases h) hval rfl rfl hd kk
  · exact va_Wgetf hx hb hown (hC.1 _ hl rfl args) hi2 hst q1 (by rw [q3]; exact fun h => by cases h) hval rfl rfl hd kk
theorem g_upd {vs : List Value} {k : Nat} (hk : k < vs.length) (v : Value) (j : Nat) : updV (fun j => gv B fv (vs.getD j .null)) k (gv B fv v) j = gv B fv ((vs.set k v).getD j .null) := by
  unfold updV
  rw [List.getD_eq_getElem?_getD, List.getElem?_set]
  split
  · rename_i e
    subst e
    rw [if_pos rfl]; rfl
  · rename_i e
    rw [if_neg (fun h => e h.symm)]; show gv B fv (vs.getD j .null) = _; rw [List.getD_eq_getElem?_getD]
theorem g_putf (hx : p.tables.exec = Jvm.exec) (hb : c.code = cc) (hf : gFv fv) (hown : s.vm.findClass own = some m.cls) (hC : gCt Q G D cy s) (hQ : gQok Q G) (hP : gHp Q D cy B fv H0 w H) (hL : ∀ q ∈ locs, B ≤ q.base) {nm : String} (hnm : meth.name = nm) {idx ci k a : Nat} (hF : gFOkP Q G own nm idx ci k) {q : gQ} (hq : Q[ci]? = some q) {vs : List Value} (hw : w[a]? = some (ci + 8, vs)) {v : Value} (hk : k < vs.length) (hfit : gFit (q.2 k) v = true) (hd : decode cc pc = .ok (.putfield idx, 3))
    (kk : ∀ (H1 : Heap) (locs1 : List Loc), gHp Q D cy B fv H0 (w.set a (ci + 8, vs.set k v)) H1 → (∀ q ∈ locs1, B ≤ q.base) → W p l e R s m args below meth c H1 locs1 cells slots P (F0 m (pc + 3) ls rest)) : W p l e R s m args below meth c H locs cells slots P (F0 m pc ls (gv B fv v :: .ref (B + a) :: rest)) := by
  obtain ⟨⟨q', ref, hq', hkN, hl, hs⟩, q'', hq'', hfin⟩ := hF
  cases hq'.symm.trans hq
  cases hq''.symm.trans hq
  obtain ⟨hS, hfc, kC, hkC, hkind⟩ := hC.2.1 ci q hq
  obtain ⟨cell, q1, q2, q3, q4⟩ := (hP.2.2 a _ hw).2 ci q rfl hq
  obtain ⟨cf, kf, fi, f, hi, hsl⟩ := hS k hkN
  obtain ⟨hin, hty, hnmN⟩ := hQ ci q hq
  have hts : ∀ w ∈ u_ws q.1.1 q.1.2.1 q.1.2.2, w.before args s = true := fun w hw => hC.1 w (hin w hw) (by obtain ⟨j, -, rfl⟩ := List.mem_map.mp hw; unfold u_lay; split <;> rfl) args
  have hlays := fun {j : Nat} (hj : j < q.1.2.2) => u_lays hts (fun _ h => h) hj
  have hst := (u_facts hfc hkC (hlays hkN) hi).1
  have hap : ∀ x y, x < q.1.2.2 → y < q.1.2.2 → x ≠ y → (D.2 ci) x ≠ (D.2 ci) y := by
    intro x y hx hy hne
    obtain ⟨_, _, _, fa, hia, ea⟩ := hS x hx
    obtain ⟨_, _, _, fb, hib, eb⟩ := hS y hy
    rw [← ea, ← eb]
    refine u_apart (hlays hx) (hlays hy) hia hib ?_
    rw [(State.fieldFound?_type hia (hty x hx)).1, (State.fieldFound?_type hib (hty y hy)).1]
    exact hnmN x hx y hy hne
  have hi2 : s.fieldFound? ref (q.1.2.1 k).2.1 (q.1.2.1 k).2.2.1 = some (cf, kf, fi, f) := by
    rcases hs with rfl | hs
    · exact hi
    · exact u_same (hC.1 _ hs rfl #[]) _ hi
  obtain ⟨hn1, hn2⟩ := gFit_ok (B := B) hf hfit
  have hlay := hts _ (u_in_lay hkN)
  unfold u_lay at hlay
  have hend : ∀ H' : Heap, H'[B + a]? = some (cell.setSlot f.slot (gv B fv v)) → H'.size = H.size → (∀ q : Nat, q ≠ B + a → H'[q]? = H[q]?) → W p l e R s m args below meth c H' (locs ++ [⟨B + a, f.slot⟩]) cells slots P (F0 m (pc + 3) ls rest) := by
    intro H' e1 e2 e3
    rw [hsl] at e1 ⊢
    refine kk H' _ (hP.set hw ⟨fun h => absurd h (by omega), fun ci' q2 h1 h2 => ?_⟩ e2 e3) (gLc hL (by omega))
    have e9 : ci' = ci := by omega
    subst e9
    cases h2.symm.trans hq
    exact ⟨_, e1, q2, q3, fun j hj => by rw [t_set q4 hap hkN _ j hj]; exact congrArg some (g_upd hk v j)⟩
  rcases hfin with hfin | ⟨hfin, rfl, hdecl, hl2⟩
  · rw [if_neg (by rw [hfin]; decide)] at hlay
    have h6 := u_store hfc hkC hkind hlay hi (hty k hkN) hn1 hn2
    rcases hl with hl | ⟨host, hl⟩
    · exact W.putK hx hb (f := f) ⟨hown, hC.1 _ hl rfl args, ⟨_, _, _, hi2⟩, hst⟩ (by rw [q2]; exact h6) q1 q3 (by rw [hsl]; exact k2_hasslot (q4 k hkN)) rfl rfl hd hend
    · exact va_WputK hx hb hown (hC.1 _ hl rfl args) hi2 hst (by rw [q2]; exact h6) q1 q3 (by rw [hsl]; exact k2_hasslot (q4 k hkN)) rfl rfl hd hend
  · rw [if_pos hfin] at hlay
    have hcf : m.cls = cf := by
      obtain ⟨_, _, c', _, _, _, -, -, hf', -, -, -, hown2, -⟩ := Cond.laysFinal_spec hlay
      have e1 : c' = cf := by have := hi.symm.trans hf'; simp at this; exact this.1.symm
      rw [hdecl] at hown2
      rw [← e1]; exact Option.some.inj (hown.symm.trans hown2)
    have h6 := u_fits hfc hkC hkind (Or.inr hlay) hi (hty k hkN) hn1 hn2
    exact W.putFinK hx hb hown (hC.1 _ hl2 rfl args) hi hst hcf hnm (by rw [q2]; exact h6) q1 q3 (by rw [hsl]; exact k2_hasslot (q4 k hkN)) rfl rfl hd hend
end GHW
