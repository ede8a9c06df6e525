/-! ===== what a method's start holds, and that it stays whatever is resolved ===== -/
theorem g_arrayOverA {t : FieldType} {u U : State} (hvm : u.vm.Alike U.vm) {a a' : Array Value} (h : (Jvm.Cond.arrayOver (.array t)).before a u = true) : (Jvm.Cond.arrayOver (.array t)).before a' U = true := by
  obtain ⟨comp, c, k, h1, h2, h3, h4, h5⟩ := arrayOverA_spec h
  obtain ⟨k', hk', he⟩ := hvm.2.2 _ _ h3
  have e0 := va_idx_bare U.vm comp
  have e1 := va_idx_bare u.vm comp
  have hb : U.vm.bare = u.vm.bare := by first | exact hvm.bare_eq | exact hvm.bare_eq.symm
  rw [hb] at e0
  have hi := e0.symm.trans (e1.trans h2)
  have hkind : k'.kind = .array comp (.array t) := by rw [he]; exact h4
  have f1 : U.vm.findClass (FieldType.array t).toString = some comp := by rw [hvm.findClass]; exact h1
  have f2 : U.vm.findClass ("[" ++ (FieldType.array t).toString) = some c := by rw [hvm.findClass]; exact h5
  unfold Cond.before Cond.holds
  simp only [Cond.value]
  rw [f1, Option.bind_some]
  refine (congrArg (fun o : Option Nat => (o.bind (fun c => (U.vm.classes[c]?).map fun (k : Class) => match k.kind with | .array _ ty => decide (ty = FieldType.array t) && decide (U.vm.findClass ("[" ++ (FieldType.array t).toString) = some c) | _ => false) == some true)) hi).trans ?_
  simp [hk', hkind, f2]
theorem gStd_warm {w : Jvm.Cond} (hw : gStd w = true) {s U : State} (hW : s.WarmedH U.vm) (h : ∀ a : Array Value, w.before a s = true) (a : Array Value) : w.before a U = true := by
  have good : goodWord w = true → w.before a U = true := fun hg => word_at hW (good_of_word hg) (h a)
  cases w with
  | fieldLinkNest x i b n d o => exact va_Nw.use rfl (va_Nw.warmF hW (h #[]))
  | methodLinkNest x i y o => exact va_Nw.use rfl (va_Nw.warmM hW (h #[]))
  | castable x y => exact va_Nw.use rfl (va_Nw.warmC hW (h #[]))
  | superclass x y =>
    have h1 : (Jvm.Cond.superclass x y).before a (s.setVm U.vm) = true := Cond.before_shiftedFace (State.Shifted.of_warmed hW) _ rfl (h a)
    exact h1
  | declares x =>
    have h1 : (Jvm.Cond.declares x).before a (s.setVm U.vm) = true := Cond.before_shiftedFace (State.Shifted.of_warmed hW) _ rfl (h a)
    exact h1
  | arrayOver ty =>
    cases ty with
    | object n => exact va_AO.use (va_AO.moved hW.alike (va_AO.of (h #[])))
    | array t => exact g_arrayOverA hW.alike (h #[])
    | _ => exact good hw
  | _ => exact good hw
/-- the exceptions' classes, by our numbers -/
def gXn (e : Nat) : String := match e with
  | 0 => "java/lang/IllegalStateException"
  | 1 => "java/lang/IllegalArgumentException"
  | _ => "java/lang/IndexOutOfBoundsException"
abbrev gSt : Type := List (String × Nat × String)
/-- for a throw: the texts, Throwable's two statics; the classes are no subclasses of each other -/
abbrev gIf3 : String × MethodName × MethodName := ("java/util/ArrayList$Itr", ⟨"java/util/Iterator", "hasNext", "()Z"⟩, ⟨"java/util/ArrayList$Itr", "hasNext", "()Z"⟩)
def gXt (S : gSt) (B : Nat) (H0 : Heap) (s : State) : Prop :=
  (∀ q ∈ S, ∃ sa : Nat, vk_R q.1 q.2.1 q.2.2 sa s) ∧ vx_Zq Bundle.tN "UNASSIGNED_STACK" Bundle.steD (gA B) s H0 ∧ vx_Zq Bundle.tN "SUPPRESSED_SENTINEL" Bundle.listD (gA B) s H0 ∧
  (∀ i j : Nat, i < 3 → j < 3 → ¬ i = j → va_Nc (gXn i) (gXn j) s) ∧ va_Fw gIf3.1 gIf3.2.1 gIf3.2.2 s
def gCs (Q : List gQ) (G : List Jvm.Cond) (D : va_G) (cy : Nat → ClassId) (T : gT) (Z : gZ) (S : gSt) (B : Nat) (fv : Nat → Value) (H0 : Heap) (s : State) : Prop :=
  gCt Q G D cy s ∧ gKt T Z B fv H0 s ∧ gXt S B H0 s
section GCS
variable {Q : List gQ} {G : List Jvm.Cond} {D : va_G} {cy : Nat → ClassId} {T : gT} {Z : gZ} {S : gSt} {B : Nat} {fv : Nat → Value} {H0 : Heap}
theorem gCs.warm {s U : State} (h : gCs Q G D cy T Z S B fv H0 s) (hW : s.WarmedH U.vm) : gCs Q G D cy T Z S B fv H0 U := by
  obtain ⟨⟨h1, h2, h3, h4⟩, ⟨k1, k2, k3⟩, x1, x2, x3, x4, x5⟩ := h
  have hA := hW.alike
  refine ⟨⟨fun w hw hg a => gStd_warm hg hW (h1 w hw hg) a, fun ci q hq => u_Kn_moved hA (h2 ci q hq), fun t ty ht => ⟨arrOfT_moved hA (h3 t ty ht).1, by rw [hA.findClass]; exact (h3 t ty ht).2⟩, h4.moved hA⟩, ⟨fun q hq => ?_, fun j q hj => va_Z.moved hA (k2 j q hj), fun u hu1 hu2 hu3 => ?_⟩, fun q hq => ?_, vx_Zq.moved hA x2, vx_Zq.moved hA x3, fun i j hi hj hij => va_Nc.moved hA (x4 i j hi hj hij), va_Fw.moved (by decide) hA x5⟩
  · obtain ⟨g1, t, g2, g3⟩ := k1 q hq
    exact ⟨g1, t, g2, va_T.moved hA g3⟩
  · obtain ⟨t, g1, g2, g3⟩ := k3 u hu1 hu2 hu3
    refine ⟨t, g1, g2, ?_⟩
    obtain ⟨cell, c1, c2, ⟨kC, c3⟩, c4⟩ := g3
    obtain ⟨k', hk', -⟩ := hA.2.2 _ _ c3
    exact ⟨cell, c1, c2, ⟨k', hk'⟩, fun comp hc => by rw [hA.assignable]; exact c4 comp (by rw [← hA.findClass]; exact hc)⟩
  · obtain ⟨sa, g1⟩ := x1 q hq
    exact ⟨sa, vk_R.warm hW g1⟩
end GCS
