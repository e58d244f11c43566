
def exNames : List String := ["java/lang/RuntimeException", "java/lang/Exception"]
def TW (own : String) (ik ic : Nat) (cls : String) : Prop :=
  Bundle.fit cls = true ∧ Cond.classLink own ik cls ∈ lwg ∧ Cond.initialized cls ∈ lwg ∧ (∀ w ∈ vx_atS own ic cls exNames, w ∈ lwg ∨ w ∈ nws) ∧ (∀ w ∈ Cond.classLink own ik cls :: Cond.initialized cls :: vx_atS own ic cls exNames, vx_ot w = true)
theorem lg_or {ws : List Cond} (ps : List Nat) (hp : ws = ps.filterMap (fun i => lw_tbl[i]?)) (h : ws.all (fun w => goodWord w || isNest w) = true) : ∀ w ∈ ws, w ∈ lwg ∨ w ∈ nws := by
  intro w hw
  have h1 := List.all_eq_true.mp h w hw
  rw [hp] at hw
  obtain ⟨i, -, hi⟩ := List.mem_filterMap.mp hw
  rw [Bool.or_eq_true] at h1
  rcases h1 with h1 | h1
  · exact Or.inl (lwg_in i hi h1)
  · exact Or.inr (nws_in i hi h1)
theorem nw_on {w : Cond} (h : w ∈ nws) : w.onTables = true := by
  have h1 := (List.mem_filter.mp h).2
  cases w with
  | fieldLinkNest a b c d e f => rfl
  | methodLinkNest a b c d => rfl
  | declares a => rfl
  | castable a b => rfl
  | _ => cases h1
section TTHROW
variable {p : Program} {l : Launch} {e : Env} {R : Room} {s : State} {m : MethodId} {args : Array Value} {below : List Frame} {meth : Method} {c0 : Code} {H : Heap} {locs : List Loc} {Q : State → Prop}
variable {cc : ByteArray} {nL : Nat} {rt : Option FieldType} {x : Xc} {K0 K : Ka} {M : Cm} {own nm : String} {pc : Nat} {ls : Array Slot} {rest : List Value} {cls : String}
theorem RCx.of (hR : RC x K M H) {t : State} (h1 : t.heap.size = H.size + 1) (h2 : ∀ q : Nat, q < H.size → t.heap[q]? = H[q]?) : RCx x (K, M) t.heap := by
  refine ⟨by rw [h1, hR.1]; rfl, Nat.le_succ_of_le hR.2.1, fun a ha => ⟨(hR.2.2 a ha).1, ?_⟩⟩
  have h3 := (hR.2.2 a ha).2
  exact h3.kept (h2 a h3.lt)
end TTHROW
