/-! BLOCKS, RUNS, AND A METHOD'S CONTRACT OUT OF A RUN -/
def sm_SndB (l : Launch) (own nm : String) (cc : ByteArray) (nL : Nat) (z : Nat) (lev : Nat) (pc : Nat) (os : List sm_O) : Prop :=
  ∀ (p : Program) (e : Env) (R : Room) (s : State) (m : MethodId) (args : Array Value) (below : List Frame) (meth : Method) (c : Code) (Q : State → Prop) (b sb : Nat) (D : va_G) (cA : Nat → ClassId) (H0 : Heap) (P : sm_Par), sm_Cx p l e R s m args below meth c Q b sb D cA H0 nL own nm cc z lev P →
  ∀ (J : Nat → sm_K), (∀ t ls st w k q, J t ls st w k q → sm_Wz p l e R s m args below meth c Q b sb D cA H0 nL t ls st w k q) →
  ∀ ls st w k q, sm_blk P J os ls st w k q → sm_Wz p l e R s m args below meth c Q b sb D cA H0 nL pc ls st w k q
section
variable {l : Launch} {own nm : String} {cc : ByteArray} {nL : Nat} {z : Nat} {lev : Nat}
theorem sb_nil {pc : Nat} : sm_SndB l own nm cc nL z lev pc [] := fun p e R s m args below meth c Q b sb D cA H0 P hC J hJ ls st w k q h => h.elim
theorem sb_cons {pc pc' : Nat} {o : sm_O} {os : List sm_O} (h1 : sm_Snd l own nm cc nL z lev pc pc' o) (h2 : sm_SndB l own nm cc nL z lev pc' os) : sm_SndB l own nm cc nL z lev pc (o :: os) :=
  fun p e R s m args below meth c Q b sb D cA H0 P hC J hJ ls st w k q h => h1 p e R s m args below meth c Q b sb D cA H0 P hC (sm_blk P J os) J (h2 p e R s m args below meth c Q b sb D cA H0 P hC J hJ) hJ ls st w k q h
def sm_get : List (Nat × List sm_O) → Nat → List sm_O
  | [], _ => []
  | (k, os) :: r, t => match Nat.beq t k with
    | true => os
    | false => sm_get r t
def sm_SndT (l : Launch) (own nm : String) (cc : ByteArray) (nL : Nat) (z : Nat) (lev : Nat) (tb : List (Nat × List sm_O)) : Prop := ∀ t, sm_SndB l own nm cc nL z lev t (sm_get tb t)
theorem st_nil : sm_SndT l own nm cc nL z lev [] := fun _ => sb_nil
theorem st_cons {k : Nat} {os : List sm_O} {r : List (Nat × List sm_O)} (h1 : sm_SndB l own nm cc nL z lev k os) (h2 : sm_SndT l own nm cc nL z lev r) : sm_SndT l own nm cc nL z lev ((k, os) :: r) := by
  intro t
  unfold sm_get
  split
  · next h =>
    rw [Nat.eq_of_beq_eq_true h]
    exact h1
  · exact h2 t
theorem sm_run_sound {tb : List (Nat × List sm_O)} (hT : sm_SndT l own nm cc nL z lev tb) {p : Program} {e : Env} {R : Room} {s : State} {m : MethodId} {args : Array Value} {below : List Frame} {meth : Method} {c : Code} {Q : State → Prop} {b sb : Nat} {D : va_G} {cA : Nat → ClassId} {H0 : Heap} {P : sm_Par} (hC : sm_Cx p l e R s m args below meth c Q b sb D cA H0 nL own nm cc z lev P) (stop : Nat → Bool) : ∀ n t ls st w k q, sm_run (sm_get tb) P stop (sm_Wz p l e R s m args below meth c Q b sb D cA H0 nL) n t ls st w k q → sm_Wz p l e R s m args below meth c Q b sb D cA H0 nL t ls st w k q
  | 0, t, ls, st, w, k, q, h => h
  | n + 1, t, ls, st, w, k, q, h => by
    refine hT t p e R s m args below meth c Q b sb D cA H0 P hC _ (fun u ls st w k q hu => ?_) ls st w k q h
    revert hu
    cases stop u with
    | true => exact id
    | false => exact sm_run_sound hT hC stop n u ls st w k q
/-- the locals with which a method begins -/
def sm_ents : List sm_V → List (Option sm_V)
  | [] => []
  | .inr (.inr x) :: r => some (.inr (.inr x)) :: none :: sm_ents r
  | v :: r => some v :: sm_ents r
def sm_ent (nL : Nat) (as : List sm_V) : List (Option sm_V) := sm_ents as ++ List.replicate (nL - sm_wds as) none
theorem sm_ents_len : ∀ as : List sm_V, (sm_ents as).length = sm_wds as
  | [] => rfl
  | .inl n :: r => by
    show (sm_ents r).length + 1 = 1 + sm_wds r
    rw [sm_ents_len r]; omega
  | .inr (.inl a) :: r => by
    show (sm_ents r).length + 1 = 1 + sm_wds r
    rw [sm_ents_len r]; omega
  | .inr (.inr x) :: r => by
    show (sm_ents r).length + 1 + 1 = 2 + sm_wds r
    rw [sm_ents_len r]; omega
theorem sm_ents_at {b sb : Nat} : ∀ (as : List sm_V) (o i : Nat) (v : sm_V), (sm_ents as)[i]? = some (some v) → (o + i, sm_ev b sb v) ∈ lv_args o (as.map (sm_ev b sb))
  | [], o, i, v, h => by simp [sm_ents] at h
  | .inl n :: r, o, i, v, h => by
    rw [List.map_cons, lv_args]
    cases i with
    | zero => cases h; exact List.mem_cons_self
    | succ i =>
      refine List.mem_cons_of_mem _ ?_
      have := sm_ents_at (b := b) (sb := sb) r (o + 1) i v h
      rw [show o + (i + 1) = o + 1 + i by omega]
      exact this
  | .inr (.inl a) :: r, o, i, v, h => by
    rw [List.map_cons, lv_args]
    cases i with
    | zero => cases h; exact List.mem_cons_self
    | succ i =>
      refine List.mem_cons_of_mem _ ?_
      have := sm_ents_at (b := b) (sb := sb) r (o + 1) i v h
      rw [show o + (i + 1) = o + 1 + i by omega]
      exact this
  | .inr (.inr x) :: r, o, i, v, h => by
    rw [List.map_cons, lv_args]
    match i with
    | 0 => cases h; exact List.mem_cons_self
    | 1 => cases h
    | i + 2 =>
      refine List.mem_cons_of_mem _ ?_
      have := sm_ents_at (b := b) (sb := sb) r (o + 2) i v h
      rw [show o + (i + 2) = o + 2 + i by omega]
      exact this
theorem sm_ents_ok {as : List sm_V} (h : ∀ v ∈ as, sm_ok v) : ∀ v, some v ∈ sm_ents as → sm_ok v := by
  induction as with
  | nil => intro v hv; cases hv
  | cons a r ih =>
    intro v hv
    have ih' := ih (fun v hv => h v (List.mem_cons_of_mem _ hv))
    rcases a with n | a | x
    · rcases List.mem_cons.mp hv with e | e
      · cases e; exact h _ List.mem_cons_self
      · exact ih' v e
    · rcases List.mem_cons.mp hv with e | e
      · cases e; exact h _ List.mem_cons_self
      · exact ih' v e
    · rcases List.mem_cons.mp hv with e | e
      · cases e; exact h _ List.mem_cons_self
      · rcases List.mem_cons.mp e with e | e
        · cases e
        · exact ih' v e
theorem sm_entry {b sb : Nat} {as : List sm_V} {lsA : Array Slot} (hw : sm_wds as ≤ nL) (h : lv_has lsA nL (lv_args 0 (as.map (sm_ev b sb)))) : sm_L nL b sb lsA (sm_ent nL as) := by
  refine ⟨h.1, by unfold sm_ent; rw [List.length_append, sm_ents_len, List.length_replicate]; omega, h.2.1, fun i v hi => ?_⟩
  unfold sm_ent at hi
  by_cases hl : i < (sm_ents as).length
  · rw [List.getElem?_append_left hl] at hi
    have := h.2.2 _ (sm_ents_at (b := b) (sb := sb) as 0 i v hi)
    simpa using this
  · rw [List.getElem?_append_right (by omega)] at hi
    have := List.mem_of_getElem? hi
    rw [List.mem_replicate] at this
    cases this.2
theorem sm_lg_len (b sb : Nat) : ∀ as : List sm_V, (lg_sl (as.map (sm_ev b sb))).length = sm_wds as
  | [] => rfl
  | .inl n :: r => by
    show (lg_sl (r.map (sm_ev b sb))).length + 1 = 1 + sm_wds r
    rw [sm_lg_len b sb r]; omega
  | .inr (.inl a) :: r => by
    show (lg_sl (r.map (sm_ev b sb))).length + 1 = 1 + sm_wds r
    rw [sm_lg_len b sb r]; omega
  | .inr (.inr x) :: r => by
    show (lg_sl (r.map (sm_ev b sb))).length + 1 + 1 = 2 + sm_wds r
    rw [sm_lg_len b sb r]; omega
end
/-- what is to be shown of a method in the small machine alone -/
def sm_Ok (tb : List (Nat × List sm_O)) (nL mc ms : Nat) (Pre : List sm_V → sm_W → Prop) (F : sm_F) : Prop :=
  ∀ (as : List sm_V) (w : sm_W), Pre as w → (∀ v ∈ as, sm_ok v) → (∀ id i, sm_r (wI w id i)) → sm_wds as ≤ nL ∧ ∀ Z : Nat → sm_K, (∀ stop n t ls st w' k q, sm_run (sm_get tb) ((fun r w' => (r, w') = F as w), mc, ms) stop Z n t ls st w' k q → Z t ls st w' k q) → Z 0 (sm_ent nL as) [] w 0 0
theorem sm_met {l : Launch} {y : MethodName} {cc : ByteArray} {nL : Nat} {ret : Option FieldType} {lev mc ms : Nat} {Pre : List sm_V → sm_W → Prop} {F : sm_F} {tb : List (Nat × List sm_O)} (z : Nat) (hret : (ret = none ∧ z = 0) ∨ (ret = some .int ∧ z = 1) ∨ (ret = some .boolean ∧ z = 2)) (hy : plainName y.cls = true) (hT : sm_SndT l y.cls y.name cc nL z lev tb) (hO : sm_Ok tb nL mc ms Pre F) : sm_Met l y cc nL ret lev mc ms Pre F := by
  intro b sb D cA as w hPre
  refine Met.ofW (cc := cc) (maxL := nL) (ret := ret) (ws' := sm_tbl) hy rfl ?_
  intro p e s m args below meth c s₁ B hml hP
  obtain ⟨hargs, hR, hK, hEx, hok⟩ := hP
  obtain ⟨hw, hO⟩ := hO as w hPre hok hR.2.2.2.1
  have hts0 : ∀ x ∈ (Cond.code y cc nL ret :: sm_tbl), x.before args s = true := atoms_spec (ws := Cond.code y cc nL ret :: sm_tbl) B.pre
  have hbH : b ≤ s.heap.size := by have := hR.2.1; omega
  have hC : sm_Cx p l e (headSpec (Cond.code y cc nL ret :: sm_tbl) (sm_rm lev mc ms)).room s m args below meth c (MQ below (sm_Qc b sb D cA (F as w)) args s mc ms (fun x => b ≤ x)) b sb D cA s.heap nL y.cls y.name cc z lev ((fun r w' => (r, w') = F as w), mc, ms) := by
    refine ⟨B.exec, B.bytes, hml, findClass_of_methodNamed B.named, fun x hx => hts0 x (List.mem_cons_of_mem _ hx), hK, hbH, rfl, rfl, Nat.le_refl _, Nat.le_refl _, (name_of_methodNamed B.named B.method).1, hEx, ?_, ?_⟩
    · intro pc H locs lsA w' k q n hd hz0 hz hF hn hk hq hR' hS'
      refine W.widen hk hq ?_
      have hr : meth.sig.returnType = ret := B.returns
      rcases hret with ⟨h, h2⟩ | ⟨h, h2⟩ | ⟨h, h2⟩
      · exact absurd h2 hz0
      · exact W.zret B.exec B.bytes (hr.trans h) rfl (fun t ht hW => ⟨by rw [← hF]; rfl, by rw [← hF, ht]; exact hR'.moved hW.alike, by rw [← hF]; intro v hv; cases hv; exact hn, hS'.F ht⟩) hS'.2.2 hd
      · exact W.zret B.exec B.bytes (hr.trans h) (by rcases hz h2 with rfl | rfl <;> rfl) (fun t ht hW => ⟨by rw [← hF]; rfl, by rw [← hF, ht]; exact hR'.moved hW.alike, by rw [← hF]; intro v hv; cases hv; exact hn, hS'.F ht⟩) hS'.2.2 hd
    · intro pc H locs lsA w' k q hd hz0 hF hk hq hR' hS'
      refine W.widen hk hq ?_
      have hr : meth.sig.returnType = ret := B.returns
      rcases hret with ⟨h, h2⟩ | ⟨h, h2⟩ | ⟨h, h2⟩
      · exact W.vret B.exec B.bytes (hr.trans h) (fun t ht hW => ⟨by rw [← hF]; rfl, by rw [← hF, ht]; exact hR'.moved hW.alike, (by rw [← hF]; intro v hv; cases hv), hS'.F ht⟩) hS'.2.2 hd
      · omega
      · omega
  have hZ := hO (sm_Wz p l e (headSpec (Cond.code y cc nL ret :: sm_tbl) (sm_rm lev mc ms)).room s m args below meth c (MQ below (sm_Qc b sb D cA (F as w)) args s mc ms (fun x => b ≤ x)) b sb D cA s.heap nL) (fun stop n t ls st w' k q h => sm_run_sound hT hC stop n t ls st w' k q h)
  subst hargs
  have hl := lv_entry (as.map (sm_ev b sb)) (n := nL) (by rw [sm_lg_len]; exact hw)
  rw [lg_entry_eq]
  generalize (lg_sl (as.map (sm_ev b sb)) ++ List.replicate (nL - (lg_sl (as.map (sm_ev b sb))).length) Slot.unset).toArray = lsA at hl ⊢
  refine hZ s.heap [] lsA hR va_S.rf (sm_entry hw hl) (fun v hv => ?_) (fun v hv => by cases hv)
  unfold sm_ent at hv
  rcases List.mem_append.mp hv with h | h
  · exact sm_ents_ok hok v h
  · rw [List.mem_replicate] at h
    cases h.2
