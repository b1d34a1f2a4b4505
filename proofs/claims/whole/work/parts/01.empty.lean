/-! No state meets tables_1: its rows 620 and 621 say of one method (PacketForge$Pass.turned, a static one) that it is an instance method, and that it is static. So the statement is empty: what follows says nothing of the class. -/
theorem em_no {args : Array Value} {s : State} (h : ∀ w ∈ tables_1, w.before args s = true) : False := by
  have h1 : (Cond.static ⟨"PacketForge$Pass", "turned", "(II)I"⟩).before args s = true := h _ (List.mem_of_getElem? (i := 621) (by decide +kernel))
  have h2 : (Cond.declares ⟨"PacketForge$Pass", "turned", "(II)I"⟩).before args s = true := h _ (List.mem_of_getElem? (i := 620) (by decide +kernel))
  obtain ⟨m, meth, hn, hm, hs, -⟩ := Cond.declares_spec h2
  have h3 := Cond.static_spec hn hm h1
  rw [hs] at h3
  cases h3
theorem em_arm {Post : Tables → Env → Array Value → State → Outcome → State → Prop} : ArmFor flags0 classFile x code maxLocals ret World_1 tables_1 room_1 Calls_1 rest_1 Pre_1 Post := by
  intro l _ _ _ p e ha hc hk s m args below hf hfit hheap happ hpre
  have hp : (headSpec (Cond.code x code maxLocals ret :: tables_1) room_1).pre.before args s = true := by
    simp only [Spec.applies, hf, Bool.and_eq_true] at happ
    exact happ.2
  exact (em_no (fun w hw => atoms_spec (ws := Cond.code x code maxLocals ret :: tables_1) hp w (List.mem_cons_of_mem _ hw))).elim
/-- owed; true only because no start meets the premises -/
theorem i_vc : Claimed_1_1 ∧ Claimed_1_2 := ⟨em_arm, em_arm⟩
