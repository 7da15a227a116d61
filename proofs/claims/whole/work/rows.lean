section
def lw_okq (q : MethodName × Nat) : Prop := (q.1.cls ≠ "java/lang/invoke/MethodHandle" ∧ q.1.cls ≠ "java/lang/invoke/VarHandle") ∧ Cond.instantiable q.1.cls q.2 ∈ tables_1 ∧ Cond.privateMethod q.1 ∈ tables_1 ∧ Cond.instanceMethod q.1 ∈ tables_1
theorem lw_p0 : lw_okq (⟨"SharedVolumes$Disk", "wipe", "()V"⟩, 5) := ⟨⟨by decide +kernel, by decide +kernel⟩, List.mem_of_getElem? (i := 24) (by decide +kernel), List.mem_of_getElem? (i := 76) (by decide +kernel), List.mem_of_getElem? (i := 77) (by decide +kernel)⟩
theorem lw_p1 : lw_okq (⟨"SharedVolumes", "clearStaged", "()V"⟩, 8) := ⟨⟨by decide +kernel, by decide +kernel⟩, List.mem_of_getElem? (i := 7) (by decide +kernel), List.mem_of_getElem? (i := 83) (by decide +kernel), List.mem_of_getElem? (i := 84) (by decide +kernel)⟩
theorem lw_p2 : lw_okq (⟨"SharedVolumes$Disk", "isDown", "()Z"⟩, 5) := ⟨⟨by decide +kernel, by decide +kernel⟩, List.mem_of_getElem? (i := 24) (by decide +kernel), List.mem_of_getElem? (i := 92) (by decide +kernel), List.mem_of_getElem? (i := 93) (by decide +kernel)⟩
theorem lw_p3 : lw_okq (⟨"SharedVolumes", "isWord", "(I)Z"⟩, 8) := ⟨⟨by decide +kernel, by decide +kernel⟩, List.mem_of_getElem? (i := 7) (by decide +kernel), List.mem_of_getElem? (i := 96) (by decide +kernel), List.mem_of_getElem? (i := 97) (by decide +kernel)⟩
theorem lw_p4 : lw_okq (⟨"SharedVolumes", "isBlock", "(II)Z"⟩, 8) := ⟨⟨by decide +kernel, by decide +kernel⟩, List.mem_of_getElem? (i := 7) (by decide +kernel), List.mem_of_getElem? (i := 104) (by decide +kernel), List.mem_of_getElem? (i := 105) (by decide +kernel)⟩
theorem lw_p5 : lw_okq (⟨"SharedVolumes", "isVolume", "(I)Z"⟩, 8) := ⟨⟨by decide +kernel, by decide +kernel⟩, List.mem_of_getElem? (i := 7) (by decide +kernel), List.mem_of_getElem? (i := 108) (by decide +kernel), List.mem_of_getElem? (i := 109) (by decide +kernel)⟩
theorem lw_p6 : lw_okq (⟨"SharedVolumes", "usedSlotWithStaged", "()I"⟩, 8) := ⟨⟨by decide +kernel, by decide +kernel⟩, List.mem_of_getElem? (i := 7) (by decide +kernel), List.mem_of_getElem? (i := 112) (by decide +kernel), List.mem_of_getElem? (i := 113) (by decide +kernel)⟩
theorem lw_p7 : lw_okq (⟨"SharedVolumes", "hasStagedWords", "(I)Z"⟩, 8) := ⟨⟨by decide +kernel, by decide +kernel⟩, List.mem_of_getElem? (i := 7) (by decide +kernel), List.mem_of_getElem? (i := 116) (by decide +kernel), List.mem_of_getElem? (i := 117) (by decide +kernel)⟩
theorem lw_p8 : lw_okq (⟨"SharedVolumes", "slotCell", "(II)I"⟩, 8) := ⟨⟨by decide +kernel, by decide +kernel⟩, List.mem_of_getElem? (i := 7) (by decide +kernel), List.mem_of_getElem? (i := 120) (by decide +kernel), List.mem_of_getElem? (i := 121) (by decide +kernel)⟩
theorem lw_p9 : lw_okq (⟨"SharedVolumes$Disk", "read", "(I)I"⟩, 5) := ⟨⟨by decide +kernel, by decide +kernel⟩, List.mem_of_getElem? (i := 24) (by decide +kernel), List.mem_of_getElem? (i := 124) (by decide +kernel), List.mem_of_getElem? (i := 125) (by decide +kernel)⟩
theorem lw_p10 : lw_okq (⟨"SharedVolumes", "isUsed", "(I)Z"⟩, 8) := ⟨⟨by decide +kernel, by decide +kernel⟩, List.mem_of_getElem? (i := 7) (by decide +kernel), List.mem_of_getElem? (i := 128) (by decide +kernel), List.mem_of_getElem? (i := 129) (by decide +kernel)⟩
theorem lw_p11 : lw_okq (⟨"SharedVolumes", "blocksMappedTo", "(I)I"⟩, 8) := ⟨⟨by decide +kernel, by decide +kernel⟩, List.mem_of_getElem? (i := 7) (by decide +kernel), List.mem_of_getElem? (i := 132) (by decide +kernel), List.mem_of_getElem? (i := 133) (by decide +kernel)⟩
theorem lw_p12 : lw_okq (⟨"SharedVolumes", "writeNewContents", "(II)I"⟩, 8) := ⟨⟨by decide +kernel, by decide +kernel⟩, List.mem_of_getElem? (i := 7) (by decide +kernel), List.mem_of_getElem? (i := 136) (by decide +kernel), List.mem_of_getElem? (i := 137) (by decide +kernel)⟩
theorem lw_p13 : lw_okq (⟨"SharedVolumes", "usedSlotsWithout", "(II)I"⟩, 8) := ⟨⟨by decide +kernel, by decide +kernel⟩, List.mem_of_getElem? (i := 7) (by decide +kernel), List.mem_of_getElem? (i := 140) (by decide +kernel), List.mem_of_getElem? (i := 141) (by decide +kernel)⟩
theorem lw_p14 : lw_okq (⟨"SharedVolumes", "mappedSlot", "(II)I"⟩, 8) := ⟨⟨by decide +kernel, by decide +kernel⟩, List.mem_of_getElem? (i := 7) (by decide +kernel), List.mem_of_getElem? (i := 144) (by decide +kernel), List.mem_of_getElem? (i := 145) (by decide +kernel)⟩
theorem lw_p15 : lw_okq (⟨"SharedVolumes", "mapCell", "(II)I"⟩, 8) := ⟨⟨by decide +kernel, by decide +kernel⟩, List.mem_of_getElem? (i := 7) (by decide +kernel), List.mem_of_getElem? (i := 148) (by decide +kernel), List.mem_of_getElem? (i := 149) (by decide +kernel)⟩
def lw_privs_1 : List (MethodName × Nat) := [(⟨"SharedVolumes$Disk", "wipe", "()V"⟩, 5), (⟨"SharedVolumes", "clearStaged", "()V"⟩, 8), (⟨"SharedVolumes$Disk", "isDown", "()Z"⟩, 5), (⟨"SharedVolumes", "isWord", "(I)Z"⟩, 8), (⟨"SharedVolumes", "isBlock", "(II)Z"⟩, 8), (⟨"SharedVolumes", "isVolume", "(I)Z"⟩, 8), (⟨"SharedVolumes", "usedSlotWithStaged", "()I"⟩, 8), (⟨"SharedVolumes", "hasStagedWords", "(I)Z"⟩, 8), (⟨"SharedVolumes", "slotCell", "(II)I"⟩, 8), (⟨"SharedVolumes$Disk", "read", "(I)I"⟩, 5), (⟨"SharedVolumes", "isUsed", "(I)Z"⟩, 8), (⟨"SharedVolumes", "blocksMappedTo", "(I)I"⟩, 8), (⟨"SharedVolumes", "writeNewContents", "(II)I"⟩, 8), (⟨"SharedVolumes", "usedSlotsWithout", "(II)I"⟩, 8), (⟨"SharedVolumes", "mappedSlot", "(II)I"⟩, 8), (⟨"SharedVolumes", "mapCell", "(II)I"⟩, 8)]
theorem lw_r1 : ∀ q ∈ lw_privs_1, lw_okq q := List.forall_mem_cons.mpr ⟨lw_p0, List.forall_mem_cons.mpr ⟨lw_p1, List.forall_mem_cons.mpr ⟨lw_p2, List.forall_mem_cons.mpr ⟨lw_p3, List.forall_mem_cons.mpr ⟨lw_p4, List.forall_mem_cons.mpr ⟨lw_p5, List.forall_mem_cons.mpr ⟨lw_p6, List.forall_mem_cons.mpr ⟨lw_p7, List.forall_mem_cons.mpr ⟨lw_p8, List.forall_mem_cons.mpr ⟨lw_p9, List.forall_mem_cons.mpr ⟨lw_p10, List.forall_mem_cons.mpr ⟨lw_p11, List.forall_mem_cons.mpr ⟨lw_p12, List.forall_mem_cons.mpr ⟨lw_p13, List.forall_mem_cons.mpr ⟨lw_p14, List.forall_mem_cons.mpr ⟨lw_p15, fun _ h => absurd h List.not_mem_nil⟩⟩⟩⟩⟩⟩⟩⟩⟩⟩⟩⟩⟩⟩⟩⟩
theorem lw_p16 : lw_okq (⟨"SharedVolumes", "usedSlots", "()I"⟩, 8) := ⟨⟨by decide +kernel, by decide +kernel⟩, List.mem_of_getElem? (i := 7) (by decide +kernel), List.mem_of_getElem? (i := 152) (by decide +kernel), List.mem_of_getElem? (i := 153) (by decide +kernel)⟩
theorem lw_p17 : lw_okq (⟨"SharedVolumes", "lowestUnusedSlot", "()I"⟩, 8) := ⟨⟨by decide +kernel, by decide +kernel⟩, List.mem_of_getElem? (i := 7) (by decide +kernel), List.mem_of_getElem? (i := 156) (by decide +kernel), List.mem_of_getElem? (i := 157) (by decide +kernel)⟩
theorem lw_p18 : lw_okq (⟨"SharedVolumes$Disk", "write", "(II)V"⟩, 5) := ⟨⟨by decide +kernel, by decide +kernel⟩, List.mem_of_getElem? (i := 24) (by decide +kernel), List.mem_of_getElem? (i := 160) (by decide +kernel), List.mem_of_getElem? (i := 161) (by decide +kernel)⟩
theorem lw_p19 : lw_okq (⟨"SharedVolumes", "change", "(IIII)I"⟩, 8) := ⟨⟨by decide +kernel, by decide +kernel⟩, List.mem_of_getElem? (i := 7) (by decide +kernel), List.mem_of_getElem? (i := 164) (by decide +kernel), List.mem_of_getElem? (i := 165) (by decide +kernel)⟩
theorem lw_p20 : lw_okq (⟨"SharedVolumes", "carryOutIntent", "()V"⟩, 8) := ⟨⟨by decide +kernel, by decide +kernel⟩, List.mem_of_getElem? (i := 7) (by decide +kernel), List.mem_of_getElem? (i := 168) (by decide +kernel), List.mem_of_getElem? (i := 169) (by decide +kernel)⟩
theorem lw_p21 : lw_okq (⟨"SharedVolumes", "mapBlock", "(III)V"⟩, 8) := ⟨⟨by decide +kernel, by decide +kernel⟩, List.mem_of_getElem? (i := 7) (by decide +kernel), List.mem_of_getElem? (i := 172) (by decide +kernel), List.mem_of_getElem? (i := 173) (by decide +kernel)⟩
theorem lw_p22 : lw_okq (⟨"SharedVolumes", "mapVolumeAs", "(II)V"⟩, 8) := ⟨⟨by decide +kernel, by decide +kernel⟩, List.mem_of_getElem? (i := 7) (by decide +kernel), List.mem_of_getElem? (i := 176) (by decide +kernel), List.mem_of_getElem? (i := 177) (by decide +kernel)⟩
theorem lw_p23 : lw_okq (⟨"SharedVolumes", "unmapVolume", "(I)V"⟩, 8) := ⟨⟨by decide +kernel, by decide +kernel⟩, List.mem_of_getElem? (i := 7) (by decide +kernel), List.mem_of_getElem? (i := 180) (by decide +kernel), List.mem_of_getElem? (i := 181) (by decide +kernel)⟩
theorem lw_p24 : lw_okq (⟨"SharedVolumes$Disk", "armLoss", "(I)V"⟩, 5) := ⟨⟨by decide +kernel, by decide +kernel⟩, List.mem_of_getElem? (i := 24) (by decide +kernel), List.mem_of_getElem? (i := 220) (by decide +kernel), List.mem_of_getElem? (i := 221) (by decide +kernel)⟩
theorem lw_p25 : lw_okq (⟨"SharedVolumes$Disk", "restorePower", "()V"⟩, 5) := ⟨⟨by decide +kernel, by decide +kernel⟩, List.mem_of_getElem? (i := 24) (by decide +kernel), List.mem_of_getElem? (i := 232) (by decide +kernel), List.mem_of_getElem? (i := 233) (by decide +kernel)⟩
theorem lw_p26 : lw_okq (⟨"SharedVolumes$Disk", "writesDone", "()I"⟩, 5) := ⟨⟨by decide +kernel, by decide +kernel⟩, List.mem_of_getElem? (i := 24) (by decide +kernel), List.mem_of_getElem? (i := 240) (by decide +kernel), List.mem_of_getElem? (i := 241) (by decide +kernel)⟩
theorem lw_p27 : lw_okq (⟨"SharedVolumesModel", "clearStage", "()V"⟩, 13) := ⟨⟨by decide +kernel, by decide +kernel⟩, List.mem_of_getElem? (i := 247) (by decide +kernel), List.mem_of_getElem? (i := 300) (by decide +kernel), List.mem_of_getElem? (i := 301) (by decide +kernel)⟩
theorem lw_p28 : lw_okq (⟨"SharedVolumesModel", "isWord", "(I)Z"⟩, 13) := ⟨⟨by decide +kernel, by decide +kernel⟩, List.mem_of_getElem? (i := 247) (by decide +kernel), List.mem_of_getElem? (i := 308) (by decide +kernel), List.mem_of_getElem? (i := 309) (by decide +kernel)⟩
theorem lw_p29 : lw_okq (⟨"SharedVolumesModel", "block", "(II)Z"⟩, 13) := ⟨⟨by decide +kernel, by decide +kernel⟩, List.mem_of_getElem? (i := 247) (by decide +kernel), List.mem_of_getElem? (i := 316) (by decide +kernel), List.mem_of_getElem? (i := 317) (by decide +kernel)⟩
theorem lw_p30 : lw_okq (⟨"SharedVolumesModel", "volume", "(I)Z"⟩, 13) := ⟨⟨by decide +kernel, by decide +kernel⟩, List.mem_of_getElem? (i := 247) (by decide +kernel), List.mem_of_getElem? (i := 320) (by decide +kernel), List.mem_of_getElem? (i := 321) (by decide +kernel)⟩
theorem lw_p31 : lw_okq (⟨"SharedVolumesModel", "sharing", "()I"⟩, 13) := ⟨⟨by decide +kernel, by decide +kernel⟩, List.mem_of_getElem? (i := 247) (by decide +kernel), List.mem_of_getElem? (i := 324) (by decide +kernel), List.mem_of_getElem? (i := 325) (by decide +kernel)⟩
def lw_privs_2 : List (MethodName × Nat) := [(⟨"SharedVolumes", "usedSlots", "()I"⟩, 8), (⟨"SharedVolumes", "lowestUnusedSlot", "()I"⟩, 8), (⟨"SharedVolumes$Disk", "write", "(II)V"⟩, 5), (⟨"SharedVolumes", "change", "(IIII)I"⟩, 8), (⟨"SharedVolumes", "carryOutIntent", "()V"⟩, 8), (⟨"SharedVolumes", "mapBlock", "(III)V"⟩, 8), (⟨"SharedVolumes", "mapVolumeAs", "(II)V"⟩, 8), (⟨"SharedVolumes", "unmapVolume", "(I)V"⟩, 8), (⟨"SharedVolumes$Disk", "armLoss", "(I)V"⟩, 5), (⟨"SharedVolumes$Disk", "restorePower", "()V"⟩, 5), (⟨"SharedVolumes$Disk", "writesDone", "()I"⟩, 5), (⟨"SharedVolumesModel", "clearStage", "()V"⟩, 13), (⟨"SharedVolumesModel", "isWord", "(I)Z"⟩, 13), (⟨"SharedVolumesModel", "block", "(II)Z"⟩, 13), (⟨"SharedVolumesModel", "volume", "(I)Z"⟩, 13), (⟨"SharedVolumesModel", "sharing", "()I"⟩, 13)]
theorem lw_r2 : ∀ q ∈ lw_privs_2, lw_okq q := List.forall_mem_cons.mpr ⟨lw_p16, List.forall_mem_cons.mpr ⟨lw_p17, List.forall_mem_cons.mpr ⟨lw_p18, List.forall_mem_cons.mpr ⟨lw_p19, List.forall_mem_cons.mpr ⟨lw_p20, List.forall_mem_cons.mpr ⟨lw_p21, List.forall_mem_cons.mpr ⟨lw_p22, List.forall_mem_cons.mpr ⟨lw_p23, List.forall_mem_cons.mpr ⟨lw_p24, List.forall_mem_cons.mpr ⟨lw_p25, List.forall_mem_cons.mpr ⟨lw_p26, List.forall_mem_cons.mpr ⟨lw_p27, List.forall_mem_cons.mpr ⟨lw_p28, List.forall_mem_cons.mpr ⟨lw_p29, List.forall_mem_cons.mpr ⟨lw_p30, List.forall_mem_cons.mpr ⟨lw_p31, fun _ h => absurd h List.not_mem_nil⟩⟩⟩⟩⟩⟩⟩⟩⟩⟩⟩⟩⟩⟩⟩⟩
theorem lw_p32 : lw_okq (⟨"SharedVolumesModel", "refs", "(I)I"⟩, 13) := ⟨⟨by decide +kernel, by decide +kernel⟩, List.mem_of_getElem? (i := 247) (by decide +kernel), List.mem_of_getElem? (i := 328) (by decide +kernel), List.mem_of_getElem? (i := 329) (by decide +kernel)⟩
theorem lw_p33 : lw_okq (⟨"SharedVolumesModel", "hasStaged", "(I)Z"⟩, 13) := ⟨⟨by decide +kernel, by decide +kernel⟩, List.mem_of_getElem? (i := 247) (by decide +kernel), List.mem_of_getElem? (i := 332) (by decide +kernel), List.mem_of_getElem? (i := 333) (by decide +kernel)⟩
theorem lw_p34 : lw_okq (⟨"SharedVolumesModel", "used", "()I"⟩, 13) := ⟨⟨by decide +kernel, by decide +kernel⟩, List.mem_of_getElem? (i := 247) (by decide +kernel), List.mem_of_getElem? (i := 336) (by decide +kernel), List.mem_of_getElem? (i := 337) (by decide +kernel)⟩
theorem lw_p35 : lw_okq (⟨"SharedVolumesModel", "lowestUnused", "()I"⟩, 13) := ⟨⟨by decide +kernel, by decide +kernel⟩, List.mem_of_getElem? (i := 247) (by decide +kernel), List.mem_of_getElem? (i := 340) (by decide +kernel), List.mem_of_getElem? (i := 341) (by decide +kernel)⟩
theorem lw_p36 : lw_okq (⟨"SharedVolumesModel", "spend", "(I)I"⟩, 13) := ⟨⟨by decide +kernel, by decide +kernel⟩, List.mem_of_getElem? (i := 247) (by decide +kernel), List.mem_of_getElem? (i := 344) (by decide +kernel), List.mem_of_getElem? (i := 345) (by decide +kernel)⟩
theorem lw_p37 : lw_okq (⟨"SharedVolumesModel", "wantAsIs", "()V"⟩, 13) := ⟨⟨by decide +kernel, by decide +kernel⟩, List.mem_of_getElem? (i := 247) (by decide +kernel), List.mem_of_getElem? (i := 348) (by decide +kernel), List.mem_of_getElem? (i := 349) (by decide +kernel)⟩
theorem lw_p38 : lw_okq (⟨"SharedVolumesModel", "change", "(I)I"⟩, 13) := ⟨⟨by decide +kernel, by decide +kernel⟩, List.mem_of_getElem? (i := 247) (by decide +kernel), List.mem_of_getElem? (i := 352) (by decide +kernel), List.mem_of_getElem? (i := 353) (by decide +kernel)⟩
def lw_privs_3 : List (MethodName × Nat) := [(⟨"SharedVolumesModel", "refs", "(I)I"⟩, 13), (⟨"SharedVolumesModel", "hasStaged", "(I)Z"⟩, 13), (⟨"SharedVolumesModel", "used", "()I"⟩, 13), (⟨"SharedVolumesModel", "lowestUnused", "()I"⟩, 13), (⟨"SharedVolumesModel", "spend", "(I)I"⟩, 13), (⟨"SharedVolumesModel", "wantAsIs", "()V"⟩, 13), (⟨"SharedVolumesModel", "change", "(I)I"⟩, 13)]
theorem lw_r3 : ∀ q ∈ lw_privs_3, lw_okq q := List.forall_mem_cons.mpr ⟨lw_p32, List.forall_mem_cons.mpr ⟨lw_p33, List.forall_mem_cons.mpr ⟨lw_p34, List.forall_mem_cons.mpr ⟨lw_p35, List.forall_mem_cons.mpr ⟨lw_p36, List.forall_mem_cons.mpr ⟨lw_p37, List.forall_mem_cons.mpr ⟨lw_p38, fun _ h => absurd h List.not_mem_nil⟩⟩⟩⟩⟩⟩⟩
def lw_privs : List (MethodName × Nat) := lw_privs_1 ++ (lw_privs_2 ++ (lw_privs_3))
def lw_tbl : List Cond := k2_sels lw_privs ++ tables_1
theorem lw_privs_ok : ∀ q ∈ lw_privs, lw_okq q := by
  show ∀ q ∈ lw_privs_1 ++ (lw_privs_2 ++ (lw_privs_3)), lw_okq q
  exact List.forall_mem_append.mpr ⟨lw_r1, List.forall_mem_append.mpr ⟨lw_r2, lw_r3⟩⟩
def R_law : String := "SharedVolumesLaw"
def lw_P (b : Addr) (xs : List Int32) (args : Array Value) (s : State) : Prop := args = #[.ref b] ∧ s.IntsAt b xs ∧ xs.length ≤ 2052 ∧ (Jvm.Cond.and given_1 narrow_1).before args s = true
def lw_Q (_ : Array Value) (s : State) (o : Outcome) (t : State) : Prop := o = .returned (some (.int 1)) ∧ Framed s o t [] 600000 7302250
def lw_Z (below : List Frame) (a : Array Value) (s : State) : State → Prop := fun t => ∃ o, t.status = .running ∧ Ended t below o ∧ lw_Q a s o t
theorem lw_ret {p : Program} {l : Launch} {e : Env} {s : State} {m : MethodId} {below : List Frame} {meth : Method} {c : Code} {b : Nat} (hx : p.tables.exec = Jvm.exec) (hb : c.code = code) (hr : meth.sig.returnType = ret) (hlocks : meth.locks = false) {pc : Nat} {H : Heap} {ls : Array Slot} (hdg : decode code pc = .ok (.ireturn, 1)) : W p l e room_1 s m #[Value.ref b] below meth c H [] 600000 7302250 (lw_Z below #[Value.ref b] s) (F0 m pc ls [.int 1]) := by
  intro T hT X
  obtain ⟨fs, hret, hrun, hended, hW, hframe⟩ := X.leave (v := some (.int 1)) (hlocks := hlocks) (fun h => by rw [hr] at h; cases h)
  have hmeth' : T.vm.method? m = some meth := X.method'
  refine ⟨T.setFrames fs, ?_, .returned (some (.int 1)), hrun, hended, rfl, ⟨_, rfl⟩, hW, hframe⟩
  jvm_step X.here [X.here.top, hx, hb, hdg, hmeth', hr, ret, narrow_b1]
  (try refine ⟨rfl, ?_⟩); (try refine ⟨rfl, ?_⟩)
  first | (intro acts; rw [hret _ acts rfl rfl rfl]) | rw [hret _ _ rfl rfl rfl]
  exact Steps.refl _
def lw_At (p : Program) (s : State) (m : MethodId) (meth : Method) (c : Code) (b L : Nat) (xs : Nat → Int32) : Prop :=
  p.tables.exec = Jvm.exec ∧ c.code = code ∧ meth.sig.returnType = ret ∧ c.maxLocals = 4 ∧ s.vm.findClass R_law = some m.cls ∧ (∀ w ∈ lw_tbl, w.before #[Value.ref b] s = true) ∧ va_X b L xs s s.heap ∧ b < s.heap.size ∧ meth.locks = false ∧ (Jvm.Cond.and given_1 narrow_1).before #[Value.ref b] s = true
def RX0 : String := "SharedVolumes"
def RX1 : String := "SharedVolumes$Disk"
def RX2 : String := "SharedVolumesModel"
def RJ0 : String := "java/util/Arrays"
def RL : String := "SharedVolumesLaw"
def TX0 : u_T := fun k => match k with
  | 0 => ("SharedVolumes", "blockWords", "I", true)
  | 1 => ("SharedVolumes", "chunks", "I", true)
  | 2 => ("SharedVolumes", "volumes", "I", true)
  | 3 => ("SharedVolumes", "blocks", "I", true)
  | 4 => ("SharedVolumes", "staged", "[I", true)
  | 5 => ("SharedVolumes", "mapStart", "I", true)
  | 6 => ("SharedVolumes", "intentStart", "I", true)
  | _ => ("SharedVolumes", "disk", "LSharedVolumes$Disk;", true)
def tyX0 : Nat → FieldType := fun k => match k with
  | 0 => .int
  | 1 => .int
  | 2 => .int
  | 3 => .int
  | 4 => .array .int
  | 5 => .int
  | 6 => .int
  | _ => .object "SharedVolumes$Disk"
theorem nmX0 : ∀ a, a < 8 → ∀ b, b < 8 → a ≠ b → (TX0 a).2.1 ≠ (TX0 b).2.1 := by decide +kernel
theorem okX0 : ∀ k, k < 8 → parseFieldDescriptor (TX0 k).2.2.1 = some (tyX0 k) := by decide +kernel
def TX1 : u_T := fun k => match k with
  | 0 => ("SharedVolumes$Disk", "cells", "[I", true)
  | 1 => ("SharedVolumes$Disk", "writeCount", "I", false)
  | 2 => ("SharedVolumes$Disk", "writesToLoss", "I", false)
  | 3 => ("SharedVolumes$Disk", "lossesArmed", "I", false)
  | _ => ("SharedVolumes$Disk", "powerLost", "Z", false)
def tyX1 : Nat → FieldType := fun k => match k with
  | 0 => .array .int
  | 1 => .int
  | 2 => .int
  | 3 => .int
  | _ => .boolean
theorem nmX1 : ∀ a, a < 5 → ∀ b, b < 5 → a ≠ b → (TX1 a).2.1 ≠ (TX1 b).2.1 := by decide +kernel
theorem okX1 : ∀ k, k < 5 → parseFieldDescriptor (TX1 k).2.2.1 = some (tyX1 k) := by decide +kernel
def TX2 : u_T := fun k => match k with
  | 0 => ("SharedVolumesModel", "words", "I", true)
  | 1 => ("SharedVolumesModel", "chunks", "I", true)
  | 2 => ("SharedVolumesModel", "volumes", "I", true)
  | 3 => ("SharedVolumesModel", "blocks", "I", true)
  | 4 => ("SharedVolumesModel", "map", "[I", true)
  | 5 => ("SharedVolumesModel", "wanted", "[I", true)
  | 6 => ("SharedVolumesModel", "slots", "[I", true)
  | 7 => ("SharedVolumesModel", "staged", "[I", true)
  | 8 => ("SharedVolumesModel", "happened", "I", false)
  | 9 => ("SharedVolumesModel", "armed", "I", false)
  | 10 => ("SharedVolumesModel", "arms", "I", false)
  | 11 => ("SharedVolumesModel", "down", "Z", false)
  | _ => ("SharedVolumesModel", "redo", "I", false)
def tyX2 : Nat → FieldType := fun k => match k with
  | 0 => .int
  | 1 => .int
  | 2 => .int
  | 3 => .int
  | 4 => .array .int
  | 5 => .array .int
  | 6 => .array .int
  | 7 => .array .int
  | 8 => .int
  | 9 => .int
  | 10 => .int
  | 11 => .boolean
  | _ => .int
theorem nmX2 : ∀ a, a < 13 → ∀ b, b < 13 → a ≠ b → (TX2 a).2.1 ≠ (TX2 b).2.1 := by decide +kernel
theorem okX2 : ∀ k, k < 13 → parseFieldDescriptor (TX2 k).2.2.1 = some (tyX2 k) := by decide +kernel
abbrev vwCl : List vw_C := [(RX0, TX0, 8), (RX1, TX1, 5), (RX2, TX2, 13)]
abbrev cX0_init : ByteArray := prog_1_method_1_code
def yX0_init : MethodName := ⟨RX0, "<init>", "(IIII)V"⟩
abbrev cX0_within : ByteArray := prog_1_method_17_code
def yX0_within : MethodName := ⟨RX0, "within", "(II)I"⟩
abbrev cX1_init : ByteArray := prog_2_method_1_code
def yX1_init : MethodName := ⟨RX1, "<init>", "(I)V"⟩
abbrev cX0_format : ByteArray := prog_1_method_2_code
def yX0_format : MethodName := ⟨RX0, "format", "()I"⟩
abbrev cX1_wipe : ByteArray := prog_2_method_2_code
def yX1_wipe : MethodName := ⟨RX1, "wipe", "()V"⟩
abbrev cJ0_fill : ByteArray := prog_6_method_103_code
def yJ0_fill : MethodName := ⟨RJ0, "fill", "([II)V"⟩
abbrev cX0_clearStaged : ByteArray := prog_1_method_31_code
def yX0_clearStaged : MethodName := ⟨RX0, "clearStaged", "()V"⟩
abbrev cX0_stageWord : ByteArray := prog_1_method_3_code
def yX0_stageWord : MethodName := ⟨RX0, "stageWord", "(II)I"⟩
abbrev cX1_isDown : ByteArray := prog_2_method_7_code
def yX1_isDown : MethodName := ⟨RX1, "isDown", "()Z"⟩
abbrev cX0_isWord : ByteArray := prog_1_method_18_code
def yX0_isWord : MethodName := ⟨RX0, "isWord", "(I)Z"⟩
abbrev cX0_writeBlock : ByteArray := prog_1_method_4_code
def yX0_writeBlock : MethodName := ⟨RX0, "writeBlock", "(II)I"⟩
abbrev cX0_isBlock : ByteArray := prog_1_method_20_code
def yX0_isBlock : MethodName := ⟨RX0, "isBlock", "(II)Z"⟩
abbrev cX0_isVolume : ByteArray := prog_1_method_19_code
def yX0_isVolume : MethodName := ⟨RX0, "isVolume", "(I)Z"⟩
abbrev cX0_usedSlotWithStaged : ByteArray := prog_1_method_30_code
def yX0_usedSlotWithStaged : MethodName := ⟨RX0, "usedSlotWithStaged", "()I"⟩
abbrev cX0_hasStagedWords : ByteArray := prog_1_method_29_code
def yX0_hasStagedWords : MethodName := ⟨RX0, "hasStagedWords", "(I)Z"⟩
abbrev cX0_slotCell : ByteArray := prog_1_method_21_code
def yX0_slotCell : MethodName := ⟨RX0, "slotCell", "(II)I"⟩
abbrev cX1_read : ByteArray := prog_2_method_3_code
def yX1_read : MethodName := ⟨RX1, "read", "(I)I"⟩
abbrev cX0_isUsed : ByteArray := prog_1_method_26_code
def yX0_isUsed : MethodName := ⟨RX0, "isUsed", "(I)Z"⟩
abbrev cX0_blocksMappedTo : ByteArray := prog_1_method_25_code
def yX0_blocksMappedTo : MethodName := ⟨RX0, "blocksMappedTo", "(I)I"⟩
abbrev cX0_writeNewContents : ByteArray := prog_1_method_32_code
def yX0_writeNewContents : MethodName := ⟨RX0, "writeNewContents", "(II)I"⟩
abbrev cX0_usedSlotsWithout : ByteArray := prog_1_method_33_code
def yX0_usedSlotsWithout : MethodName := ⟨RX0, "usedSlotsWithout", "(II)I"⟩
abbrev cX0_mappedSlot : ByteArray := prog_1_method_23_code
def yX0_mappedSlot : MethodName := ⟨RX0, "mappedSlot", "(II)I"⟩
abbrev cX0_mapCell : ByteArray := prog_1_method_22_code
def yX0_mapCell : MethodName := ⟨RX0, "mapCell", "(II)I"⟩
abbrev cX0_usedSlots : ByteArray := prog_1_method_27_code
def yX0_usedSlots : MethodName := ⟨RX0, "usedSlots", "()I"⟩
abbrev cX0_lowestUnusedSlot : ByteArray := prog_1_method_28_code
def yX0_lowestUnusedSlot : MethodName := ⟨RX0, "lowestUnusedSlot", "()I"⟩
abbrev cX1_write : ByteArray := prog_2_method_4_code
def yX1_write : MethodName := ⟨RX1, "write", "(II)V"⟩
abbrev cX0_change : ByteArray := prog_1_method_34_code
def yX0_change : MethodName := ⟨RX0, "change", "(IIII)I"⟩
abbrev cX0_carryOutIntent : ByteArray := prog_1_method_35_code
def yX0_carryOutIntent : MethodName := ⟨RX0, "carryOutIntent", "()V"⟩
abbrev cX0_mapBlock : ByteArray := prog_1_method_24_code
def yX0_mapBlock : MethodName := ⟨RX0, "mapBlock", "(III)V"⟩
abbrev cX0_mapVolumeAs : ByteArray := prog_1_method_36_code
def yX0_mapVolumeAs : MethodName := ⟨RX0, "mapVolumeAs", "(II)V"⟩
abbrev cX0_unmapVolume : ByteArray := prog_1_method_37_code
def yX0_unmapVolume : MethodName := ⟨RX0, "unmapVolume", "(I)V"⟩
abbrev cX0_readWord : ByteArray := prog_1_method_5_code
def yX0_readWord : MethodName := ⟨RX0, "readWord", "(III)I"⟩
abbrev cX0_trim : ByteArray := prog_1_method_6_code
def yX0_trim : MethodName := ⟨RX0, "trim", "(II)I"⟩
abbrev cX0_cloneVol : ByteArray := prog_1_method_7_code
def yX0_cloneVol : MethodName := ⟨RX0, "cloneVol", "(II)I"⟩
abbrev cX0_dropVol : ByteArray := prog_1_method_8_code
def yX0_dropVol : MethodName := ⟨RX0, "dropVol", "(I)I"⟩
abbrev cX0_chunksUsed : ByteArray := prog_1_method_9_code
def yX0_chunksUsed : MethodName := ⟨RX0, "chunksUsed", "()I"⟩
abbrev cX0_refsOf : ByteArray := prog_1_method_10_code
def yX0_refsOf : MethodName := ⟨RX0, "refsOf", "(II)I"⟩
abbrev cX0_slotOf : ByteArray := prog_1_method_11_code
def yX0_slotOf : MethodName := ⟨RX0, "slotOf", "(II)I"⟩
abbrev cX0_slotWord : ByteArray := prog_1_method_12_code
def yX0_slotWord : MethodName := ⟨RX0, "slotWord", "(II)I"⟩
abbrev cX0_crashAfter : ByteArray := prog_1_method_13_code
def yX0_crashAfter : MethodName := ⟨RX0, "crashAfter", "(I)V"⟩
abbrev cX1_armLoss : ByteArray := prog_2_method_5_code
def yX1_armLoss : MethodName := ⟨RX1, "armLoss", "(I)V"⟩
abbrev cX0_down : ByteArray := prog_1_method_14_code
def yX0_down : MethodName := ⟨RX0, "down", "()Z"⟩
abbrev cX0_recover : ByteArray := prog_1_method_15_code
def yX0_recover : MethodName := ⟨RX0, "recover", "()I"⟩
abbrev cX1_restorePower : ByteArray := prog_2_method_6_code
def yX1_restorePower : MethodName := ⟨RX1, "restorePower", "()V"⟩
abbrev cX0_writes : ByteArray := prog_1_method_16_code
def yX0_writes : MethodName := ⟨RX0, "writes", "()I"⟩
abbrev cX1_writesDone : ByteArray := prog_2_method_8_code
def yX1_writesDone : MethodName := ⟨RX1, "writesDone", "()I"⟩
abbrev cL_cell : ByteArray := method_2_code
def yL_cell : MethodName := ⟨RL, "cell", "([II)I"⟩
abbrev cX2_init : ByteArray := prog_4_method_2_code
def yX2_init : MethodName := ⟨RX2, "<init>", "(IIII)V"⟩
abbrev cX2_cut : ByteArray := prog_4_method_1_code
def yX2_cut : MethodName := ⟨RX2, "cut", "(II)I"⟩
abbrev cX2_format : ByteArray := prog_4_method_4_code
def yX2_format : MethodName := ⟨RX2, "format", "()I"⟩
abbrev cX2_clearStage : ByteArray := prog_4_method_3_code
def yX2_clearStage : MethodName := ⟨RX2, "clearStage", "()V"⟩
abbrev cX2_stageWord : ByteArray := prog_4_method_16_code
def yX2_stageWord : MethodName := ⟨RX2, "stageWord", "(II)I"⟩
abbrev cX2_isWord : ByteArray := prog_4_method_15_code
def yX2_isWord : MethodName := ⟨RX2, "isWord", "(I)Z"⟩
abbrev cX2_writeBlock : ByteArray := prog_4_method_17_code
def yX2_writeBlock : MethodName := ⟨RX2, "writeBlock", "(II)I"⟩
abbrev cX2_block : ByteArray := prog_4_method_9_code
def yX2_block : MethodName := ⟨RX2, "block", "(II)Z"⟩
abbrev cX2_volume : ByteArray := prog_4_method_8_code
def yX2_volume : MethodName := ⟨RX2, "volume", "(I)Z"⟩
abbrev cX2_sharing : ByteArray := prog_4_method_13_code
def yX2_sharing : MethodName := ⟨RX2, "sharing", "()I"⟩
abbrev cX2_refs : ByteArray := prog_4_method_10_code
def yX2_refs : MethodName := ⟨RX2, "refs", "(I)I"⟩
abbrev cX2_hasStaged : ByteArray := prog_4_method_12_code
def yX2_hasStaged : MethodName := ⟨RX2, "hasStaged", "(I)Z"⟩
abbrev cX2_used : ByteArray := prog_4_method_11_code
def yX2_used : MethodName := ⟨RX2, "used", "()I"⟩
abbrev cX2_lowestUnused : ByteArray := prog_4_method_14_code
def yX2_lowestUnused : MethodName := ⟨RX2, "lowestUnused", "()I"⟩
abbrev cX2_spend : ByteArray := prog_4_method_5_code
def yX2_spend : MethodName := ⟨RX2, "spend", "(I)I"⟩
abbrev cX2_wantAsIs : ByteArray := prog_4_method_7_code
def yX2_wantAsIs : MethodName := ⟨RX2, "wantAsIs", "()V"⟩
abbrev cX2_change : ByteArray := prog_4_method_6_code
def yX2_change : MethodName := ⟨RX2, "change", "(I)I"⟩
abbrev cX2_readWord : ByteArray := prog_4_method_18_code
def yX2_readWord : MethodName := ⟨RX2, "readWord", "(III)I"⟩
abbrev cX2_trim : ByteArray := prog_4_method_19_code
def yX2_trim : MethodName := ⟨RX2, "trim", "(II)I"⟩
abbrev cX2_cloneVol : ByteArray := prog_4_method_20_code
def yX2_cloneVol : MethodName := ⟨RX2, "cloneVol", "(II)I"⟩
abbrev cX2_dropVol : ByteArray := prog_4_method_21_code
def yX2_dropVol : MethodName := ⟨RX2, "dropVol", "(I)I"⟩
abbrev cX2_chunksUsed : ByteArray := prog_4_method_22_code
def yX2_chunksUsed : MethodName := ⟨RX2, "chunksUsed", "()I"⟩
abbrev cX2_refsOf : ByteArray := prog_4_method_23_code
def yX2_refsOf : MethodName := ⟨RX2, "refsOf", "(II)I"⟩
abbrev cX2_slotOf : ByteArray := prog_4_method_24_code
def yX2_slotOf : MethodName := ⟨RX2, "slotOf", "(II)I"⟩
abbrev cX2_slotWord : ByteArray := prog_4_method_25_code
def yX2_slotWord : MethodName := ⟨RX2, "slotWord", "(II)I"⟩
abbrev cX2_crashAfter : ByteArray := prog_4_method_26_code
def yX2_crashAfter : MethodName := ⟨RX2, "crashAfter", "(I)V"⟩
abbrev cX2_down : ByteArray := prog_4_method_27_code
def yX2_down : MethodName := ⟨RX2, "down", "()Z"⟩
abbrev cX2_recover : ByteArray := prog_4_method_28_code
def yX2_recover : MethodName := ⟨RX2, "recover", "()I"⟩
abbrev cX2_writes : ByteArray := prog_4_method_29_code
def yX2_writes : MethodName := ⟨RX2, "writes", "()I"⟩
abbrev cL_law : ByteArray := code
def TBG : List Cond := lw_tbl.filter goodWord
theorem tb_in : ∀ w ∈ TBG, w ∈ lw_tbl := fun w h => (List.mem_filter.mp h).1
theorem tb_good : ∀ w ∈ TBG, goodWord w = true := fun w h => (List.mem_filter.mp h).2
theorem tb_0 : (.initialized RL : Cond) ∈ TBG := List.mem_filter.mpr ⟨List.mem_append_right _ (List.mem_append_left _ (List.mem_of_getElem? (l := tables_1_1) (i := 0) rfl)), rfl⟩
theorem tb_1 : (.initialized RX0 : Cond) ∈ TBG := List.mem_filter.mpr ⟨List.mem_append_right _ (List.mem_append_left _ (List.mem_of_getElem? (l := tables_1_1) (i := 1) rfl)), rfl⟩
theorem tb_2 : (.initialized "java/lang/Math" : Cond) ∈ TBG := List.mem_filter.mpr ⟨List.mem_append_right _ (List.mem_append_left _ (List.mem_of_getElem? (l := tables_1_1) (i := 2) rfl)), rfl⟩
theorem tb_3 : (.initialized RX1 : Cond) ∈ TBG := List.mem_filter.mpr ⟨List.mem_append_right _ (List.mem_append_left _ (List.mem_of_getElem? (l := tables_1_1) (i := 3) rfl)), rfl⟩
theorem tb_4 : (.initialized RX2 : Cond) ∈ TBG := List.mem_filter.mpr ⟨List.mem_append_right _ (List.mem_append_left _ (List.mem_of_getElem? (l := tables_1_1) (i := 4) rfl)), rfl⟩
theorem tb_5 : (.initialized RJ0 : Cond) ∈ TBG := List.mem_filter.mpr ⟨List.mem_append_right _ (List.mem_append_left _ (List.mem_of_getElem? (l := tables_1_1) (i := 5) rfl)), rfl⟩
theorem tb_6 : (.classLink RL 7 RX0 : Cond) ∈ TBG := List.mem_filter.mpr ⟨List.mem_append_right _ (List.mem_append_left _ (List.mem_of_getElem? (l := tables_1_1) (i := 6) rfl)), rfl⟩
theorem tb_7 : (.instantiable RX0 8 : Cond) ∈ TBG := List.mem_filter.mpr ⟨List.mem_append_right _ (List.mem_append_left _ (List.mem_of_getElem? (l := tables_1_1) (i := 7) rfl)), rfl⟩
theorem tb_8 : (.methodLink RL 15 yX0_init : Cond) ∈ TBG := List.mem_filter.mpr ⟨List.mem_append_right _ (List.mem_append_left _ (List.mem_of_getElem? (l := tables_1_1) (i := 8) rfl)), rfl⟩
theorem tb_9 : (.instanceMethod yX0_init : Cond) ∈ TBG := List.mem_filter.mpr ⟨List.mem_append_right _ (List.mem_append_left _ (List.mem_of_getElem? (l := tables_1_1) (i := 9) rfl)), rfl⟩
theorem tb_10 : (.code yX0_init cX0_init 5 none : Cond) ∈ TBG := List.mem_filter.mpr ⟨List.mem_append_right _ (List.mem_append_left _ (List.mem_of_getElem? (l := tables_1_1) (i := 10) rfl)), rfl⟩
theorem tb_11 : (.methodLink RX0 1 objectInit : Cond) ∈ TBG := List.mem_filter.mpr ⟨List.mem_append_right _ (List.mem_append_left _ (List.mem_of_getElem? (l := tables_1_1) (i := 11) rfl)), rfl⟩
theorem tb_12 : (.instanceMethod objectInit : Cond) ∈ TBG := List.mem_filter.mpr ⟨List.mem_append_right _ (List.mem_append_left _ (List.mem_of_getElem? (l := tables_1_1) (i := 12) rfl)), rfl⟩
theorem tb_13 : (.code objectInit ⟨#[0xb1]⟩ 1 none : Cond) ∈ TBG := List.mem_filter.mpr ⟨List.mem_append_right _ (List.mem_append_left _ (List.mem_of_getElem? (l := tables_1_1) (i := 13) rfl)), rfl⟩
theorem tb_14 : (.methodLink RX0 9 yX0_within : Cond) ∈ TBG := List.mem_filter.mpr ⟨List.mem_append_right _ (List.mem_append_left _ (List.mem_of_getElem? (l := tables_1_1) (i := 14) rfl)), rfl⟩
theorem tb_15 : (.static yX0_within : Cond) ∈ TBG := List.mem_filter.mpr ⟨List.mem_append_right _ (List.mem_append_left _ (List.mem_of_getElem? (l := tables_1_1) (i := 15) rfl)), rfl⟩
theorem tb_16 : (.code yX0_within cX0_within 2 (some .int) : Cond) ∈ TBG := List.mem_filter.mpr ⟨List.mem_append_right _ (List.mem_append_left _ (List.mem_of_getElem? (l := tables_1_1) (i := 16) rfl)), rfl⟩
theorem tb_17 : (.methodLink RX0 105 Lib.Math.min.name : Cond) ∈ TBG := List.mem_filter.mpr ⟨List.mem_append_right _ (List.mem_append_left _ (List.mem_of_getElem? (l := tables_1_1) (i := 17) rfl)), rfl⟩
theorem tb_18 : (.static Lib.Math.min.name : Cond) ∈ TBG := List.mem_filter.mpr ⟨List.mem_append_right _ (List.mem_append_left _ (List.mem_of_getElem? (l := tables_1_1) (i := 18) rfl)), rfl⟩
theorem tb_19 : (.code Lib.Math.min.name Lib.Math.min.code 2 (some .int) : Cond) ∈ TBG := List.mem_filter.mpr ⟨List.mem_append_right _ (List.mem_append_left _ (List.mem_of_getElem? (l := tables_1_1) (i := 19) rfl)), rfl⟩
theorem tb_20 : (.methodLink RX0 110 Lib.Math.max.name : Cond) ∈ TBG := List.mem_filter.mpr ⟨List.mem_append_right _ (List.mem_append_left _ (List.mem_of_getElem? (l := tables_1_1) (i := 20) rfl)), rfl⟩
theorem tb_21 : (.static Lib.Math.max.name : Cond) ∈ TBG := List.mem_filter.mpr ⟨List.mem_append_right _ (List.mem_append_left _ (List.mem_of_getElem? (l := tables_1_1) (i := 21) rfl)), rfl⟩
theorem tb_22 : (.code Lib.Math.max.name Lib.Math.max.code 2 (some .int) : Cond) ∈ TBG := List.mem_filter.mpr ⟨List.mem_append_right _ (List.mem_append_left _ (List.mem_of_getElem? (l := tables_1_1) (i := 22) rfl)), rfl⟩
theorem tb_23 : (.classLink RX0 36 RX1 : Cond) ∈ TBG := List.mem_filter.mpr ⟨List.mem_append_right _ (List.mem_append_left _ (List.mem_of_getElem? (l := tables_1_1) (i := 23) rfl)), rfl⟩
theorem tb_24 : (.instantiable RX1 5 : Cond) ∈ TBG := List.mem_filter.mpr ⟨List.mem_append_right _ (List.mem_append_left _ (List.mem_of_getElem? (l := tables_1_1) (i := 24) rfl)), rfl⟩
theorem tb_26 : (.instanceMethod yX1_init : Cond) ∈ TBG := List.mem_filter.mpr ⟨List.mem_append_right _ (List.mem_append_left _ (List.mem_of_getElem? (l := tables_1_1) (i := 26) rfl)), rfl⟩
theorem tb_27 : (.code yX1_init cX1_init 2 none : Cond) ∈ TBG := List.mem_filter.mpr ⟨List.mem_append_right _ (List.mem_append_left _ (List.mem_of_getElem? (l := tables_1_1) (i := 27) rfl)), rfl⟩
theorem tb_28 : (.methodLink RX1 1 objectInit : Cond) ∈ TBG := List.mem_filter.mpr ⟨List.mem_append_right _ (List.mem_append_left _ (List.mem_of_getElem? (l := tables_1_1) (i := 28) rfl)), rfl⟩
theorem tb_29 : (.fieldLink RX1 7 "SharedVolumes$Disk" "cells" "[I" : Cond) ∈ TBG := List.mem_filter.mpr ⟨List.mem_append_right _ (List.mem_append_left _ (List.mem_of_getElem? (l := tables_1_1) (i := 29) rfl)), rfl⟩
theorem tb_30 : (.fieldLink RX1 27 "SharedVolumes$Disk" "writeCount" "I" : Cond) ∈ TBG := List.mem_filter.mpr ⟨List.mem_append_right _ (List.mem_append_left _ (List.mem_of_getElem? (l := tables_1_1) (i := 30) rfl)), rfl⟩
theorem tb_31 : (.fieldLink RX1 19 "SharedVolumes$Disk" "writesToLoss" "I" : Cond) ∈ TBG := List.mem_filter.mpr ⟨List.mem_append_right _ (List.mem_append_left _ (List.mem_of_getElem? (l := tables_1_1) (i := 31) rfl)), rfl⟩
theorem tb_32 : (.fieldLink RX1 30 "SharedVolumes$Disk" "lossesArmed" "I" : Cond) ∈ TBG := List.mem_filter.mpr ⟨List.mem_append_right _ (List.mem_append_left _ (List.mem_of_getElem? (l := tables_1_1) (i := 32) rfl)), rfl⟩
theorem tb_33 : (.fieldLink RX1 23 "SharedVolumes$Disk" "powerLost" "Z" : Cond) ∈ TBG := List.mem_filter.mpr ⟨List.mem_append_right _ (List.mem_append_left _ (List.mem_of_getElem? (l := tables_1_1) (i := 33) rfl)), rfl⟩
theorem tb_45 : (.arrayClass .int : Cond) ∈ TBG := List.mem_filter.mpr ⟨List.mem_append_right _ (List.mem_append_left _ (List.mem_of_getElem? (l := tables_1_1) (i := 45) rfl)), rfl⟩
theorem tb_46 : (.fieldLink RX0 13 "SharedVolumes" "blockWords" "I" : Cond) ∈ TBG := List.mem_filter.mpr ⟨List.mem_append_right _ (List.mem_append_left _ (List.mem_of_getElem? (l := tables_1_1) (i := 46) rfl)), rfl⟩
theorem tb_47 : (.fieldLink RX0 17 "SharedVolumes" "chunks" "I" : Cond) ∈ TBG := List.mem_filter.mpr ⟨List.mem_append_right _ (List.mem_append_left _ (List.mem_of_getElem? (l := tables_1_1) (i := 47) rfl)), rfl⟩
theorem tb_48 : (.fieldLink RX0 20 "SharedVolumes" "volumes" "I" : Cond) ∈ TBG := List.mem_filter.mpr ⟨List.mem_append_right _ (List.mem_append_left _ (List.mem_of_getElem? (l := tables_1_1) (i := 48) rfl)), rfl⟩
theorem tb_49 : (.fieldLink RX0 23 "SharedVolumes" "blocks" "I" : Cond) ∈ TBG := List.mem_filter.mpr ⟨List.mem_append_right _ (List.mem_append_left _ (List.mem_of_getElem? (l := tables_1_1) (i := 49) rfl)), rfl⟩
theorem tb_50 : (.fieldLink RX0 26 "SharedVolumes" "staged" "[I" : Cond) ∈ TBG := List.mem_filter.mpr ⟨List.mem_append_right _ (List.mem_append_left _ (List.mem_of_getElem? (l := tables_1_1) (i := 50) rfl)), rfl⟩
theorem tb_51 : (.fieldLink RX0 30 "SharedVolumes" "mapStart" "I" : Cond) ∈ TBG := List.mem_filter.mpr ⟨List.mem_append_right _ (List.mem_append_left _ (List.mem_of_getElem? (l := tables_1_1) (i := 51) rfl)), rfl⟩
theorem tb_52 : (.fieldLink RX0 33 "SharedVolumes" "intentStart" "I" : Cond) ∈ TBG := List.mem_filter.mpr ⟨List.mem_append_right _ (List.mem_append_left _ (List.mem_of_getElem? (l := tables_1_1) (i := 52) rfl)), rfl⟩
theorem tb_53 : (.fieldLink RX0 41 "SharedVolumes" "disk" "LSharedVolumes$Disk;" : Cond) ∈ TBG := List.mem_filter.mpr ⟨List.mem_append_right _ (List.mem_append_left _ (List.mem_of_getElem? (l := tables_1_1) (i := 53) rfl)), rfl⟩
theorem tb_71 : (.methodLink RL 21 yX0_format : Cond) ∈ TBG := List.mem_filter.mpr ⟨List.mem_append_right _ (List.mem_append_left _ (List.mem_of_getElem? (l := tables_1_1) (i := 71) rfl)), rfl⟩
theorem tb_72 : (.instanceMethod yX0_format : Cond) ∈ TBG := List.mem_filter.mpr ⟨List.mem_append_right _ (List.mem_append_left _ (List.mem_of_getElem? (l := tables_1_1) (i := 72) rfl)), rfl⟩
theorem tb_73 : (.selects RX0 yX0_format yX0_format : Cond) ∈ TBG := List.mem_filter.mpr ⟨List.mem_append_right _ (List.mem_append_left _ (List.mem_of_getElem? (l := tables_1_1) (i := 73) rfl)), rfl⟩
theorem tb_74 : (.code yX0_format cX0_format 1 (some .int) : Cond) ∈ TBG := List.mem_filter.mpr ⟨List.mem_append_right _ (List.mem_append_left _ (List.mem_of_getElem? (l := tables_1_1) (i := 74) rfl)), rfl⟩
theorem tb_77 : (.instanceMethod yX1_wipe : Cond) ∈ TBG := List.mem_filter.mpr ⟨List.mem_append_right _ (List.mem_append_left _ (List.mem_of_getElem? (l := tables_1_1) (i := 77) rfl)), rfl⟩
theorem tb_78 : (.code yX1_wipe cX1_wipe 1 none : Cond) ∈ TBG := List.mem_filter.mpr ⟨List.mem_append_right _ (List.mem_append_left _ (List.mem_of_getElem? (l := tables_1_1) (i := 78) rfl)), rfl⟩
theorem tb_79 : (.methodLink RX1 13 yJ0_fill : Cond) ∈ TBG := List.mem_filter.mpr ⟨List.mem_append_right _ (List.mem_append_left _ (List.mem_of_getElem? (l := tables_1_1) (i := 79) rfl)), rfl⟩
theorem tb_80 : (.static yJ0_fill : Cond) ∈ TBG := List.mem_filter.mpr ⟨List.mem_append_right _ (List.mem_append_left _ (List.mem_of_getElem? (l := tables_1_1) (i := 80) rfl)), rfl⟩
theorem tb_81 : (.code yJ0_fill cJ0_fill 4 none : Cond) ∈ TBG := List.mem_filter.mpr ⟨List.mem_append_right _ (List.mem_append_left _ (List.mem_of_getElem? (l := tables_1_1) (i := 81) rfl)), rfl⟩
theorem tb_82 : (.methodLink RX0 48 yX0_clearStaged : Cond) ∈ TBG := List.mem_filter.mpr ⟨List.mem_append_right _ (List.mem_append_left _ (List.mem_of_getElem? (l := tables_1_1) (i := 82) rfl)), rfl⟩
theorem tb_84 : (.instanceMethod yX0_clearStaged : Cond) ∈ TBG := List.mem_filter.mpr ⟨List.mem_append_right _ (List.mem_append_left _ (List.mem_of_getElem? (l := tables_1_1) (i := 84) rfl)), rfl⟩
theorem tb_85 : (.code yX0_clearStaged cX0_clearStaged 1 none : Cond) ∈ TBG := List.mem_filter.mpr ⟨List.mem_append_right _ (List.mem_append_left _ (List.mem_of_getElem? (l := tables_1_1) (i := 85) rfl)), rfl⟩
theorem tb_86 : (.methodLink RX0 126 yJ0_fill : Cond) ∈ TBG := List.mem_filter.mpr ⟨List.mem_append_right _ (List.mem_append_left _ (List.mem_of_getElem? (l := tables_1_1) (i := 86) rfl)), rfl⟩
theorem tb_87 : (.methodLink RL 26 yX0_stageWord : Cond) ∈ TBG := List.mem_filter.mpr ⟨List.mem_append_right _ (List.mem_append_left _ (List.mem_of_getElem? (l := tables_1_1) (i := 87) rfl)), rfl⟩
theorem tb_88 : (.instanceMethod yX0_stageWord : Cond) ∈ TBG := List.mem_filter.mpr ⟨List.mem_append_right _ (List.mem_append_left _ (List.mem_of_getElem? (l := tables_1_1) (i := 88) rfl)), rfl⟩
theorem tb_89 : (.selects RX0 yX0_stageWord yX0_stageWord : Cond) ∈ TBG := List.mem_filter.mpr ⟨List.mem_append_right _ (List.mem_append_left _ (List.mem_of_getElem? (l := tables_1_1) (i := 89) rfl)), rfl⟩
theorem tb_90 : (.code yX0_stageWord cX0_stageWord 3 (some .int) : Cond) ∈ TBG := List.mem_filter.mpr ⟨List.mem_append_right _ (List.mem_append_left _ (List.mem_of_getElem? (l := tables_1_1) (i := 90) rfl)), rfl⟩
theorem tb_93 : (.instanceMethod yX1_isDown : Cond) ∈ TBG := List.mem_filter.mpr ⟨List.mem_append_right _ (List.mem_append_left _ (List.mem_of_getElem? (l := tables_1_1) (i := 93) rfl)), rfl⟩
theorem tb_94 : (.code yX1_isDown cX1_isDown 1 (some .boolean) : Cond) ∈ TBG := List.mem_filter.mpr ⟨List.mem_append_right _ (List.mem_append_left _ (List.mem_of_getElem? (l := tables_1_1) (i := 94) rfl)), rfl⟩
theorem tb_95 : (.methodLink RX0 55 yX0_isWord : Cond) ∈ TBG := List.mem_filter.mpr ⟨List.mem_append_right _ (List.mem_append_left _ (List.mem_of_getElem? (l := tables_1_1) (i := 95) rfl)), rfl⟩
theorem tb_97 : (.instanceMethod yX0_isWord : Cond) ∈ TBG := List.mem_filter.mpr ⟨List.mem_append_right _ (List.mem_append_left _ (List.mem_of_getElem? (l := tables_1_1) (i := 97) rfl)), rfl⟩
theorem tb_98 : (.code yX0_isWord cX0_isWord 2 (some .boolean) : Cond) ∈ TBG := List.mem_filter.mpr ⟨List.mem_append_right _ (List.mem_append_left _ (List.mem_of_getElem? (l := tables_1_1) (i := 98) rfl)), rfl⟩
theorem tb_99 : (.methodLink RL 31 yX0_writeBlock : Cond) ∈ TBG := List.mem_filter.mpr ⟨List.mem_append_right _ (List.mem_append_left _ (List.mem_of_getElem? (l := tables_1_1) (i := 99) rfl)), rfl⟩
theorem tb_100 : (.instanceMethod yX0_writeBlock : Cond) ∈ TBG := List.mem_filter.mpr ⟨List.mem_append_right _ (List.mem_append_left _ (List.mem_of_getElem? (l := tables_1_1) (i := 100) rfl)), rfl⟩
theorem tb_101 : (.selects RX0 yX0_writeBlock yX0_writeBlock : Cond) ∈ TBG := List.mem_filter.mpr ⟨List.mem_append_right _ (List.mem_append_left _ (List.mem_of_getElem? (l := tables_1_1) (i := 101) rfl)), rfl⟩
theorem tb_102 : (.code yX0_writeBlock cX0_writeBlock 4 (some .int) : Cond) ∈ TBG := List.mem_filter.mpr ⟨List.mem_append_right _ (List.mem_append_left _ (List.mem_of_getElem? (l := tables_1_1) (i := 102) rfl)), rfl⟩
theorem tb_103 : (.methodLink RX0 59 yX0_isBlock : Cond) ∈ TBG := List.mem_filter.mpr ⟨List.mem_append_right _ (List.mem_append_left _ (List.mem_of_getElem? (l := tables_1_1) (i := 103) rfl)), rfl⟩
theorem tb_105 : (.instanceMethod yX0_isBlock : Cond) ∈ TBG := List.mem_filter.mpr ⟨List.mem_append_right _ (List.mem_append_left _ (List.mem_of_getElem? (l := tables_1_1) (i := 105) rfl)), rfl⟩
theorem tb_106 : (.code yX0_isBlock cX0_isBlock 3 (some .boolean) : Cond) ∈ TBG := List.mem_filter.mpr ⟨List.mem_append_right _ (List.mem_append_left _ (List.mem_of_getElem? (l := tables_1_1) (i := 106) rfl)), rfl⟩
theorem tb_107 : (.methodLink RX0 84 yX0_isVolume : Cond) ∈ TBG := List.mem_filter.mpr ⟨List.mem_append_right _ (List.mem_append_left _ (List.mem_of_getElem? (l := tables_1_1) (i := 107) rfl)), rfl⟩
theorem tb_109 : (.instanceMethod yX0_isVolume : Cond) ∈ TBG := List.mem_filter.mpr ⟨List.mem_append_right _ (List.mem_append_left _ (List.mem_of_getElem? (l := tables_1_1) (i := 109) rfl)), rfl⟩
theorem tb_110 : (.code yX0_isVolume cX0_isVolume 2 (some .boolean) : Cond) ∈ TBG := List.mem_filter.mpr ⟨List.mem_append_right _ (List.mem_append_left _ (List.mem_of_getElem? (l := tables_1_1) (i := 110) rfl)), rfl⟩
theorem tb_111 : (.methodLink RX0 63 yX0_usedSlotWithStaged : Cond) ∈ TBG := List.mem_filter.mpr ⟨List.mem_append_right _ (List.mem_append_left _ (List.mem_of_getElem? (l := tables_1_1) (i := 111) rfl)), rfl⟩
theorem tb_113 : (.instanceMethod yX0_usedSlotWithStaged : Cond) ∈ TBG := List.mem_filter.mpr ⟨List.mem_append_right _ (List.mem_append_left _ (List.mem_of_getElem? (l := tables_1_1) (i := 113) rfl)), rfl⟩
theorem tb_114 : (.code yX0_usedSlotWithStaged cX0_usedSlotWithStaged 2 (some .int) : Cond) ∈ TBG := List.mem_filter.mpr ⟨List.mem_append_right _ (List.mem_append_left _ (List.mem_of_getElem? (l := tables_1_1) (i := 114) rfl)), rfl⟩
theorem tb_115 : (.methodLink RX0 123 yX0_hasStagedWords : Cond) ∈ TBG := List.mem_filter.mpr ⟨List.mem_append_right _ (List.mem_append_left _ (List.mem_of_getElem? (l := tables_1_1) (i := 115) rfl)), rfl⟩
theorem tb_117 : (.instanceMethod yX0_hasStagedWords : Cond) ∈ TBG := List.mem_filter.mpr ⟨List.mem_append_right _ (List.mem_append_left _ (List.mem_of_getElem? (l := tables_1_1) (i := 117) rfl)), rfl⟩
theorem tb_118 : (.code yX0_hasStagedWords cX0_hasStagedWords 3 (some .boolean) : Cond) ∈ TBG := List.mem_filter.mpr ⟨List.mem_append_right _ (List.mem_append_left _ (List.mem_of_getElem? (l := tables_1_1) (i := 118) rfl)), rfl⟩
theorem tb_119 : (.methodLink RX0 77 yX0_slotCell : Cond) ∈ TBG := List.mem_filter.mpr ⟨List.mem_append_right _ (List.mem_append_left _ (List.mem_of_getElem? (l := tables_1_1) (i := 119) rfl)), rfl⟩
theorem tb_121 : (.instanceMethod yX0_slotCell : Cond) ∈ TBG := List.mem_filter.mpr ⟨List.mem_append_right _ (List.mem_append_left _ (List.mem_of_getElem? (l := tables_1_1) (i := 121) rfl)), rfl⟩
theorem tb_122 : (.code yX0_slotCell cX0_slotCell 3 (some .int) : Cond) ∈ TBG := List.mem_filter.mpr ⟨List.mem_append_right _ (List.mem_append_left _ (List.mem_of_getElem? (l := tables_1_1) (i := 122) rfl)), rfl⟩
theorem tb_125 : (.instanceMethod yX1_read : Cond) ∈ TBG := List.mem_filter.mpr ⟨List.mem_append_right _ (List.mem_append_left _ (List.mem_of_getElem? (l := tables_1_1) (i := 125) rfl)), rfl⟩
theorem tb_126 : (.code yX1_read cX1_read 2 (some .int) : Cond) ∈ TBG := List.mem_filter.mpr ⟨List.mem_append_right _ (List.mem_append_left _ (List.mem_of_getElem? (l := tables_1_1) (i := 126) rfl)), rfl⟩
theorem tb_127 : (.methodLink RX0 120 yX0_isUsed : Cond) ∈ TBG := List.mem_filter.mpr ⟨List.mem_append_right _ (List.mem_append_left _ (List.mem_of_getElem? (l := tables_1_1) (i := 127) rfl)), rfl⟩
theorem tb_129 : (.instanceMethod yX0_isUsed : Cond) ∈ TBG := List.mem_filter.mpr ⟨List.mem_append_right _ (List.mem_append_left _ (List.mem_of_getElem? (l := tables_1_1) (i := 129) rfl)), rfl⟩
theorem tb_130 : (.code yX0_isUsed cX0_isUsed 2 (some .boolean) : Cond) ∈ TBG := List.mem_filter.mpr ⟨List.mem_append_right _ (List.mem_append_left _ (List.mem_of_getElem? (l := tables_1_1) (i := 130) rfl)), rfl⟩
theorem tb_131 : (.methodLink RX0 90 yX0_blocksMappedTo : Cond) ∈ TBG := List.mem_filter.mpr ⟨List.mem_append_right _ (List.mem_append_left _ (List.mem_of_getElem? (l := tables_1_1) (i := 131) rfl)), rfl⟩
theorem tb_133 : (.instanceMethod yX0_blocksMappedTo : Cond) ∈ TBG := List.mem_filter.mpr ⟨List.mem_append_right _ (List.mem_append_left _ (List.mem_of_getElem? (l := tables_1_1) (i := 133) rfl)), rfl⟩
theorem tb_134 : (.code yX0_blocksMappedTo cX0_blocksMappedTo 4 (some .int) : Cond) ∈ TBG := List.mem_filter.mpr ⟨List.mem_append_right _ (List.mem_append_left _ (List.mem_of_getElem? (l := tables_1_1) (i := 134) rfl)), rfl⟩
theorem tb_135 : (.methodLink RX0 67 yX0_writeNewContents : Cond) ∈ TBG := List.mem_filter.mpr ⟨List.mem_append_right _ (List.mem_append_left _ (List.mem_of_getElem? (l := tables_1_1) (i := 135) rfl)), rfl⟩
theorem tb_137 : (.instanceMethod yX0_writeNewContents : Cond) ∈ TBG := List.mem_filter.mpr ⟨List.mem_append_right _ (List.mem_append_left _ (List.mem_of_getElem? (l := tables_1_1) (i := 137) rfl)), rfl⟩
theorem tb_138 : (.code yX0_writeNewContents cX0_writeNewContents 5 (some .int) : Cond) ∈ TBG := List.mem_filter.mpr ⟨List.mem_append_right _ (List.mem_append_left _ (List.mem_of_getElem? (l := tables_1_1) (i := 138) rfl)), rfl⟩
theorem tb_139 : (.methodLink RX0 132 yX0_usedSlotsWithout : Cond) ∈ TBG := List.mem_filter.mpr ⟨List.mem_append_right _ (List.mem_append_left _ (List.mem_of_getElem? (l := tables_1_1) (i := 139) rfl)), rfl⟩
theorem tb_141 : (.instanceMethod yX0_usedSlotsWithout : Cond) ∈ TBG := List.mem_filter.mpr ⟨List.mem_append_right _ (List.mem_append_left _ (List.mem_of_getElem? (l := tables_1_1) (i := 141) rfl)), rfl⟩
theorem tb_142 : (.code yX0_usedSlotsWithout cX0_usedSlotsWithout 5 (some .int) : Cond) ∈ TBG := List.mem_filter.mpr ⟨List.mem_append_right _ (List.mem_append_left _ (List.mem_of_getElem? (l := tables_1_1) (i := 142) rfl)), rfl⟩
theorem tb_143 : (.methodLink RX0 70 yX0_mappedSlot : Cond) ∈ TBG := List.mem_filter.mpr ⟨List.mem_append_right _ (List.mem_append_left _ (List.mem_of_getElem? (l := tables_1_1) (i := 143) rfl)), rfl⟩
theorem tb_145 : (.instanceMethod yX0_mappedSlot : Cond) ∈ TBG := List.mem_filter.mpr ⟨List.mem_append_right _ (List.mem_append_left _ (List.mem_of_getElem? (l := tables_1_1) (i := 145) rfl)), rfl⟩
theorem tb_146 : (.code yX0_mappedSlot cX0_mappedSlot 3 (some .int) : Cond) ∈ TBG := List.mem_filter.mpr ⟨List.mem_append_right _ (List.mem_append_left _ (List.mem_of_getElem? (l := tables_1_1) (i := 146) rfl)), rfl⟩
theorem tb_147 : (.methodLink RX0 113 yX0_mapCell : Cond) ∈ TBG := List.mem_filter.mpr ⟨List.mem_append_right _ (List.mem_append_left _ (List.mem_of_getElem? (l := tables_1_1) (i := 147) rfl)), rfl⟩
theorem tb_149 : (.instanceMethod yX0_mapCell : Cond) ∈ TBG := List.mem_filter.mpr ⟨List.mem_append_right _ (List.mem_append_left _ (List.mem_of_getElem? (l := tables_1_1) (i := 149) rfl)), rfl⟩
theorem tb_150 : (.code yX0_mapCell cX0_mapCell 3 (some .int) : Cond) ∈ TBG := List.mem_filter.mpr ⟨List.mem_append_right _ (List.mem_append_left _ (List.mem_of_getElem? (l := tables_1_1) (i := 150) rfl)), rfl⟩
theorem tb_151 : (.methodLink RX0 87 yX0_usedSlots : Cond) ∈ TBG := List.mem_filter.mpr ⟨List.mem_append_right _ (List.mem_append_left _ (List.mem_of_getElem? (l := tables_1_1) (i := 151) rfl)), rfl⟩
theorem tb_153 : (.instanceMethod yX0_usedSlots : Cond) ∈ TBG := List.mem_filter.mpr ⟨List.mem_append_right _ (List.mem_append_left _ (List.mem_of_getElem? (l := tables_1_1) (i := 153) rfl)), rfl⟩
theorem tb_154 : (.code yX0_usedSlots cX0_usedSlots 3 (some .int) : Cond) ∈ TBG := List.mem_filter.mpr ⟨List.mem_append_right _ (List.mem_append_left _ (List.mem_of_getElem? (l := tables_1_1) (i := 154) rfl)), rfl⟩
theorem tb_155 : (.methodLink RX0 135 yX0_lowestUnusedSlot : Cond) ∈ TBG := List.mem_filter.mpr ⟨List.mem_append_right _ (List.mem_append_left _ (List.mem_of_getElem? (l := tables_1_1) (i := 155) rfl)), rfl⟩
theorem tb_157 : (.instanceMethod yX0_lowestUnusedSlot : Cond) ∈ TBG := List.mem_filter.mpr ⟨List.mem_append_right _ (List.mem_append_left _ (List.mem_of_getElem? (l := tables_1_1) (i := 157) rfl)), rfl⟩
theorem tb_158 : (.code yX0_lowestUnusedSlot cX0_lowestUnusedSlot 2 (some .int) : Cond) ∈ TBG := List.mem_filter.mpr ⟨List.mem_append_right _ (List.mem_append_left _ (List.mem_of_getElem? (l := tables_1_1) (i := 158) rfl)), rfl⟩
theorem tb_161 : (.instanceMethod yX1_write : Cond) ∈ TBG := List.mem_filter.mpr ⟨List.mem_append_right _ (List.mem_append_left _ (List.mem_of_getElem? (l := tables_1_1) (i := 161) rfl)), rfl⟩
theorem tb_162 : (.code yX1_write cX1_write 3 none : Cond) ∈ TBG := List.mem_filter.mpr ⟨List.mem_append_right _ (List.mem_append_left _ (List.mem_of_getElem? (l := tables_1_1) (i := 162) rfl)), rfl⟩
theorem tb_163 : (.methodLink RX0 73 yX0_change : Cond) ∈ TBG := List.mem_filter.mpr ⟨List.mem_append_right _ (List.mem_append_left _ (List.mem_of_getElem? (l := tables_1_1) (i := 163) rfl)), rfl⟩
theorem tb_165 : (.instanceMethod yX0_change : Cond) ∈ TBG := List.mem_filter.mpr ⟨List.mem_append_right _ (List.mem_append_left _ (List.mem_of_getElem? (l := tables_1_1) (i := 165) rfl)), rfl⟩
theorem tb_166 : (.code yX0_change cX0_change 5 (some .int) : Cond) ∈ TBG := List.mem_filter.mpr ⟨List.mem_append_right _ (List.mem_append_left _ (List.mem_of_getElem? (l := tables_1_1) (i := 166) rfl)), rfl⟩
theorem tb_167 : (.methodLink RX0 99 yX0_carryOutIntent : Cond) ∈ TBG := List.mem_filter.mpr ⟨List.mem_append_right _ (List.mem_append_left _ (List.mem_of_getElem? (l := tables_1_1) (i := 167) rfl)), rfl⟩
theorem tb_169 : (.instanceMethod yX0_carryOutIntent : Cond) ∈ TBG := List.mem_filter.mpr ⟨List.mem_append_right _ (List.mem_append_left _ (List.mem_of_getElem? (l := tables_1_1) (i := 169) rfl)), rfl⟩
theorem tb_170 : (.code yX0_carryOutIntent cX0_carryOutIntent 4 none : Cond) ∈ TBG := List.mem_filter.mpr ⟨List.mem_append_right _ (List.mem_append_left _ (List.mem_of_getElem? (l := tables_1_1) (i := 170) rfl)), rfl⟩
theorem tb_171 : (.methodLink RX0 138 yX0_mapBlock : Cond) ∈ TBG := List.mem_filter.mpr ⟨List.mem_append_right _ (List.mem_append_left _ (List.mem_of_getElem? (l := tables_1_1) (i := 171) rfl)), rfl⟩
theorem tb_173 : (.instanceMethod yX0_mapBlock : Cond) ∈ TBG := List.mem_filter.mpr ⟨List.mem_append_right _ (List.mem_append_left _ (List.mem_of_getElem? (l := tables_1_1) (i := 173) rfl)), rfl⟩
theorem tb_174 : (.code yX0_mapBlock cX0_mapBlock 4 none : Cond) ∈ TBG := List.mem_filter.mpr ⟨List.mem_append_right _ (List.mem_append_left _ (List.mem_of_getElem? (l := tables_1_1) (i := 174) rfl)), rfl⟩
theorem tb_175 : (.methodLink RX0 142 yX0_mapVolumeAs : Cond) ∈ TBG := List.mem_filter.mpr ⟨List.mem_append_right _ (List.mem_append_left _ (List.mem_of_getElem? (l := tables_1_1) (i := 175) rfl)), rfl⟩
theorem tb_177 : (.instanceMethod yX0_mapVolumeAs : Cond) ∈ TBG := List.mem_filter.mpr ⟨List.mem_append_right _ (List.mem_append_left _ (List.mem_of_getElem? (l := tables_1_1) (i := 177) rfl)), rfl⟩
theorem tb_178 : (.code yX0_mapVolumeAs cX0_mapVolumeAs 4 none : Cond) ∈ TBG := List.mem_filter.mpr ⟨List.mem_append_right _ (List.mem_append_left _ (List.mem_of_getElem? (l := tables_1_1) (i := 178) rfl)), rfl⟩
theorem tb_179 : (.methodLink RX0 145 yX0_unmapVolume : Cond) ∈ TBG := List.mem_filter.mpr ⟨List.mem_append_right _ (List.mem_append_left _ (List.mem_of_getElem? (l := tables_1_1) (i := 179) rfl)), rfl⟩
theorem tb_181 : (.instanceMethod yX0_unmapVolume : Cond) ∈ TBG := List.mem_filter.mpr ⟨List.mem_append_right _ (List.mem_append_left _ (List.mem_of_getElem? (l := tables_1_1) (i := 181) rfl)), rfl⟩
theorem tb_182 : (.code yX0_unmapVolume cX0_unmapVolume 3 none : Cond) ∈ TBG := List.mem_filter.mpr ⟨List.mem_append_right _ (List.mem_append_left _ (List.mem_of_getElem? (l := tables_1_1) (i := 182) rfl)), rfl⟩
theorem tb_183 : (.methodLink RL 35 yX0_readWord : Cond) ∈ TBG := List.mem_filter.mpr ⟨List.mem_append_right _ (List.mem_append_left _ (List.mem_of_getElem? (l := tables_1_1) (i := 183) rfl)), rfl⟩
theorem tb_184 : (.instanceMethod yX0_readWord : Cond) ∈ TBG := List.mem_filter.mpr ⟨List.mem_append_right _ (List.mem_append_left _ (List.mem_of_getElem? (l := tables_1_1) (i := 184) rfl)), rfl⟩
theorem tb_185 : (.selects RX0 yX0_readWord yX0_readWord : Cond) ∈ TBG := List.mem_filter.mpr ⟨List.mem_append_right _ (List.mem_append_left _ (List.mem_of_getElem? (l := tables_1_1) (i := 185) rfl)), rfl⟩
theorem tb_186 : (.code yX0_readWord cX0_readWord 5 (some .int) : Cond) ∈ TBG := List.mem_filter.mpr ⟨List.mem_append_right _ (List.mem_append_left _ (List.mem_of_getElem? (l := tables_1_1) (i := 186) rfl)), rfl⟩
theorem tb_187 : (.methodLink RL 40 yX0_trim : Cond) ∈ TBG := List.mem_filter.mpr ⟨List.mem_append_right _ (List.mem_append_left _ (List.mem_of_getElem? (l := tables_1_1) (i := 187) rfl)), rfl⟩
theorem tb_188 : (.instanceMethod yX0_trim : Cond) ∈ TBG := List.mem_filter.mpr ⟨List.mem_append_right _ (List.mem_append_left _ (List.mem_of_getElem? (l := tables_1_1) (i := 188) rfl)), rfl⟩
theorem tb_189 : (.selects RX0 yX0_trim yX0_trim : Cond) ∈ TBG := List.mem_filter.mpr ⟨List.mem_append_right _ (List.mem_append_left _ (List.mem_of_getElem? (l := tables_1_1) (i := 189) rfl)), rfl⟩
theorem tb_190 : (.code yX0_trim cX0_trim 3 (some .int) : Cond) ∈ TBG := List.mem_filter.mpr ⟨List.mem_append_right _ (List.mem_append_left _ (List.mem_of_getElem? (l := tables_1_1) (i := 190) rfl)), rfl⟩
theorem tb_191 : (.methodLink RL 44 yX0_cloneVol : Cond) ∈ TBG := List.mem_filter.mpr ⟨List.mem_append_right _ (List.mem_append_left _ (List.mem_of_getElem? (l := tables_1_1) (i := 191) rfl)), rfl⟩
theorem tb_192 : (.instanceMethod yX0_cloneVol : Cond) ∈ TBG := List.mem_filter.mpr ⟨List.mem_append_right _ (List.mem_append_left _ (List.mem_of_getElem? (l := tables_1_1) (i := 192) rfl)), rfl⟩
theorem tb_193 : (.selects RX0 yX0_cloneVol yX0_cloneVol : Cond) ∈ TBG := List.mem_filter.mpr ⟨List.mem_append_right _ (List.mem_append_left _ (List.mem_of_getElem? (l := tables_1_1) (i := 193) rfl)), rfl⟩
theorem tb_194 : (.code yX0_cloneVol cX0_cloneVol 3 (some .int) : Cond) ∈ TBG := List.mem_filter.mpr ⟨List.mem_append_right _ (List.mem_append_left _ (List.mem_of_getElem? (l := tables_1_1) (i := 194) rfl)), rfl⟩
theorem tb_195 : (.methodLink RL 48 yX0_dropVol : Cond) ∈ TBG := List.mem_filter.mpr ⟨List.mem_append_right _ (List.mem_append_left _ (List.mem_of_getElem? (l := tables_1_1) (i := 195) rfl)), rfl⟩
theorem tb_196 : (.instanceMethod yX0_dropVol : Cond) ∈ TBG := List.mem_filter.mpr ⟨List.mem_append_right _ (List.mem_append_left _ (List.mem_of_getElem? (l := tables_1_1) (i := 196) rfl)), rfl⟩
theorem tb_197 : (.selects RX0 yX0_dropVol yX0_dropVol : Cond) ∈ TBG := List.mem_filter.mpr ⟨List.mem_append_right _ (List.mem_append_left _ (List.mem_of_getElem? (l := tables_1_1) (i := 197) rfl)), rfl⟩
theorem tb_198 : (.code yX0_dropVol cX0_dropVol 2 (some .int) : Cond) ∈ TBG := List.mem_filter.mpr ⟨List.mem_append_right _ (List.mem_append_left _ (List.mem_of_getElem? (l := tables_1_1) (i := 198) rfl)), rfl⟩
theorem tb_199 : (.methodLink RL 53 yX0_chunksUsed : Cond) ∈ TBG := List.mem_filter.mpr ⟨List.mem_append_right _ (List.mem_append_left _ (List.mem_of_getElem? (l := tables_1_1) (i := 199) rfl)), rfl⟩
theorem tb_200 : (.instanceMethod yX0_chunksUsed : Cond) ∈ TBG := List.mem_filter.mpr ⟨List.mem_append_right _ (List.mem_append_left _ (List.mem_of_getElem? (l := tables_1_1) (i := 200) rfl)), rfl⟩
theorem tb_201 : (.selects RX0 yX0_chunksUsed yX0_chunksUsed : Cond) ∈ TBG := List.mem_filter.mpr ⟨List.mem_append_right _ (List.mem_append_left _ (List.mem_of_getElem? (l := tables_1_1) (i := 201) rfl)), rfl⟩
theorem tb_202 : (.code yX0_chunksUsed cX0_chunksUsed 1 (some .int) : Cond) ∈ TBG := List.mem_filter.mpr ⟨List.mem_append_right _ (List.mem_append_left _ (List.mem_of_getElem? (l := tables_1_1) (i := 202) rfl)), rfl⟩
theorem tb_203 : (.methodLink RL 57 yX0_refsOf : Cond) ∈ TBG := List.mem_filter.mpr ⟨List.mem_append_right _ (List.mem_append_left _ (List.mem_of_getElem? (l := tables_1_1) (i := 203) rfl)), rfl⟩
theorem tb_204 : (.instanceMethod yX0_refsOf : Cond) ∈ TBG := List.mem_filter.mpr ⟨List.mem_append_right _ (List.mem_append_left _ (List.mem_of_getElem? (l := tables_1_1) (i := 204) rfl)), rfl⟩
theorem tb_205 : (.selects RX0 yX0_refsOf yX0_refsOf : Cond) ∈ TBG := List.mem_filter.mpr ⟨List.mem_append_right _ (List.mem_append_left _ (List.mem_of_getElem? (l := tables_1_1) (i := 205) rfl)), rfl⟩
theorem tb_206 : (.code yX0_refsOf cX0_refsOf 4 (some .int) : Cond) ∈ TBG := List.mem_filter.mpr ⟨List.mem_append_right _ (List.mem_append_left _ (List.mem_of_getElem? (l := tables_1_1) (i := 206) rfl)), rfl⟩
theorem tb_207 : (.methodLink RL 61 yX0_slotOf : Cond) ∈ TBG := List.mem_filter.mpr ⟨List.mem_append_right _ (List.mem_append_left _ (List.mem_of_getElem? (l := tables_1_1) (i := 207) rfl)), rfl⟩
theorem tb_208 : (.instanceMethod yX0_slotOf : Cond) ∈ TBG := List.mem_filter.mpr ⟨List.mem_append_right _ (List.mem_append_left _ (List.mem_of_getElem? (l := tables_1_1) (i := 208) rfl)), rfl⟩
theorem tb_209 : (.selects RX0 yX0_slotOf yX0_slotOf : Cond) ∈ TBG := List.mem_filter.mpr ⟨List.mem_append_right _ (List.mem_append_left _ (List.mem_of_getElem? (l := tables_1_1) (i := 209) rfl)), rfl⟩
theorem tb_210 : (.code yX0_slotOf cX0_slotOf 4 (some .int) : Cond) ∈ TBG := List.mem_filter.mpr ⟨List.mem_append_right _ (List.mem_append_left _ (List.mem_of_getElem? (l := tables_1_1) (i := 210) rfl)), rfl⟩
theorem tb_211 : (.methodLink RL 65 yX0_slotWord : Cond) ∈ TBG := List.mem_filter.mpr ⟨List.mem_append_right _ (List.mem_append_left _ (List.mem_of_getElem? (l := tables_1_1) (i := 211) rfl)), rfl⟩
theorem tb_212 : (.instanceMethod yX0_slotWord : Cond) ∈ TBG := List.mem_filter.mpr ⟨List.mem_append_right _ (List.mem_append_left _ (List.mem_of_getElem? (l := tables_1_1) (i := 212) rfl)), rfl⟩
theorem tb_213 : (.selects RX0 yX0_slotWord yX0_slotWord : Cond) ∈ TBG := List.mem_filter.mpr ⟨List.mem_append_right _ (List.mem_append_left _ (List.mem_of_getElem? (l := tables_1_1) (i := 213) rfl)), rfl⟩
theorem tb_214 : (.code yX0_slotWord cX0_slotWord 3 (some .int) : Cond) ∈ TBG := List.mem_filter.mpr ⟨List.mem_append_right _ (List.mem_append_left _ (List.mem_of_getElem? (l := tables_1_1) (i := 214) rfl)), rfl⟩
theorem tb_215 : (.methodLink RL 69 yX0_crashAfter : Cond) ∈ TBG := List.mem_filter.mpr ⟨List.mem_append_right _ (List.mem_append_left _ (List.mem_of_getElem? (l := tables_1_1) (i := 215) rfl)), rfl⟩
theorem tb_216 : (.instanceMethod yX0_crashAfter : Cond) ∈ TBG := List.mem_filter.mpr ⟨List.mem_append_right _ (List.mem_append_left _ (List.mem_of_getElem? (l := tables_1_1) (i := 216) rfl)), rfl⟩
theorem tb_217 : (.selects RX0 yX0_crashAfter yX0_crashAfter : Cond) ∈ TBG := List.mem_filter.mpr ⟨List.mem_append_right _ (List.mem_append_left _ (List.mem_of_getElem? (l := tables_1_1) (i := 217) rfl)), rfl⟩
theorem tb_218 : (.code yX0_crashAfter cX0_crashAfter 2 none : Cond) ∈ TBG := List.mem_filter.mpr ⟨List.mem_append_right _ (List.mem_append_left _ (List.mem_of_getElem? (l := tables_1_1) (i := 218) rfl)), rfl⟩
theorem tb_221 : (.instanceMethod yX1_armLoss : Cond) ∈ TBG := List.mem_filter.mpr ⟨List.mem_append_right _ (List.mem_append_left _ (List.mem_of_getElem? (l := tables_1_1) (i := 221) rfl)), rfl⟩
theorem tb_222 : (.code yX1_armLoss cX1_armLoss 2 none : Cond) ∈ TBG := List.mem_filter.mpr ⟨List.mem_append_right _ (List.mem_append_left _ (List.mem_of_getElem? (l := tables_1_1) (i := 222) rfl)), rfl⟩
theorem tb_223 : (.methodLink RL 74 yX0_down : Cond) ∈ TBG := List.mem_filter.mpr ⟨List.mem_append_right _ (List.mem_append_left _ (List.mem_of_getElem? (l := tables_1_1) (i := 223) rfl)), rfl⟩
theorem tb_224 : (.instanceMethod yX0_down : Cond) ∈ TBG := List.mem_filter.mpr ⟨List.mem_append_right _ (List.mem_append_left _ (List.mem_of_getElem? (l := tables_1_1) (i := 224) rfl)), rfl⟩
theorem tb_225 : (.selects RX0 yX0_down yX0_down : Cond) ∈ TBG := List.mem_filter.mpr ⟨List.mem_append_right _ (List.mem_append_left _ (List.mem_of_getElem? (l := tables_1_1) (i := 225) rfl)), rfl⟩
theorem tb_226 : (.code yX0_down cX0_down 1 (some .boolean) : Cond) ∈ TBG := List.mem_filter.mpr ⟨List.mem_append_right _ (List.mem_append_left _ (List.mem_of_getElem? (l := tables_1_1) (i := 226) rfl)), rfl⟩
theorem tb_227 : (.methodLink RL 79 yX0_recover : Cond) ∈ TBG := List.mem_filter.mpr ⟨List.mem_append_right _ (List.mem_append_left _ (List.mem_of_getElem? (l := tables_1_1) (i := 227) rfl)), rfl⟩
theorem tb_228 : (.instanceMethod yX0_recover : Cond) ∈ TBG := List.mem_filter.mpr ⟨List.mem_append_right _ (List.mem_append_left _ (List.mem_of_getElem? (l := tables_1_1) (i := 228) rfl)), rfl⟩
theorem tb_229 : (.selects RX0 yX0_recover yX0_recover : Cond) ∈ TBG := List.mem_filter.mpr ⟨List.mem_append_right _ (List.mem_append_left _ (List.mem_of_getElem? (l := tables_1_1) (i := 229) rfl)), rfl⟩
theorem tb_230 : (.code yX0_recover cX0_recover 1 (some .int) : Cond) ∈ TBG := List.mem_filter.mpr ⟨List.mem_append_right _ (List.mem_append_left _ (List.mem_of_getElem? (l := tables_1_1) (i := 230) rfl)), rfl⟩
theorem tb_233 : (.instanceMethod yX1_restorePower : Cond) ∈ TBG := List.mem_filter.mpr ⟨List.mem_append_right _ (List.mem_append_left _ (List.mem_of_getElem? (l := tables_1_1) (i := 233) rfl)), rfl⟩
theorem tb_234 : (.code yX1_restorePower cX1_restorePower 1 none : Cond) ∈ TBG := List.mem_filter.mpr ⟨List.mem_append_right _ (List.mem_append_left _ (List.mem_of_getElem? (l := tables_1_1) (i := 234) rfl)), rfl⟩
theorem tb_235 : (.methodLink RL 83 yX0_writes : Cond) ∈ TBG := List.mem_filter.mpr ⟨List.mem_append_right _ (List.mem_append_left _ (List.mem_of_getElem? (l := tables_1_1) (i := 235) rfl)), rfl⟩
theorem tb_236 : (.instanceMethod yX0_writes : Cond) ∈ TBG := List.mem_filter.mpr ⟨List.mem_append_right _ (List.mem_append_left _ (List.mem_of_getElem? (l := tables_1_1) (i := 236) rfl)), rfl⟩
theorem tb_237 : (.selects RX0 yX0_writes yX0_writes : Cond) ∈ TBG := List.mem_filter.mpr ⟨List.mem_append_right _ (List.mem_append_left _ (List.mem_of_getElem? (l := tables_1_1) (i := 237) rfl)), rfl⟩
theorem tb_238 : (.code yX0_writes cX0_writes 1 (some .int) : Cond) ∈ TBG := List.mem_filter.mpr ⟨List.mem_append_right _ (List.mem_append_left _ (List.mem_of_getElem? (l := tables_1_1) (i := 238) rfl)), rfl⟩
theorem tb_241 : (.instanceMethod yX1_writesDone : Cond) ∈ TBG := List.mem_filter.mpr ⟨List.mem_append_right _ (List.mem_append_right _ (List.mem_of_getElem? (l := tables_1_2) (i := 1) rfl)), rfl⟩
theorem tb_242 : (.code yX1_writesDone cX1_writesDone 1 (some .int) : Cond) ∈ TBG := List.mem_filter.mpr ⟨List.mem_append_right _ (List.mem_append_right _ (List.mem_of_getElem? (l := tables_1_2) (i := 2) rfl)), rfl⟩
theorem tb_243 : (.methodLink RL 9 yL_cell : Cond) ∈ TBG := List.mem_filter.mpr ⟨List.mem_append_right _ (List.mem_append_right _ (List.mem_of_getElem? (l := tables_1_2) (i := 3) rfl)), rfl⟩
theorem tb_244 : (.static yL_cell : Cond) ∈ TBG := List.mem_filter.mpr ⟨List.mem_append_right _ (List.mem_append_right _ (List.mem_of_getElem? (l := tables_1_2) (i := 4) rfl)), rfl⟩
theorem tb_245 : (.code yL_cell cL_cell 2 (some .int) : Cond) ∈ TBG := List.mem_filter.mpr ⟨List.mem_append_right _ (List.mem_append_right _ (List.mem_of_getElem? (l := tables_1_2) (i := 5) rfl)), rfl⟩
theorem tb_246 : (.classLink RL 18 RX2 : Cond) ∈ TBG := List.mem_filter.mpr ⟨List.mem_append_right _ (List.mem_append_right _ (List.mem_of_getElem? (l := tables_1_2) (i := 6) rfl)), rfl⟩
theorem tb_247 : (.instantiable RX2 13 : Cond) ∈ TBG := List.mem_filter.mpr ⟨List.mem_append_right _ (List.mem_append_right _ (List.mem_of_getElem? (l := tables_1_2) (i := 7) rfl)), rfl⟩
theorem tb_248 : (.methodLink RL 20 yX2_init : Cond) ∈ TBG := List.mem_filter.mpr ⟨List.mem_append_right _ (List.mem_append_right _ (List.mem_of_getElem? (l := tables_1_2) (i := 8) rfl)), rfl⟩
theorem tb_249 : (.instanceMethod yX2_init : Cond) ∈ TBG := List.mem_filter.mpr ⟨List.mem_append_right _ (List.mem_append_right _ (List.mem_of_getElem? (l := tables_1_2) (i := 9) rfl)), rfl⟩
theorem tb_250 : (.code yX2_init cX2_init 5 none : Cond) ∈ TBG := List.mem_filter.mpr ⟨List.mem_append_right _ (List.mem_append_right _ (List.mem_of_getElem? (l := tables_1_2) (i := 10) rfl)), rfl⟩
theorem tb_251 : (.methodLink RX2 1 objectInit : Cond) ∈ TBG := List.mem_filter.mpr ⟨List.mem_append_right _ (List.mem_append_right _ (List.mem_of_getElem? (l := tables_1_2) (i := 11) rfl)), rfl⟩
theorem tb_252 : (.methodLink RX2 22 yX2_cut : Cond) ∈ TBG := List.mem_filter.mpr ⟨List.mem_append_right _ (List.mem_append_right _ (List.mem_of_getElem? (l := tables_1_2) (i := 12) rfl)), rfl⟩
theorem tb_253 : (.static yX2_cut : Cond) ∈ TBG := List.mem_filter.mpr ⟨List.mem_append_right _ (List.mem_append_right _ (List.mem_of_getElem? (l := tables_1_2) (i := 13) rfl)), rfl⟩
theorem tb_254 : (.code yX2_cut cX2_cut 2 (some .int) : Cond) ∈ TBG := List.mem_filter.mpr ⟨List.mem_append_right _ (List.mem_append_right _ (List.mem_of_getElem? (l := tables_1_2) (i := 14) rfl)), rfl⟩
theorem tb_255 : (.fieldLink RX2 26 "SharedVolumesModel" "words" "I" : Cond) ∈ TBG := List.mem_filter.mpr ⟨List.mem_append_right _ (List.mem_append_right _ (List.mem_of_getElem? (l := tables_1_2) (i := 15) rfl)), rfl⟩
theorem tb_256 : (.fieldLink RX2 30 "SharedVolumesModel" "chunks" "I" : Cond) ∈ TBG := List.mem_filter.mpr ⟨List.mem_append_right _ (List.mem_append_right _ (List.mem_of_getElem? (l := tables_1_2) (i := 16) rfl)), rfl⟩
theorem tb_257 : (.fieldLink RX2 33 "SharedVolumesModel" "volumes" "I" : Cond) ∈ TBG := List.mem_filter.mpr ⟨List.mem_append_right _ (List.mem_append_right _ (List.mem_of_getElem? (l := tables_1_2) (i := 17) rfl)), rfl⟩
theorem tb_258 : (.fieldLink RX2 36 "SharedVolumesModel" "blocks" "I" : Cond) ∈ TBG := List.mem_filter.mpr ⟨List.mem_append_right _ (List.mem_append_right _ (List.mem_of_getElem? (l := tables_1_2) (i := 18) rfl)), rfl⟩
theorem tb_259 : (.fieldLink RX2 7 "SharedVolumesModel" "map" "[I" : Cond) ∈ TBG := List.mem_filter.mpr ⟨List.mem_append_right _ (List.mem_append_right _ (List.mem_of_getElem? (l := tables_1_2) (i := 19) rfl)), rfl⟩
theorem tb_260 : (.fieldLink RX2 13 "SharedVolumesModel" "wanted" "[I" : Cond) ∈ TBG := List.mem_filter.mpr ⟨List.mem_append_right _ (List.mem_append_right _ (List.mem_of_getElem? (l := tables_1_2) (i := 20) rfl)), rfl⟩
theorem tb_261 : (.fieldLink RX2 16 "SharedVolumesModel" "slots" "[I" : Cond) ∈ TBG := List.mem_filter.mpr ⟨List.mem_append_right _ (List.mem_append_right _ (List.mem_of_getElem? (l := tables_1_2) (i := 21) rfl)), rfl⟩
theorem tb_262 : (.fieldLink RX2 19 "SharedVolumesModel" "staged" "[I" : Cond) ∈ TBG := List.mem_filter.mpr ⟨List.mem_append_right _ (List.mem_append_right _ (List.mem_of_getElem? (l := tables_1_2) (i := 22) rfl)), rfl⟩
theorem tb_263 : (.fieldLink RX2 52 "SharedVolumesModel" "happened" "I" : Cond) ∈ TBG := List.mem_filter.mpr ⟨List.mem_append_right _ (List.mem_append_right _ (List.mem_of_getElem? (l := tables_1_2) (i := 23) rfl)), rfl⟩
theorem tb_264 : (.fieldLink RX2 46 "SharedVolumesModel" "armed" "I" : Cond) ∈ TBG := List.mem_filter.mpr ⟨List.mem_append_right _ (List.mem_append_right _ (List.mem_of_getElem? (l := tables_1_2) (i := 24) rfl)), rfl⟩
theorem tb_265 : (.fieldLink RX2 92 "SharedVolumesModel" "arms" "I" : Cond) ∈ TBG := List.mem_filter.mpr ⟨List.mem_append_right _ (List.mem_append_right _ (List.mem_of_getElem? (l := tables_1_2) (i := 25) rfl)), rfl⟩
theorem tb_266 : (.fieldLink RX2 42 "SharedVolumesModel" "down" "Z" : Cond) ∈ TBG := List.mem_filter.mpr ⟨List.mem_append_right _ (List.mem_append_right _ (List.mem_of_getElem? (l := tables_1_2) (i := 26) rfl)), rfl⟩
theorem tb_267 : (.fieldLink RX2 49 "SharedVolumesModel" "redo" "I" : Cond) ∈ TBG := List.mem_filter.mpr ⟨List.mem_append_right _ (List.mem_append_right _ (List.mem_of_getElem? (l := tables_1_2) (i := 27) rfl)), rfl⟩
theorem tb_295 : (.methodLink RL 25 yX2_format : Cond) ∈ TBG := List.mem_filter.mpr ⟨List.mem_append_right _ (List.mem_append_right _ (List.mem_of_getElem? (l := tables_1_2) (i := 55) rfl)), rfl⟩
theorem tb_296 : (.instanceMethod yX2_format : Cond) ∈ TBG := List.mem_filter.mpr ⟨List.mem_append_right _ (List.mem_append_right _ (List.mem_of_getElem? (l := tables_1_2) (i := 56) rfl)), rfl⟩
theorem tb_297 : (.selects RX2 yX2_format yX2_format : Cond) ∈ TBG := List.mem_filter.mpr ⟨List.mem_append_right _ (List.mem_append_right _ (List.mem_of_getElem? (l := tables_1_2) (i := 57) rfl)), rfl⟩
theorem tb_298 : (.code yX2_format cX2_format 2 (some .int) : Cond) ∈ TBG := List.mem_filter.mpr ⟨List.mem_append_right _ (List.mem_append_right _ (List.mem_of_getElem? (l := tables_1_2) (i := 58) rfl)), rfl⟩
theorem tb_299 : (.methodLink RX2 39 yX2_clearStage : Cond) ∈ TBG := List.mem_filter.mpr ⟨List.mem_append_right _ (List.mem_append_right _ (List.mem_of_getElem? (l := tables_1_2) (i := 59) rfl)), rfl⟩
theorem tb_301 : (.instanceMethod yX2_clearStage : Cond) ∈ TBG := List.mem_filter.mpr ⟨List.mem_append_right _ (List.mem_append_right _ (List.mem_of_getElem? (l := tables_1_2) (i := 61) rfl)), rfl⟩
theorem tb_302 : (.code yX2_clearStage cX2_clearStage 2 none : Cond) ∈ TBG := List.mem_filter.mpr ⟨List.mem_append_right _ (List.mem_append_right _ (List.mem_of_getElem? (l := tables_1_2) (i := 62) rfl)), rfl⟩
theorem tb_303 : (.methodLink RL 30 yX2_stageWord : Cond) ∈ TBG := List.mem_filter.mpr ⟨List.mem_append_right _ (List.mem_append_right _ (List.mem_of_getElem? (l := tables_1_2) (i := 63) rfl)), rfl⟩
theorem tb_304 : (.instanceMethod yX2_stageWord : Cond) ∈ TBG := List.mem_filter.mpr ⟨List.mem_append_right _ (List.mem_append_right _ (List.mem_of_getElem? (l := tables_1_2) (i := 64) rfl)), rfl⟩
theorem tb_305 : (.selects RX2 yX2_stageWord yX2_stageWord : Cond) ∈ TBG := List.mem_filter.mpr ⟨List.mem_append_right _ (List.mem_append_right _ (List.mem_of_getElem? (l := tables_1_2) (i := 65) rfl)), rfl⟩
theorem tb_306 : (.code yX2_stageWord cX2_stageWord 3 (some .int) : Cond) ∈ TBG := List.mem_filter.mpr ⟨List.mem_append_right _ (List.mem_append_right _ (List.mem_of_getElem? (l := tables_1_2) (i := 66) rfl)), rfl⟩
theorem tb_307 : (.methodLink RX2 69 yX2_isWord : Cond) ∈ TBG := List.mem_filter.mpr ⟨List.mem_append_right _ (List.mem_append_right _ (List.mem_of_getElem? (l := tables_1_2) (i := 67) rfl)), rfl⟩
theorem tb_309 : (.instanceMethod yX2_isWord : Cond) ∈ TBG := List.mem_filter.mpr ⟨List.mem_append_right _ (List.mem_append_right _ (List.mem_of_getElem? (l := tables_1_2) (i := 69) rfl)), rfl⟩
theorem tb_310 : (.code yX2_isWord cX2_isWord 2 (some .boolean) : Cond) ∈ TBG := List.mem_filter.mpr ⟨List.mem_append_right _ (List.mem_append_right _ (List.mem_of_getElem? (l := tables_1_2) (i := 70) rfl)), rfl⟩
theorem tb_311 : (.methodLink RL 34 yX2_writeBlock : Cond) ∈ TBG := List.mem_filter.mpr ⟨List.mem_append_right _ (List.mem_append_right _ (List.mem_of_getElem? (l := tables_1_2) (i := 71) rfl)), rfl⟩
theorem tb_312 : (.instanceMethod yX2_writeBlock : Cond) ∈ TBG := List.mem_filter.mpr ⟨List.mem_append_right _ (List.mem_append_right _ (List.mem_of_getElem? (l := tables_1_2) (i := 72) rfl)), rfl⟩
theorem tb_313 : (.selects RX2 yX2_writeBlock yX2_writeBlock : Cond) ∈ TBG := List.mem_filter.mpr ⟨List.mem_append_right _ (List.mem_append_right _ (List.mem_of_getElem? (l := tables_1_2) (i := 73) rfl)), rfl⟩
theorem tb_314 : (.code yX2_writeBlock cX2_writeBlock 8 (some .int) : Cond) ∈ TBG := List.mem_filter.mpr ⟨List.mem_append_right _ (List.mem_append_right _ (List.mem_of_getElem? (l := tables_1_2) (i := 74) rfl)), rfl⟩
theorem tb_315 : (.methodLink RX2 72 yX2_block : Cond) ∈ TBG := List.mem_filter.mpr ⟨List.mem_append_right _ (List.mem_append_right _ (List.mem_of_getElem? (l := tables_1_2) (i := 75) rfl)), rfl⟩
theorem tb_317 : (.instanceMethod yX2_block : Cond) ∈ TBG := List.mem_filter.mpr ⟨List.mem_append_right _ (List.mem_append_right _ (List.mem_of_getElem? (l := tables_1_2) (i := 77) rfl)), rfl⟩
theorem tb_318 : (.code yX2_block cX2_block 3 (some .boolean) : Cond) ∈ TBG := List.mem_filter.mpr ⟨List.mem_append_right _ (List.mem_append_right _ (List.mem_of_getElem? (l := tables_1_2) (i := 78) rfl)), rfl⟩
theorem tb_319 : (.methodLink RX2 59 yX2_volume : Cond) ∈ TBG := List.mem_filter.mpr ⟨List.mem_append_right _ (List.mem_append_right _ (List.mem_of_getElem? (l := tables_1_2) (i := 79) rfl)), rfl⟩
theorem tb_321 : (.instanceMethod yX2_volume : Cond) ∈ TBG := List.mem_filter.mpr ⟨List.mem_append_right _ (List.mem_append_right _ (List.mem_of_getElem? (l := tables_1_2) (i := 81) rfl)), rfl⟩
theorem tb_322 : (.code yX2_volume cX2_volume 2 (some .boolean) : Cond) ∈ TBG := List.mem_filter.mpr ⟨List.mem_append_right _ (List.mem_append_right _ (List.mem_of_getElem? (l := tables_1_2) (i := 82) rfl)), rfl⟩
theorem tb_323 : (.methodLink RX2 76 yX2_sharing : Cond) ∈ TBG := List.mem_filter.mpr ⟨List.mem_append_right _ (List.mem_append_right _ (List.mem_of_getElem? (l := tables_1_2) (i := 83) rfl)), rfl⟩
theorem tb_325 : (.instanceMethod yX2_sharing : Cond) ∈ TBG := List.mem_filter.mpr ⟨List.mem_append_right _ (List.mem_append_right _ (List.mem_of_getElem? (l := tables_1_2) (i := 85) rfl)), rfl⟩
theorem tb_326 : (.code yX2_sharing cX2_sharing 3 (some .int) : Cond) ∈ TBG := List.mem_filter.mpr ⟨List.mem_append_right _ (List.mem_append_right _ (List.mem_of_getElem? (l := tables_1_2) (i := 86) rfl)), rfl⟩
theorem tb_327 : (.methodLink RX2 63 yX2_refs : Cond) ∈ TBG := List.mem_filter.mpr ⟨List.mem_append_right _ (List.mem_append_right _ (List.mem_of_getElem? (l := tables_1_2) (i := 87) rfl)), rfl⟩
theorem tb_329 : (.instanceMethod yX2_refs : Cond) ∈ TBG := List.mem_filter.mpr ⟨List.mem_append_right _ (List.mem_append_right _ (List.mem_of_getElem? (l := tables_1_2) (i := 89) rfl)), rfl⟩
theorem tb_330 : (.code yX2_refs cX2_refs 4 (some .int) : Cond) ∈ TBG := List.mem_filter.mpr ⟨List.mem_append_right _ (List.mem_append_right _ (List.mem_of_getElem? (l := tables_1_2) (i := 90) rfl)), rfl⟩
theorem tb_331 : (.methodLink RX2 66 yX2_hasStaged : Cond) ∈ TBG := List.mem_filter.mpr ⟨List.mem_append_right _ (List.mem_append_right _ (List.mem_of_getElem? (l := tables_1_2) (i := 91) rfl)), rfl⟩
theorem tb_333 : (.instanceMethod yX2_hasStaged : Cond) ∈ TBG := List.mem_filter.mpr ⟨List.mem_append_right _ (List.mem_append_right _ (List.mem_of_getElem? (l := tables_1_2) (i := 93) rfl)), rfl⟩
theorem tb_334 : (.code yX2_hasStaged cX2_hasStaged 4 (some .boolean) : Cond) ∈ TBG := List.mem_filter.mpr ⟨List.mem_append_right _ (List.mem_append_right _ (List.mem_of_getElem? (l := tables_1_2) (i := 94) rfl)), rfl⟩
theorem tb_335 : (.methodLink RX2 80 yX2_used : Cond) ∈ TBG := List.mem_filter.mpr ⟨List.mem_append_right _ (List.mem_append_right _ (List.mem_of_getElem? (l := tables_1_2) (i := 95) rfl)), rfl⟩
theorem tb_337 : (.instanceMethod yX2_used : Cond) ∈ TBG := List.mem_filter.mpr ⟨List.mem_append_right _ (List.mem_append_right _ (List.mem_of_getElem? (l := tables_1_2) (i := 97) rfl)), rfl⟩
theorem tb_338 : (.code yX2_used cX2_used 3 (some .int) : Cond) ∈ TBG := List.mem_filter.mpr ⟨List.mem_append_right _ (List.mem_append_right _ (List.mem_of_getElem? (l := tables_1_2) (i := 98) rfl)), rfl⟩
theorem tb_339 : (.methodLink RX2 83 yX2_lowestUnused : Cond) ∈ TBG := List.mem_filter.mpr ⟨List.mem_append_right _ (List.mem_append_right _ (List.mem_of_getElem? (l := tables_1_2) (i := 99) rfl)), rfl⟩
theorem tb_341 : (.instanceMethod yX2_lowestUnused : Cond) ∈ TBG := List.mem_filter.mpr ⟨List.mem_append_right _ (List.mem_append_right _ (List.mem_of_getElem? (l := tables_1_2) (i := 101) rfl)), rfl⟩
theorem tb_342 : (.code yX2_lowestUnused cX2_lowestUnused 2 (some .int) : Cond) ∈ TBG := List.mem_filter.mpr ⟨List.mem_append_right _ (List.mem_append_right _ (List.mem_of_getElem? (l := tables_1_2) (i := 102) rfl)), rfl⟩
theorem tb_343 : (.methodLink RX2 55 yX2_spend : Cond) ∈ TBG := List.mem_filter.mpr ⟨List.mem_append_right _ (List.mem_append_right _ (List.mem_of_getElem? (l := tables_1_2) (i := 103) rfl)), rfl⟩
theorem tb_345 : (.instanceMethod yX2_spend : Cond) ∈ TBG := List.mem_filter.mpr ⟨List.mem_append_right _ (List.mem_append_right _ (List.mem_of_getElem? (l := tables_1_2) (i := 105) rfl)), rfl⟩
theorem tb_346 : (.code yX2_spend cX2_spend 3 (some .int) : Cond) ∈ TBG := List.mem_filter.mpr ⟨List.mem_append_right _ (List.mem_append_right _ (List.mem_of_getElem? (l := tables_1_2) (i := 106) rfl)), rfl⟩
theorem tb_347 : (.methodLink RX2 86 yX2_wantAsIs : Cond) ∈ TBG := List.mem_filter.mpr ⟨List.mem_append_right _ (List.mem_append_right _ (List.mem_of_getElem? (l := tables_1_2) (i := 107) rfl)), rfl⟩
theorem tb_349 : (.instanceMethod yX2_wantAsIs : Cond) ∈ TBG := List.mem_filter.mpr ⟨List.mem_append_right _ (List.mem_append_right _ (List.mem_of_getElem? (l := tables_1_2) (i := 109) rfl)), rfl⟩
theorem tb_350 : (.code yX2_wantAsIs cX2_wantAsIs 2 none : Cond) ∈ TBG := List.mem_filter.mpr ⟨List.mem_append_right _ (List.mem_append_right _ (List.mem_of_getElem? (l := tables_1_2) (i := 110) rfl)), rfl⟩
theorem tb_351 : (.methodLink RX2 89 yX2_change : Cond) ∈ TBG := List.mem_filter.mpr ⟨List.mem_append_right _ (List.mem_append_right _ (List.mem_of_getElem? (l := tables_1_2) (i := 111) rfl)), rfl⟩
theorem tb_353 : (.instanceMethod yX2_change : Cond) ∈ TBG := List.mem_filter.mpr ⟨List.mem_append_right _ (List.mem_append_right _ (List.mem_of_getElem? (l := tables_1_2) (i := 113) rfl)), rfl⟩
theorem tb_354 : (.code yX2_change cX2_change 4 (some .int) : Cond) ∈ TBG := List.mem_filter.mpr ⟨List.mem_append_right _ (List.mem_append_right _ (List.mem_of_getElem? (l := tables_1_2) (i := 114) rfl)), rfl⟩
theorem tb_355 : (.methodLink RL 39 yX2_readWord : Cond) ∈ TBG := List.mem_filter.mpr ⟨List.mem_append_right _ (List.mem_append_right _ (List.mem_of_getElem? (l := tables_1_2) (i := 115) rfl)), rfl⟩
theorem tb_356 : (.instanceMethod yX2_readWord : Cond) ∈ TBG := List.mem_filter.mpr ⟨List.mem_append_right _ (List.mem_append_right _ (List.mem_of_getElem? (l := tables_1_2) (i := 116) rfl)), rfl⟩
theorem tb_357 : (.selects RX2 yX2_readWord yX2_readWord : Cond) ∈ TBG := List.mem_filter.mpr ⟨List.mem_append_right _ (List.mem_append_right _ (List.mem_of_getElem? (l := tables_1_2) (i := 117) rfl)), rfl⟩
theorem tb_358 : (.code yX2_readWord cX2_readWord 4 (some .int) : Cond) ∈ TBG := List.mem_filter.mpr ⟨List.mem_append_right _ (List.mem_append_right _ (List.mem_of_getElem? (l := tables_1_2) (i := 118) rfl)), rfl⟩
theorem tb_359 : (.methodLink RL 43 yX2_trim : Cond) ∈ TBG := List.mem_filter.mpr ⟨List.mem_append_right _ (List.mem_append_right _ (List.mem_of_getElem? (l := tables_1_2) (i := 119) rfl)), rfl⟩
theorem tb_360 : (.instanceMethod yX2_trim : Cond) ∈ TBG := List.mem_filter.mpr ⟨List.mem_append_right _ (List.mem_append_right _ (List.mem_of_getElem? (l := tables_1_2) (i := 120) rfl)), rfl⟩
theorem tb_361 : (.selects RX2 yX2_trim yX2_trim : Cond) ∈ TBG := List.mem_filter.mpr ⟨List.mem_append_right _ (List.mem_append_right _ (List.mem_of_getElem? (l := tables_1_2) (i := 121) rfl)), rfl⟩
theorem tb_362 : (.code yX2_trim cX2_trim 3 (some .int) : Cond) ∈ TBG := List.mem_filter.mpr ⟨List.mem_append_right _ (List.mem_append_right _ (List.mem_of_getElem? (l := tables_1_2) (i := 122) rfl)), rfl⟩
theorem tb_363 : (.methodLink RL 47 yX2_cloneVol : Cond) ∈ TBG := List.mem_filter.mpr ⟨List.mem_append_right _ (List.mem_append_right _ (List.mem_of_getElem? (l := tables_1_2) (i := 123) rfl)), rfl⟩
theorem tb_364 : (.instanceMethod yX2_cloneVol : Cond) ∈ TBG := List.mem_filter.mpr ⟨List.mem_append_right _ (List.mem_append_right _ (List.mem_of_getElem? (l := tables_1_2) (i := 124) rfl)), rfl⟩
theorem tb_365 : (.selects RX2 yX2_cloneVol yX2_cloneVol : Cond) ∈ TBG := List.mem_filter.mpr ⟨List.mem_append_right _ (List.mem_append_right _ (List.mem_of_getElem? (l := tables_1_2) (i := 125) rfl)), rfl⟩
theorem tb_366 : (.code yX2_cloneVol cX2_cloneVol 4 (some .int) : Cond) ∈ TBG := List.mem_filter.mpr ⟨List.mem_append_right _ (List.mem_append_right _ (List.mem_of_getElem? (l := tables_1_2) (i := 126) rfl)), rfl⟩
theorem tb_367 : (.methodLink RL 52 yX2_dropVol : Cond) ∈ TBG := List.mem_filter.mpr ⟨List.mem_append_right _ (List.mem_append_right _ (List.mem_of_getElem? (l := tables_1_2) (i := 127) rfl)), rfl⟩
theorem tb_368 : (.instanceMethod yX2_dropVol : Cond) ∈ TBG := List.mem_filter.mpr ⟨List.mem_append_right _ (List.mem_append_right _ (List.mem_of_getElem? (l := tables_1_2) (i := 128) rfl)), rfl⟩
theorem tb_369 : (.selects RX2 yX2_dropVol yX2_dropVol : Cond) ∈ TBG := List.mem_filter.mpr ⟨List.mem_append_right _ (List.mem_append_right _ (List.mem_of_getElem? (l := tables_1_2) (i := 129) rfl)), rfl⟩
theorem tb_370 : (.code yX2_dropVol cX2_dropVol 3 (some .int) : Cond) ∈ TBG := List.mem_filter.mpr ⟨List.mem_append_right _ (List.mem_append_right _ (List.mem_of_getElem? (l := tables_1_2) (i := 130) rfl)), rfl⟩
theorem tb_371 : (.methodLink RL 56 yX2_chunksUsed : Cond) ∈ TBG := List.mem_filter.mpr ⟨List.mem_append_right _ (List.mem_append_right _ (List.mem_of_getElem? (l := tables_1_2) (i := 131) rfl)), rfl⟩
theorem tb_372 : (.instanceMethod yX2_chunksUsed : Cond) ∈ TBG := List.mem_filter.mpr ⟨List.mem_append_right _ (List.mem_append_right _ (List.mem_of_getElem? (l := tables_1_2) (i := 132) rfl)), rfl⟩
theorem tb_373 : (.selects RX2 yX2_chunksUsed yX2_chunksUsed : Cond) ∈ TBG := List.mem_filter.mpr ⟨List.mem_append_right _ (List.mem_append_right _ (List.mem_of_getElem? (l := tables_1_2) (i := 133) rfl)), rfl⟩
theorem tb_374 : (.code yX2_chunksUsed cX2_chunksUsed 1 (some .int) : Cond) ∈ TBG := List.mem_filter.mpr ⟨List.mem_append_right _ (List.mem_append_right _ (List.mem_of_getElem? (l := tables_1_2) (i := 134) rfl)), rfl⟩
theorem tb_375 : (.methodLink RL 60 yX2_refsOf : Cond) ∈ TBG := List.mem_filter.mpr ⟨List.mem_append_right _ (List.mem_append_right _ (List.mem_of_getElem? (l := tables_1_2) (i := 135) rfl)), rfl⟩
theorem tb_376 : (.instanceMethod yX2_refsOf : Cond) ∈ TBG := List.mem_filter.mpr ⟨List.mem_append_right _ (List.mem_append_right _ (List.mem_of_getElem? (l := tables_1_2) (i := 136) rfl)), rfl⟩
theorem tb_377 : (.selects RX2 yX2_refsOf yX2_refsOf : Cond) ∈ TBG := List.mem_filter.mpr ⟨List.mem_append_right _ (List.mem_append_right _ (List.mem_of_getElem? (l := tables_1_2) (i := 137) rfl)), rfl⟩
theorem tb_378 : (.code yX2_refsOf cX2_refsOf 3 (some .int) : Cond) ∈ TBG := List.mem_filter.mpr ⟨List.mem_append_right _ (List.mem_append_right _ (List.mem_of_getElem? (l := tables_1_2) (i := 138) rfl)), rfl⟩
theorem tb_379 : (.methodLink RL 64 yX2_slotOf : Cond) ∈ TBG := List.mem_filter.mpr ⟨List.mem_append_right _ (List.mem_append_right _ (List.mem_of_getElem? (l := tables_1_2) (i := 139) rfl)), rfl⟩
theorem tb_380 : (.instanceMethod yX2_slotOf : Cond) ∈ TBG := List.mem_filter.mpr ⟨List.mem_append_right _ (List.mem_append_right _ (List.mem_of_getElem? (l := tables_1_2) (i := 140) rfl)), rfl⟩
theorem tb_381 : (.selects RX2 yX2_slotOf yX2_slotOf : Cond) ∈ TBG := List.mem_filter.mpr ⟨List.mem_append_right _ (List.mem_append_right _ (List.mem_of_getElem? (l := tables_1_2) (i := 141) rfl)), rfl⟩
theorem tb_382 : (.code yX2_slotOf cX2_slotOf 3 (some .int) : Cond) ∈ TBG := List.mem_filter.mpr ⟨List.mem_append_right _ (List.mem_append_right _ (List.mem_of_getElem? (l := tables_1_2) (i := 142) rfl)), rfl⟩
theorem tb_383 : (.methodLink RL 68 yX2_slotWord : Cond) ∈ TBG := List.mem_filter.mpr ⟨List.mem_append_right _ (List.mem_append_right _ (List.mem_of_getElem? (l := tables_1_2) (i := 143) rfl)), rfl⟩
theorem tb_384 : (.instanceMethod yX2_slotWord : Cond) ∈ TBG := List.mem_filter.mpr ⟨List.mem_append_right _ (List.mem_append_right _ (List.mem_of_getElem? (l := tables_1_2) (i := 144) rfl)), rfl⟩
theorem tb_385 : (.selects RX2 yX2_slotWord yX2_slotWord : Cond) ∈ TBG := List.mem_filter.mpr ⟨List.mem_append_right _ (List.mem_append_right _ (List.mem_of_getElem? (l := tables_1_2) (i := 145) rfl)), rfl⟩
theorem tb_386 : (.code yX2_slotWord cX2_slotWord 3 (some .int) : Cond) ∈ TBG := List.mem_filter.mpr ⟨List.mem_append_right _ (List.mem_append_right _ (List.mem_of_getElem? (l := tables_1_2) (i := 146) rfl)), rfl⟩
theorem tb_387 : (.methodLink RL 73 yX2_crashAfter : Cond) ∈ TBG := List.mem_filter.mpr ⟨List.mem_append_right _ (List.mem_append_right _ (List.mem_of_getElem? (l := tables_1_2) (i := 147) rfl)), rfl⟩
theorem tb_388 : (.instanceMethod yX2_crashAfter : Cond) ∈ TBG := List.mem_filter.mpr ⟨List.mem_append_right _ (List.mem_append_right _ (List.mem_of_getElem? (l := tables_1_2) (i := 148) rfl)), rfl⟩
theorem tb_389 : (.selects RX2 yX2_crashAfter yX2_crashAfter : Cond) ∈ TBG := List.mem_filter.mpr ⟨List.mem_append_right _ (List.mem_append_right _ (List.mem_of_getElem? (l := tables_1_2) (i := 149) rfl)), rfl⟩
theorem tb_390 : (.code yX2_crashAfter cX2_crashAfter 2 none : Cond) ∈ TBG := List.mem_filter.mpr ⟨List.mem_append_right _ (List.mem_append_right _ (List.mem_of_getElem? (l := tables_1_2) (i := 150) rfl)), rfl⟩
theorem tb_391 : (.methodLink RL 78 yX2_down : Cond) ∈ TBG := List.mem_filter.mpr ⟨List.mem_append_right _ (List.mem_append_right _ (List.mem_of_getElem? (l := tables_1_2) (i := 151) rfl)), rfl⟩
theorem tb_392 : (.instanceMethod yX2_down : Cond) ∈ TBG := List.mem_filter.mpr ⟨List.mem_append_right _ (List.mem_append_right _ (List.mem_of_getElem? (l := tables_1_2) (i := 152) rfl)), rfl⟩
theorem tb_393 : (.selects RX2 yX2_down yX2_down : Cond) ∈ TBG := List.mem_filter.mpr ⟨List.mem_append_right _ (List.mem_append_right _ (List.mem_of_getElem? (l := tables_1_2) (i := 153) rfl)), rfl⟩
theorem tb_394 : (.code yX2_down cX2_down 1 (some .boolean) : Cond) ∈ TBG := List.mem_filter.mpr ⟨List.mem_append_right _ (List.mem_append_right _ (List.mem_of_getElem? (l := tables_1_2) (i := 154) rfl)), rfl⟩
theorem tb_395 : (.methodLink RL 82 yX2_recover : Cond) ∈ TBG := List.mem_filter.mpr ⟨List.mem_append_right _ (List.mem_append_right _ (List.mem_of_getElem? (l := tables_1_2) (i := 155) rfl)), rfl⟩
theorem tb_396 : (.instanceMethod yX2_recover : Cond) ∈ TBG := List.mem_filter.mpr ⟨List.mem_append_right _ (List.mem_append_right _ (List.mem_of_getElem? (l := tables_1_2) (i := 156) rfl)), rfl⟩
theorem tb_397 : (.selects RX2 yX2_recover yX2_recover : Cond) ∈ TBG := List.mem_filter.mpr ⟨List.mem_append_right _ (List.mem_append_right _ (List.mem_of_getElem? (l := tables_1_2) (i := 157) rfl)), rfl⟩
theorem tb_398 : (.code yX2_recover cX2_recover 1 (some .int) : Cond) ∈ TBG := List.mem_filter.mpr ⟨List.mem_append_right _ (List.mem_append_right _ (List.mem_of_getElem? (l := tables_1_2) (i := 158) rfl)), rfl⟩
theorem tb_399 : (.methodLink RL 86 yX2_writes : Cond) ∈ TBG := List.mem_filter.mpr ⟨List.mem_append_right _ (List.mem_append_right _ (List.mem_of_getElem? (l := tables_1_2) (i := 159) rfl)), rfl⟩
theorem tb_400 : (.instanceMethod yX2_writes : Cond) ∈ TBG := List.mem_filter.mpr ⟨List.mem_append_right _ (List.mem_append_right _ (List.mem_of_getElem? (l := tables_1_2) (i := 160) rfl)), rfl⟩
theorem tb_401 : (.selects RX2 yX2_writes yX2_writes : Cond) ∈ TBG := List.mem_filter.mpr ⟨List.mem_append_right _ (List.mem_append_right _ (List.mem_of_getElem? (l := tables_1_2) (i := 161) rfl)), rfl⟩
theorem tb_402 : (.code yX2_writes cX2_writes 1 (some .int) : Cond) ∈ TBG := List.mem_filter.mpr ⟨List.mem_append_right _ (List.mem_append_right _ (List.mem_of_getElem? (l := tables_1_2) (i := 162) rfl)), rfl⟩
theorem ts_0 : (.selects RX1 yX1_wipe yX1_wipe : Cond) ∈ TBG := List.mem_filter.mpr ⟨List.mem_append_left _ (List.mem_of_getElem? (l := k2_sels lw_privs) (i := 0) rfl), rfl⟩
theorem ts_1 : (.selects RX0 yX0_clearStaged yX0_clearStaged : Cond) ∈ TBG := List.mem_filter.mpr ⟨List.mem_append_left _ (List.mem_of_getElem? (l := k2_sels lw_privs) (i := 1) rfl), rfl⟩
theorem ts_2 : (.selects RX1 yX1_isDown yX1_isDown : Cond) ∈ TBG := List.mem_filter.mpr ⟨List.mem_append_left _ (List.mem_of_getElem? (l := k2_sels lw_privs) (i := 2) rfl), rfl⟩
theorem ts_3 : (.selects RX0 yX0_isWord yX0_isWord : Cond) ∈ TBG := List.mem_filter.mpr ⟨List.mem_append_left _ (List.mem_of_getElem? (l := k2_sels lw_privs) (i := 3) rfl), rfl⟩
theorem ts_4 : (.selects RX0 yX0_isBlock yX0_isBlock : Cond) ∈ TBG := List.mem_filter.mpr ⟨List.mem_append_left _ (List.mem_of_getElem? (l := k2_sels lw_privs) (i := 4) rfl), rfl⟩
theorem ts_5 : (.selects RX0 yX0_isVolume yX0_isVolume : Cond) ∈ TBG := List.mem_filter.mpr ⟨List.mem_append_left _ (List.mem_of_getElem? (l := k2_sels lw_privs) (i := 5) rfl), rfl⟩
theorem ts_6 : (.selects RX0 yX0_usedSlotWithStaged yX0_usedSlotWithStaged : Cond) ∈ TBG := List.mem_filter.mpr ⟨List.mem_append_left _ (List.mem_of_getElem? (l := k2_sels lw_privs) (i := 6) rfl), rfl⟩
theorem ts_7 : (.selects RX0 yX0_hasStagedWords yX0_hasStagedWords : Cond) ∈ TBG := List.mem_filter.mpr ⟨List.mem_append_left _ (List.mem_of_getElem? (l := k2_sels lw_privs) (i := 7) rfl), rfl⟩
theorem ts_8 : (.selects RX0 yX0_slotCell yX0_slotCell : Cond) ∈ TBG := List.mem_filter.mpr ⟨List.mem_append_left _ (List.mem_of_getElem? (l := k2_sels lw_privs) (i := 8) rfl), rfl⟩
theorem ts_9 : (.selects RX1 yX1_read yX1_read : Cond) ∈ TBG := List.mem_filter.mpr ⟨List.mem_append_left _ (List.mem_of_getElem? (l := k2_sels lw_privs) (i := 9) rfl), rfl⟩
theorem ts_10 : (.selects RX0 yX0_isUsed yX0_isUsed : Cond) ∈ TBG := List.mem_filter.mpr ⟨List.mem_append_left _ (List.mem_of_getElem? (l := k2_sels lw_privs) (i := 10) rfl), rfl⟩
theorem ts_11 : (.selects RX0 yX0_blocksMappedTo yX0_blocksMappedTo : Cond) ∈ TBG := List.mem_filter.mpr ⟨List.mem_append_left _ (List.mem_of_getElem? (l := k2_sels lw_privs) (i := 11) rfl), rfl⟩
theorem ts_12 : (.selects RX0 yX0_writeNewContents yX0_writeNewContents : Cond) ∈ TBG := List.mem_filter.mpr ⟨List.mem_append_left _ (List.mem_of_getElem? (l := k2_sels lw_privs) (i := 12) rfl), rfl⟩
theorem ts_13 : (.selects RX0 yX0_usedSlotsWithout yX0_usedSlotsWithout : Cond) ∈ TBG := List.mem_filter.mpr ⟨List.mem_append_left _ (List.mem_of_getElem? (l := k2_sels lw_privs) (i := 13) rfl), rfl⟩
theorem ts_14 : (.selects RX0 yX0_mappedSlot yX0_mappedSlot : Cond) ∈ TBG := List.mem_filter.mpr ⟨List.mem_append_left _ (List.mem_of_getElem? (l := k2_sels lw_privs) (i := 14) rfl), rfl⟩
theorem ts_15 : (.selects RX0 yX0_mapCell yX0_mapCell : Cond) ∈ TBG := List.mem_filter.mpr ⟨List.mem_append_left _ (List.mem_of_getElem? (l := k2_sels lw_privs) (i := 15) rfl), rfl⟩
theorem ts_16 : (.selects RX0 yX0_usedSlots yX0_usedSlots : Cond) ∈ TBG := List.mem_filter.mpr ⟨List.mem_append_left _ (List.mem_of_getElem? (l := k2_sels lw_privs) (i := 16) rfl), rfl⟩
theorem ts_17 : (.selects RX0 yX0_lowestUnusedSlot yX0_lowestUnusedSlot : Cond) ∈ TBG := List.mem_filter.mpr ⟨List.mem_append_left _ (List.mem_of_getElem? (l := k2_sels lw_privs) (i := 17) rfl), rfl⟩
theorem ts_18 : (.selects RX1 yX1_write yX1_write : Cond) ∈ TBG := List.mem_filter.mpr ⟨List.mem_append_left _ (List.mem_of_getElem? (l := k2_sels lw_privs) (i := 18) rfl), rfl⟩
theorem ts_19 : (.selects RX0 yX0_change yX0_change : Cond) ∈ TBG := List.mem_filter.mpr ⟨List.mem_append_left _ (List.mem_of_getElem? (l := k2_sels lw_privs) (i := 19) rfl), rfl⟩
theorem ts_20 : (.selects RX0 yX0_carryOutIntent yX0_carryOutIntent : Cond) ∈ TBG := List.mem_filter.mpr ⟨List.mem_append_left _ (List.mem_of_getElem? (l := k2_sels lw_privs) (i := 20) rfl), rfl⟩
theorem ts_21 : (.selects RX0 yX0_mapBlock yX0_mapBlock : Cond) ∈ TBG := List.mem_filter.mpr ⟨List.mem_append_left _ (List.mem_of_getElem? (l := k2_sels lw_privs) (i := 21) rfl), rfl⟩
theorem ts_22 : (.selects RX0 yX0_mapVolumeAs yX0_mapVolumeAs : Cond) ∈ TBG := List.mem_filter.mpr ⟨List.mem_append_left _ (List.mem_of_getElem? (l := k2_sels lw_privs) (i := 22) rfl), rfl⟩
theorem ts_23 : (.selects RX0 yX0_unmapVolume yX0_unmapVolume : Cond) ∈ TBG := List.mem_filter.mpr ⟨List.mem_append_left _ (List.mem_of_getElem? (l := k2_sels lw_privs) (i := 23) rfl), rfl⟩
theorem ts_24 : (.selects RX1 yX1_armLoss yX1_armLoss : Cond) ∈ TBG := List.mem_filter.mpr ⟨List.mem_append_left _ (List.mem_of_getElem? (l := k2_sels lw_privs) (i := 24) rfl), rfl⟩
theorem ts_25 : (.selects RX1 yX1_restorePower yX1_restorePower : Cond) ∈ TBG := List.mem_filter.mpr ⟨List.mem_append_left _ (List.mem_of_getElem? (l := k2_sels lw_privs) (i := 25) rfl), rfl⟩
theorem ts_26 : (.selects RX1 yX1_writesDone yX1_writesDone : Cond) ∈ TBG := List.mem_filter.mpr ⟨List.mem_append_left _ (List.mem_of_getElem? (l := k2_sels lw_privs) (i := 26) rfl), rfl⟩
theorem ts_27 : (.selects RX2 yX2_clearStage yX2_clearStage : Cond) ∈ TBG := List.mem_filter.mpr ⟨List.mem_append_left _ (List.mem_of_getElem? (l := k2_sels lw_privs) (i := 27) rfl), rfl⟩
theorem ts_28 : (.selects RX2 yX2_isWord yX2_isWord : Cond) ∈ TBG := List.mem_filter.mpr ⟨List.mem_append_left _ (List.mem_of_getElem? (l := k2_sels lw_privs) (i := 28) rfl), rfl⟩
theorem ts_29 : (.selects RX2 yX2_block yX2_block : Cond) ∈ TBG := List.mem_filter.mpr ⟨List.mem_append_left _ (List.mem_of_getElem? (l := k2_sels lw_privs) (i := 29) rfl), rfl⟩
theorem ts_30 : (.selects RX2 yX2_volume yX2_volume : Cond) ∈ TBG := List.mem_filter.mpr ⟨List.mem_append_left _ (List.mem_of_getElem? (l := k2_sels lw_privs) (i := 30) rfl), rfl⟩
theorem ts_31 : (.selects RX2 yX2_sharing yX2_sharing : Cond) ∈ TBG := List.mem_filter.mpr ⟨List.mem_append_left _ (List.mem_of_getElem? (l := k2_sels lw_privs) (i := 31) rfl), rfl⟩
theorem ts_32 : (.selects RX2 yX2_refs yX2_refs : Cond) ∈ TBG := List.mem_filter.mpr ⟨List.mem_append_left _ (List.mem_of_getElem? (l := k2_sels lw_privs) (i := 32) rfl), rfl⟩
theorem ts_33 : (.selects RX2 yX2_hasStaged yX2_hasStaged : Cond) ∈ TBG := List.mem_filter.mpr ⟨List.mem_append_left _ (List.mem_of_getElem? (l := k2_sels lw_privs) (i := 33) rfl), rfl⟩
theorem ts_34 : (.selects RX2 yX2_used yX2_used : Cond) ∈ TBG := List.mem_filter.mpr ⟨List.mem_append_left _ (List.mem_of_getElem? (l := k2_sels lw_privs) (i := 34) rfl), rfl⟩
theorem ts_35 : (.selects RX2 yX2_lowestUnused yX2_lowestUnused : Cond) ∈ TBG := List.mem_filter.mpr ⟨List.mem_append_left _ (List.mem_of_getElem? (l := k2_sels lw_privs) (i := 35) rfl), rfl⟩
theorem ts_36 : (.selects RX2 yX2_spend yX2_spend : Cond) ∈ TBG := List.mem_filter.mpr ⟨List.mem_append_left _ (List.mem_of_getElem? (l := k2_sels lw_privs) (i := 36) rfl), rfl⟩
theorem ts_37 : (.selects RX2 yX2_wantAsIs yX2_wantAsIs : Cond) ∈ TBG := List.mem_filter.mpr ⟨List.mem_append_left _ (List.mem_of_getElem? (l := k2_sels lw_privs) (i := 37) rfl), rfl⟩
theorem ts_38 : (.selects RX2 yX2_change yX2_change : Cond) ∈ TBG := List.mem_filter.mpr ⟨List.mem_append_left _ (List.mem_of_getElem? (l := k2_sels lw_privs) (i := 38) rfl), rfl⟩
theorem inX0 : ∀ w ∈ u_ws RX0 TX0 8, w ∈ TBG := fun w h => List.mem_filter.mpr ⟨(by decide +kernel : ∀ w ∈ u_ws RX0 TX0 8, w ∈ lw_tbl) w h, List.all_eq_true.mp (by decide +kernel : (u_ws RX0 TX0 8).all goodWord = true) w h⟩
theorem inX1 : ∀ w ∈ u_ws RX1 TX1 5, w ∈ TBG := fun w h => List.mem_filter.mpr ⟨(by decide +kernel : ∀ w ∈ u_ws RX1 TX1 5, w ∈ lw_tbl) w h, List.all_eq_true.mp (by decide +kernel : (u_ws RX1 TX1 5).all goodWord = true) w h⟩
theorem inX2 : ∀ w ∈ u_ws RX2 TX2 13, w ∈ TBG := fun w h => List.mem_filter.mpr ⟨(by decide +kernel : ∀ w ∈ u_ws RX2 TX2 13, w ∈ lw_tbl) w h, List.all_eq_true.mp (by decide +kernel : (u_ws RX2 TX2 13).all goodWord = true) w h⟩
theorem gw {y : MethodName} {c : ByteArray} {n : Nat} {r : Option FieldType} (h : Cond.code y c n r ∈ TBG) : GoodIn TBG (Cond.code y c n r :: TBG) := fun w hw => by
  rcases List.mem_cons.mp hw with q | q
  · rw [q]; exact ⟨h, good_of_word (tb_good _ h)⟩
  · exact ⟨q, good_of_word (tb_good _ q)⟩
theorem gx {a ws : List Cond} (h : GoodIn TBG ws) (ha : ∀ w ∈ a, w ∈ TBG) : GoodIn TBG (a ++ ws) := fun w hw => by
  rcases List.mem_append.mp hw with q | q
  · exact ⟨ha w q, good_of_word (tb_good _ (ha w q))⟩
  · exact h w q
theorem gv {own C : String} {i : Nat} {y : MethodName} {c : ByteArray} {n : Nat} {r : Option FieldType} (h1 : Cond.methodLink own i y ∈ TBG) (h2 : Cond.instanceMethod y ∈ TBG) (h3 : Cond.selects C y y ∈ TBG) (h4 : Cond.initialized C ∈ TBG) (h5 : Cond.code y c n r ∈ TBG) : GoodIn TBG (wsV own i C y (Cond.code y c n r :: TBG)) :=
  gx (gw h5) (fun w hw => by
    simp only [List.mem_cons, List.not_mem_nil, or_false] at hw
    rcases hw with q | q | q | q <;> rw [q] <;> assumption)
theorem gs {own : String} {i : Nat} {y : MethodName} {c : ByteArray} {n : Nat} {r : Option FieldType} (h1 : Cond.methodLink own i y ∈ TBG) (h2 : Cond.static y ∈ TBG) (h3 : Cond.initialized own ∈ TBG) (h5 : Cond.code y c n r ∈ TBG) : GoodIn TBG (wsS own i y (Cond.code y c n r :: TBG)) :=
  gx (gw h5) (fun w hw => by
    simp only [List.mem_cons, List.not_mem_nil, or_false] at hw
    rcases hw with q | q | q <;> rw [q] <;> assumption)
theorem gu {own : String} {i : Nat} {y : MethodName} {c : ByteArray} {n : Nat} {r : Option FieldType} (h1 : Cond.methodLink own i y ∈ TBG) (h2 : Cond.static y ∈ TBG) (h3 : Cond.initialized y.cls ∈ TBG) (h5 : Cond.code y c n r ∈ TBG) : GoodIn TBG (va_wsS own i y (Cond.code y c n r :: TBG)) :=
  gx (gw h5) (fun w hw => by
    simp only [List.mem_cons, List.not_mem_nil, or_false] at hw
    rcases hw with q | q | q <;> rw [q] <;> assumption)
def wsX0_init : List Cond := .code yX0_init cX0_init 5 none :: TBG
def wsX0_within : List Cond := .code yX0_within cX0_within 2 (some .int) :: TBG
def wsX1_init : List Cond := .code yX1_init cX1_init 2 none :: TBG
def wsX0_format : List Cond := .code yX0_format cX0_format 1 (some .int) :: TBG
def wsX1_wipe : List Cond := .code yX1_wipe cX1_wipe 1 none :: TBG
def wsJ0_fill : List Cond := .code yJ0_fill cJ0_fill 4 none :: TBG
def wsX0_clearStaged : List Cond := .code yX0_clearStaged cX0_clearStaged 1 none :: TBG
def wsX0_stageWord : List Cond := .code yX0_stageWord cX0_stageWord 3 (some .int) :: TBG
def wsX1_isDown : List Cond := .code yX1_isDown cX1_isDown 1 (some .boolean) :: TBG
def wsX0_isWord : List Cond := .code yX0_isWord cX0_isWord 2 (some .boolean) :: TBG
def wsX0_writeBlock : List Cond := .code yX0_writeBlock cX0_writeBlock 4 (some .int) :: TBG
def wsX0_isBlock : List Cond := .code yX0_isBlock cX0_isBlock 3 (some .boolean) :: TBG
def wsX0_isVolume : List Cond := .code yX0_isVolume cX0_isVolume 2 (some .boolean) :: TBG
def wsX0_usedSlotWithStaged : List Cond := .code yX0_usedSlotWithStaged cX0_usedSlotWithStaged 2 (some .int) :: TBG
def wsX0_hasStagedWords : List Cond := .code yX0_hasStagedWords cX0_hasStagedWords 3 (some .boolean) :: TBG
def wsX0_slotCell : List Cond := .code yX0_slotCell cX0_slotCell 3 (some .int) :: TBG
def wsX1_read : List Cond := .code yX1_read cX1_read 2 (some .int) :: TBG
def wsX0_isUsed : List Cond := .code yX0_isUsed cX0_isUsed 2 (some .boolean) :: TBG
def wsX0_blocksMappedTo : List Cond := .code yX0_blocksMappedTo cX0_blocksMappedTo 4 (some .int) :: TBG
def wsX0_writeNewContents : List Cond := .code yX0_writeNewContents cX0_writeNewContents 5 (some .int) :: TBG
def wsX0_usedSlotsWithout : List Cond := .code yX0_usedSlotsWithout cX0_usedSlotsWithout 5 (some .int) :: TBG
def wsX0_mappedSlot : List Cond := .code yX0_mappedSlot cX0_mappedSlot 3 (some .int) :: TBG
def wsX0_mapCell : List Cond := .code yX0_mapCell cX0_mapCell 3 (some .int) :: TBG
def wsX0_usedSlots : List Cond := .code yX0_usedSlots cX0_usedSlots 3 (some .int) :: TBG
def wsX0_lowestUnusedSlot : List Cond := .code yX0_lowestUnusedSlot cX0_lowestUnusedSlot 2 (some .int) :: TBG
def wsX1_write : List Cond := .code yX1_write cX1_write 3 none :: TBG
def wsX0_change : List Cond := .code yX0_change cX0_change 5 (some .int) :: TBG
def wsX0_carryOutIntent : List Cond := .code yX0_carryOutIntent cX0_carryOutIntent 4 none :: TBG
def wsX0_mapBlock : List Cond := .code yX0_mapBlock cX0_mapBlock 4 none :: TBG
def wsX0_mapVolumeAs : List Cond := .code yX0_mapVolumeAs cX0_mapVolumeAs 4 none :: TBG
def wsX0_unmapVolume : List Cond := .code yX0_unmapVolume cX0_unmapVolume 3 none :: TBG
def wsX0_readWord : List Cond := .code yX0_readWord cX0_readWord 5 (some .int) :: TBG
def wsX0_trim : List Cond := .code yX0_trim cX0_trim 3 (some .int) :: TBG
def wsX0_cloneVol : List Cond := .code yX0_cloneVol cX0_cloneVol 3 (some .int) :: TBG
def wsX0_dropVol : List Cond := .code yX0_dropVol cX0_dropVol 2 (some .int) :: TBG
def wsX0_chunksUsed : List Cond := .code yX0_chunksUsed cX0_chunksUsed 1 (some .int) :: TBG
def wsX0_refsOf : List Cond := .code yX0_refsOf cX0_refsOf 4 (some .int) :: TBG
def wsX0_slotOf : List Cond := .code yX0_slotOf cX0_slotOf 4 (some .int) :: TBG
def wsX0_slotWord : List Cond := .code yX0_slotWord cX0_slotWord 3 (some .int) :: TBG
def wsX0_crashAfter : List Cond := .code yX0_crashAfter cX0_crashAfter 2 none :: TBG
def wsX1_armLoss : List Cond := .code yX1_armLoss cX1_armLoss 2 none :: TBG
def wsX0_down : List Cond := .code yX0_down cX0_down 1 (some .boolean) :: TBG
def wsX0_recover : List Cond := .code yX0_recover cX0_recover 1 (some .int) :: TBG
def wsX1_restorePower : List Cond := .code yX1_restorePower cX1_restorePower 1 none :: TBG
def wsX0_writes : List Cond := .code yX0_writes cX0_writes 1 (some .int) :: TBG
def wsX1_writesDone : List Cond := .code yX1_writesDone cX1_writesDone 1 (some .int) :: TBG
def wsL_cell : List Cond := .code yL_cell cL_cell 2 (some .int) :: TBG
def wsX2_init : List Cond := .code yX2_init cX2_init 5 none :: TBG
def wsX2_cut : List Cond := .code yX2_cut cX2_cut 2 (some .int) :: TBG
def wsX2_format : List Cond := .code yX2_format cX2_format 2 (some .int) :: TBG
def wsX2_clearStage : List Cond := .code yX2_clearStage cX2_clearStage 2 none :: TBG
def wsX2_stageWord : List Cond := .code yX2_stageWord cX2_stageWord 3 (some .int) :: TBG
def wsX2_isWord : List Cond := .code yX2_isWord cX2_isWord 2 (some .boolean) :: TBG
def wsX2_writeBlock : List Cond := .code yX2_writeBlock cX2_writeBlock 8 (some .int) :: TBG
def wsX2_block : List Cond := .code yX2_block cX2_block 3 (some .boolean) :: TBG
def wsX2_volume : List Cond := .code yX2_volume cX2_volume 2 (some .boolean) :: TBG
def wsX2_sharing : List Cond := .code yX2_sharing cX2_sharing 3 (some .int) :: TBG
def wsX2_refs : List Cond := .code yX2_refs cX2_refs 4 (some .int) :: TBG
def wsX2_hasStaged : List Cond := .code yX2_hasStaged cX2_hasStaged 4 (some .boolean) :: TBG
def wsX2_used : List Cond := .code yX2_used cX2_used 3 (some .int) :: TBG
def wsX2_lowestUnused : List Cond := .code yX2_lowestUnused cX2_lowestUnused 2 (some .int) :: TBG
def wsX2_spend : List Cond := .code yX2_spend cX2_spend 3 (some .int) :: TBG
def wsX2_wantAsIs : List Cond := .code yX2_wantAsIs cX2_wantAsIs 2 none :: TBG
def wsX2_change : List Cond := .code yX2_change cX2_change 4 (some .int) :: TBG
def wsX2_readWord : List Cond := .code yX2_readWord cX2_readWord 4 (some .int) :: TBG
def wsX2_trim : List Cond := .code yX2_trim cX2_trim 3 (some .int) :: TBG
def wsX2_cloneVol : List Cond := .code yX2_cloneVol cX2_cloneVol 4 (some .int) :: TBG
def wsX2_dropVol : List Cond := .code yX2_dropVol cX2_dropVol 3 (some .int) :: TBG
def wsX2_chunksUsed : List Cond := .code yX2_chunksUsed cX2_chunksUsed 1 (some .int) :: TBG
def wsX2_refsOf : List Cond := .code yX2_refsOf cX2_refsOf 3 (some .int) :: TBG
def wsX2_slotOf : List Cond := .code yX2_slotOf cX2_slotOf 3 (some .int) :: TBG
def wsX2_slotWord : List Cond := .code yX2_slotWord cX2_slotWord 3 (some .int) :: TBG
def wsX2_crashAfter : List Cond := .code yX2_crashAfter cX2_crashAfter 2 none :: TBG
def wsX2_down : List Cond := .code yX2_down cX2_down 1 (some .boolean) :: TBG
def wsX2_recover : List Cond := .code yX2_recover cX2_recover 1 (some .int) :: TBG
def wsX2_writes : List Cond := .code yX2_writes cX2_writes 1 (some .int) :: TBG
def nwL : List Cond := [.methodLinkNest RX0 38 yX1_init "SharedVolumes", .methodLinkNest RX0 45 yX1_wipe "SharedVolumes", .methodLinkNest RX0 51 yX1_isDown "SharedVolumes", .methodLinkNest RX0 80 yX1_read "SharedVolumes", .methodLinkNest RX0 116 yX1_write "SharedVolumes", .methodLinkNest RX0 93 yX1_armLoss "SharedVolumes", .methodLinkNest RX0 96 yX1_restorePower "SharedVolumes", .methodLinkNest RX0 102 yX1_writesDone "SharedVolumes"]
theorem nw_in : ∀ w ∈ nwL, w ∈ lw_tbl := fun w h => by
  unfold nwL at h
  simp only [List.mem_cons, List.not_mem_nil, or_false] at h
  rcases h with q | q | q | q | q | q | q | q
  · rw [q]; exact List.mem_append_right _ (List.mem_append_left _ (List.mem_of_getElem? (l := tables_1_1) (i := 25) rfl))
  · rw [q]; exact List.mem_append_right _ (List.mem_append_left _ (List.mem_of_getElem? (l := tables_1_1) (i := 75) rfl))
  · rw [q]; exact List.mem_append_right _ (List.mem_append_left _ (List.mem_of_getElem? (l := tables_1_1) (i := 91) rfl))
  · rw [q]; exact List.mem_append_right _ (List.mem_append_left _ (List.mem_of_getElem? (l := tables_1_1) (i := 123) rfl))
  · rw [q]; exact List.mem_append_right _ (List.mem_append_left _ (List.mem_of_getElem? (l := tables_1_1) (i := 159) rfl))
  · rw [q]; exact List.mem_append_right _ (List.mem_append_left _ (List.mem_of_getElem? (l := tables_1_1) (i := 219) rfl))
  · rw [q]; exact List.mem_append_right _ (List.mem_append_left _ (List.mem_of_getElem? (l := tables_1_1) (i := 231) rfl))
  · rw [q]; exact List.mem_append_right _ (List.mem_append_left _ (List.mem_of_getElem? (l := tables_1_1) (i := 239) rfl))
theorem nn_38 : (.methodLinkNest RX0 38 yX1_init "SharedVolumes" : Cond) ∈ nwL := List.mem_of_getElem? (i := 0) rfl
theorem nn_45 : (.methodLinkNest RX0 45 yX1_wipe "SharedVolumes" : Cond) ∈ nwL := List.mem_of_getElem? (i := 1) rfl
theorem nn_51 : (.methodLinkNest RX0 51 yX1_isDown "SharedVolumes" : Cond) ∈ nwL := List.mem_of_getElem? (i := 2) rfl
theorem nn_80 : (.methodLinkNest RX0 80 yX1_read "SharedVolumes" : Cond) ∈ nwL := List.mem_of_getElem? (i := 3) rfl
theorem nn_116 : (.methodLinkNest RX0 116 yX1_write "SharedVolumes" : Cond) ∈ nwL := List.mem_of_getElem? (i := 4) rfl
theorem nn_93 : (.methodLinkNest RX0 93 yX1_armLoss "SharedVolumes" : Cond) ∈ nwL := List.mem_of_getElem? (i := 5) rfl
theorem nn_96 : (.methodLinkNest RX0 96 yX1_restorePower "SharedVolumes" : Cond) ∈ nwL := List.mem_of_getElem? (i := 6) rfl
theorem nn_102 : (.methodLinkNest RX0 102 yX1_writesDone "SharedVolumes" : Cond) ∈ nwL := List.mem_of_getElem? (i := 7) rfl
theorem gL_15 : GoodIn TBG wsX0_init := gw tb_10
theorem gX0_9 : GoodIn TBG (wsS RX0 9 yX0_within wsX0_within) := gs tb_14 tb_15 tb_1 tb_16
theorem gL_21 : GoodIn TBG (wsV RL 21 RX0 yX0_format wsX0_format) := gv tb_71 tb_72 tb_73 tb_1 tb_74
theorem gX1_13 : GoodIn TBG (va_wsS RX1 13 yJ0_fill wsJ0_fill) := gu tb_79 tb_80 tb_5 tb_81
theorem gX0_48 : GoodIn TBG (wsV RX0 48 RX0 yX0_clearStaged wsX0_clearStaged) := gv tb_82 tb_84 ts_1 tb_1 tb_85
theorem gX0_126 : GoodIn TBG (va_wsS RX0 126 yJ0_fill wsJ0_fill) := gu tb_86 tb_80 tb_5 tb_81
theorem gL_26 : GoodIn TBG (wsV RL 26 RX0 yX0_stageWord wsX0_stageWord) := gv tb_87 tb_88 tb_89 tb_1 tb_90
theorem gX0_55 : GoodIn TBG (wsV RX0 55 RX0 yX0_isWord wsX0_isWord) := gv tb_95 tb_97 ts_3 tb_1 tb_98
theorem gL_31 : GoodIn TBG (wsV RL 31 RX0 yX0_writeBlock wsX0_writeBlock) := gv tb_99 tb_100 tb_101 tb_1 tb_102
theorem gX0_59 : GoodIn TBG (wsV RX0 59 RX0 yX0_isBlock wsX0_isBlock) := gv tb_103 tb_105 ts_4 tb_1 tb_106
theorem gX0_84 : GoodIn TBG (wsV RX0 84 RX0 yX0_isVolume wsX0_isVolume) := gv tb_107 tb_109 ts_5 tb_1 tb_110
theorem gX0_63 : GoodIn TBG (wsV RX0 63 RX0 yX0_usedSlotWithStaged wsX0_usedSlotWithStaged) := gv tb_111 tb_113 ts_6 tb_1 tb_114
theorem gX0_123 : GoodIn TBG (wsV RX0 123 RX0 yX0_hasStagedWords wsX0_hasStagedWords) := gv tb_115 tb_117 ts_7 tb_1 tb_118
theorem gX0_77 : GoodIn TBG (wsV RX0 77 RX0 yX0_slotCell wsX0_slotCell) := gv tb_119 tb_121 ts_8 tb_1 tb_122
theorem gX0_120 : GoodIn TBG (wsV RX0 120 RX0 yX0_isUsed wsX0_isUsed) := gv tb_127 tb_129 ts_10 tb_1 tb_130
theorem gX0_90 : GoodIn TBG (wsV RX0 90 RX0 yX0_blocksMappedTo wsX0_blocksMappedTo) := gv tb_131 tb_133 ts_11 tb_1 tb_134
theorem gX0_67 : GoodIn TBG (wsV RX0 67 RX0 yX0_writeNewContents wsX0_writeNewContents) := gv tb_135 tb_137 ts_12 tb_1 tb_138
theorem gX0_132 : GoodIn TBG (wsV RX0 132 RX0 yX0_usedSlotsWithout wsX0_usedSlotsWithout) := gv tb_139 tb_141 ts_13 tb_1 tb_142
theorem gX0_70 : GoodIn TBG (wsV RX0 70 RX0 yX0_mappedSlot wsX0_mappedSlot) := gv tb_143 tb_145 ts_14 tb_1 tb_146
theorem gX0_113 : GoodIn TBG (wsV RX0 113 RX0 yX0_mapCell wsX0_mapCell) := gv tb_147 tb_149 ts_15 tb_1 tb_150
theorem gX0_87 : GoodIn TBG (wsV RX0 87 RX0 yX0_usedSlots wsX0_usedSlots) := gv tb_151 tb_153 ts_16 tb_1 tb_154
theorem gX0_135 : GoodIn TBG (wsV RX0 135 RX0 yX0_lowestUnusedSlot wsX0_lowestUnusedSlot) := gv tb_155 tb_157 ts_17 tb_1 tb_158
theorem gX0_73 : GoodIn TBG (wsV RX0 73 RX0 yX0_change wsX0_change) := gv tb_163 tb_165 ts_19 tb_1 tb_166
theorem gX0_99 : GoodIn TBG (wsV RX0 99 RX0 yX0_carryOutIntent wsX0_carryOutIntent) := gv tb_167 tb_169 ts_20 tb_1 tb_170
theorem gX0_138 : GoodIn TBG (wsV RX0 138 RX0 yX0_mapBlock wsX0_mapBlock) := gv tb_171 tb_173 ts_21 tb_1 tb_174
theorem gX0_142 : GoodIn TBG (wsV RX0 142 RX0 yX0_mapVolumeAs wsX0_mapVolumeAs) := gv tb_175 tb_177 ts_22 tb_1 tb_178
theorem gX0_145 : GoodIn TBG (wsV RX0 145 RX0 yX0_unmapVolume wsX0_unmapVolume) := gv tb_179 tb_181 ts_23 tb_1 tb_182
theorem gL_35 : GoodIn TBG (wsV RL 35 RX0 yX0_readWord wsX0_readWord) := gv tb_183 tb_184 tb_185 tb_1 tb_186
theorem gL_40 : GoodIn TBG (wsV RL 40 RX0 yX0_trim wsX0_trim) := gv tb_187 tb_188 tb_189 tb_1 tb_190
theorem gL_44 : GoodIn TBG (wsV RL 44 RX0 yX0_cloneVol wsX0_cloneVol) := gv tb_191 tb_192 tb_193 tb_1 tb_194
theorem gL_48 : GoodIn TBG (wsV RL 48 RX0 yX0_dropVol wsX0_dropVol) := gv tb_195 tb_196 tb_197 tb_1 tb_198
theorem gL_53 : GoodIn TBG (wsV RL 53 RX0 yX0_chunksUsed wsX0_chunksUsed) := gv tb_199 tb_200 tb_201 tb_1 tb_202
theorem gL_57 : GoodIn TBG (wsV RL 57 RX0 yX0_refsOf wsX0_refsOf) := gv tb_203 tb_204 tb_205 tb_1 tb_206
theorem gL_61 : GoodIn TBG (wsV RL 61 RX0 yX0_slotOf wsX0_slotOf) := gv tb_207 tb_208 tb_209 tb_1 tb_210
theorem gL_65 : GoodIn TBG (wsV RL 65 RX0 yX0_slotWord wsX0_slotWord) := gv tb_211 tb_212 tb_213 tb_1 tb_214
theorem gL_69 : GoodIn TBG (wsV RL 69 RX0 yX0_crashAfter wsX0_crashAfter) := gv tb_215 tb_216 tb_217 tb_1 tb_218
theorem gL_74 : GoodIn TBG (wsV RL 74 RX0 yX0_down wsX0_down) := gv tb_223 tb_224 tb_225 tb_1 tb_226
theorem gL_79 : GoodIn TBG (wsV RL 79 RX0 yX0_recover wsX0_recover) := gv tb_227 tb_228 tb_229 tb_1 tb_230
theorem gL_83 : GoodIn TBG (wsV RL 83 RX0 yX0_writes wsX0_writes) := gv tb_235 tb_236 tb_237 tb_1 tb_238
theorem gL_9 : GoodIn TBG (wsS RL 9 yL_cell wsL_cell) := gs tb_243 tb_244 tb_0 tb_245
theorem gL_20 : GoodIn TBG wsX2_init := gw tb_250
theorem gX2_22 : GoodIn TBG (wsS RX2 22 yX2_cut wsX2_cut) := gs tb_252 tb_253 tb_4 tb_254
theorem gL_25 : GoodIn TBG (wsV RL 25 RX2 yX2_format wsX2_format) := gv tb_295 tb_296 tb_297 tb_4 tb_298
theorem gX2_39 : GoodIn TBG (wsV RX2 39 RX2 yX2_clearStage wsX2_clearStage) := gv tb_299 tb_301 ts_27 tb_4 tb_302
theorem gL_30 : GoodIn TBG (wsV RL 30 RX2 yX2_stageWord wsX2_stageWord) := gv tb_303 tb_304 tb_305 tb_4 tb_306
theorem gX2_69 : GoodIn TBG (wsV RX2 69 RX2 yX2_isWord wsX2_isWord) := gv tb_307 tb_309 ts_28 tb_4 tb_310
theorem gL_34 : GoodIn TBG (wsV RL 34 RX2 yX2_writeBlock wsX2_writeBlock) := gv tb_311 tb_312 tb_313 tb_4 tb_314
theorem gX2_72 : GoodIn TBG (wsV RX2 72 RX2 yX2_block wsX2_block) := gv tb_315 tb_317 ts_29 tb_4 tb_318
theorem gX2_59 : GoodIn TBG (wsV RX2 59 RX2 yX2_volume wsX2_volume) := gv tb_319 tb_321 ts_30 tb_4 tb_322
theorem gX2_76 : GoodIn TBG (wsV RX2 76 RX2 yX2_sharing wsX2_sharing) := gv tb_323 tb_325 ts_31 tb_4 tb_326
theorem gX2_63 : GoodIn TBG (wsV RX2 63 RX2 yX2_refs wsX2_refs) := gv tb_327 tb_329 ts_32 tb_4 tb_330
theorem gX2_66 : GoodIn TBG (wsV RX2 66 RX2 yX2_hasStaged wsX2_hasStaged) := gv tb_331 tb_333 ts_33 tb_4 tb_334
theorem gX2_80 : GoodIn TBG (wsV RX2 80 RX2 yX2_used wsX2_used) := gv tb_335 tb_337 ts_34 tb_4 tb_338
theorem gX2_83 : GoodIn TBG (wsV RX2 83 RX2 yX2_lowestUnused wsX2_lowestUnused) := gv tb_339 tb_341 ts_35 tb_4 tb_342
theorem gX2_55 : GoodIn TBG (wsV RX2 55 RX2 yX2_spend wsX2_spend) := gv tb_343 tb_345 ts_36 tb_4 tb_346
theorem gX2_86 : GoodIn TBG (wsV RX2 86 RX2 yX2_wantAsIs wsX2_wantAsIs) := gv tb_347 tb_349 ts_37 tb_4 tb_350
theorem gX2_89 : GoodIn TBG (wsV RX2 89 RX2 yX2_change wsX2_change) := gv tb_351 tb_353 ts_38 tb_4 tb_354
theorem gL_39 : GoodIn TBG (wsV RL 39 RX2 yX2_readWord wsX2_readWord) := gv tb_355 tb_356 tb_357 tb_4 tb_358
theorem gL_43 : GoodIn TBG (wsV RL 43 RX2 yX2_trim wsX2_trim) := gv tb_359 tb_360 tb_361 tb_4 tb_362
theorem gL_47 : GoodIn TBG (wsV RL 47 RX2 yX2_cloneVol wsX2_cloneVol) := gv tb_363 tb_364 tb_365 tb_4 tb_366
theorem gL_52 : GoodIn TBG (wsV RL 52 RX2 yX2_dropVol wsX2_dropVol) := gv tb_367 tb_368 tb_369 tb_4 tb_370
theorem gL_56 : GoodIn TBG (wsV RL 56 RX2 yX2_chunksUsed wsX2_chunksUsed) := gv tb_371 tb_372 tb_373 tb_4 tb_374
theorem gL_60 : GoodIn TBG (wsV RL 60 RX2 yX2_refsOf wsX2_refsOf) := gv tb_375 tb_376 tb_377 tb_4 tb_378
theorem gL_64 : GoodIn TBG (wsV RL 64 RX2 yX2_slotOf wsX2_slotOf) := gv tb_379 tb_380 tb_381 tb_4 tb_382
theorem gL_68 : GoodIn TBG (wsV RL 68 RX2 yX2_slotWord wsX2_slotWord) := gv tb_383 tb_384 tb_385 tb_4 tb_386
theorem gL_73 : GoodIn TBG (wsV RL 73 RX2 yX2_crashAfter wsX2_crashAfter) := gv tb_387 tb_388 tb_389 tb_4 tb_390
theorem gL_78 : GoodIn TBG (wsV RL 78 RX2 yX2_down wsX2_down) := gv tb_391 tb_392 tb_393 tb_4 tb_394
theorem gL_82 : GoodIn TBG (wsV RL 82 RX2 yX2_recover wsX2_recover) := gv tb_395 tb_396 tb_397 tb_4 tb_398
theorem gL_86 : GoodIn TBG (wsV RL 86 RX2 yX2_writes wsX2_writes) := gv tb_399 tb_400 tb_401 tb_4 tb_402
theorem gX0_38 : GoodIn TBG wsX1_init := gw tb_27
theorem gX0_45 : GoodIn TBG wsX1_wipe := gw tb_78
theorem gX0_51 : GoodIn TBG wsX1_isDown := gw tb_94
theorem gX0_80 : GoodIn TBG wsX1_read := gw tb_126
theorem gX0_116 : GoodIn TBG wsX1_write := gw tb_162
theorem gX0_93 : GoodIn TBG wsX1_armLoss := gw tb_222
theorem gX0_96 : GoodIn TBG wsX1_restorePower := gw tb_234
theorem gX0_102 : GoodIn TBG wsX1_writesDone := gw tb_242
end
section
theorem dX0_init_0 : decode cX0_init 0 = .ok (.aload_n 0, 1) := by decide +kernel
theorem dX0_init_1 : decode cX0_init 1 = .ok (.invokespecial 1, 3) := by decide +kernel
theorem dX0_init_4 : decode cX0_init 4 = .ok (.aload_n 0, 1) := by decide +kernel
theorem dX0_init_5 : decode cX0_init 5 = .ok (.iload_n 1, 1) := by decide +kernel
theorem dX0_init_6 : decode cX0_init 6 = .ok (.iconst 4, 1) := by decide +kernel
theorem dX0_init_7 : decode cX0_init 7 = .ok (.invokestatic 9, 3) := by decide +kernel
theorem dX0_init_10 : decode cX0_init 10 = .ok (.putfield 13, 3) := by decide +kernel
theorem dX0_init_13 : decode cX0_init 13 = .ok (.aload_n 0, 1) := by decide +kernel
theorem dX0_init_14 : decode cX0_init 14 = .ok (.iload_n 2, 1) := by decide +kernel
theorem dX0_init_15 : decode cX0_init 15 = .ok (.bipush 12, 2) := by decide +kernel
theorem dX0_init_17 : decode cX0_init 17 = .ok (.invokestatic 9, 3) := by decide +kernel
theorem dX0_init_20 : decode cX0_init 20 = .ok (.putfield 17, 3) := by decide +kernel
theorem dX0_init_23 : decode cX0_init 23 = .ok (.aload_n 0, 1) := by decide +kernel
theorem dX0_init_24 : decode cX0_init 24 = .ok (.iload_n 3, 1) := by decide +kernel
theorem dX0_init_25 : decode cX0_init 25 = .ok (.iconst 4, 1) := by decide +kernel
theorem dX0_init_26 : decode cX0_init 26 = .ok (.invokestatic 9, 3) := by decide +kernel
theorem dX0_init_29 : decode cX0_init 29 = .ok (.putfield 20, 3) := by decide +kernel
theorem dX0_init_32 : decode cX0_init 32 = .ok (.aload_n 0, 1) := by decide +kernel
theorem dX0_init_33 : decode cX0_init 33 = .ok (.iload 4, 2) := by decide +kernel
theorem dX0_init_35 : decode cX0_init 35 = .ok (.bipush 6, 2) := by decide +kernel
theorem dX0_init_37 : decode cX0_init 37 = .ok (.invokestatic 9, 3) := by decide +kernel
theorem dX0_init_40 : decode cX0_init 40 = .ok (.putfield 23, 3) := by decide +kernel
theorem dX0_init_43 : decode cX0_init 43 = .ok (.aload_n 0, 1) := by decide +kernel
theorem dX0_init_44 : decode cX0_init 44 = .ok (.aload_n 0, 1) := by decide +kernel
theorem dX0_init_45 : decode cX0_init 45 = .ok (.getfield 13, 3) := by decide +kernel
theorem dX0_init_48 : decode cX0_init 48 = .ok (.newarray .int, 2) := by decide +kernel
theorem dX0_init_50 : decode cX0_init 50 = .ok (.putfield 26, 3) := by decide +kernel
theorem dX0_init_53 : decode cX0_init 53 = .ok (.aload_n 0, 1) := by decide +kernel
theorem dX0_init_54 : decode cX0_init 54 = .ok (.aload_n 0, 1) := by decide +kernel
theorem dX0_init_55 : decode cX0_init 55 = .ok (.getfield 17, 3) := by decide +kernel
theorem dX0_init_58 : decode cX0_init 58 = .ok (.iconst 1, 1) := by decide +kernel
theorem dX0_init_59 : decode cX0_init 59 = .ok (.iadd, 1) := by decide +kernel
theorem dX0_init_60 : decode cX0_init 60 = .ok (.aload_n 0, 1) := by decide +kernel
theorem dX0_init_61 : decode cX0_init 61 = .ok (.getfield 13, 3) := by decide +kernel
theorem dX0_init_64 : decode cX0_init 64 = .ok (.imul, 1) := by decide +kernel
theorem dX0_init_65 : decode cX0_init 65 = .ok (.putfield 30, 3) := by decide +kernel
theorem dX0_init_68 : decode cX0_init 68 = .ok (.aload_n 0, 1) := by decide +kernel
theorem dX0_init_69 : decode cX0_init 69 = .ok (.aload_n 0, 1) := by decide +kernel
theorem dX0_init_70 : decode cX0_init 70 = .ok (.getfield 30, 3) := by decide +kernel
theorem dX0_init_73 : decode cX0_init 73 = .ok (.aload_n 0, 1) := by decide +kernel
theorem dX0_init_74 : decode cX0_init 74 = .ok (.getfield 20, 3) := by decide +kernel
theorem dX0_init_77 : decode cX0_init 77 = .ok (.aload_n 0, 1) := by decide +kernel
theorem dX0_init_78 : decode cX0_init 78 = .ok (.getfield 23, 3) := by decide +kernel
theorem dX0_init_81 : decode cX0_init 81 = .ok (.imul, 1) := by decide +kernel
theorem dX0_init_82 : decode cX0_init 82 = .ok (.iadd, 1) := by decide +kernel
theorem dX0_init_83 : decode cX0_init 83 = .ok (.putfield 33, 3) := by decide +kernel
theorem dX0_init_86 : decode cX0_init 86 = .ok (.aload_n 0, 1) := by decide +kernel
theorem dX0_init_87 : decode cX0_init 87 = .ok (.new 36, 3) := by decide +kernel
theorem dX0_init_90 : decode cX0_init 90 = .ok (.dup, 1) := by decide +kernel
theorem dX0_init_91 : decode cX0_init 91 = .ok (.aload_n 0, 1) := by decide +kernel
theorem dX0_init_92 : decode cX0_init 92 = .ok (.getfield 33, 3) := by decide +kernel
theorem dX0_init_95 : decode cX0_init 95 = .ok (.iconst 4, 1) := by decide +kernel
theorem dX0_init_96 : decode cX0_init 96 = .ok (.iadd, 1) := by decide +kernel
theorem dX0_init_97 : decode cX0_init 97 = .ok (.invokespecial 38, 3) := by decide +kernel
theorem dX0_init_100 : decode cX0_init 100 = .ok (.putfield 41, 3) := by decide +kernel
theorem dX0_init_103 : decode cX0_init 103 = .ok (.return_, 1) := by decide +kernel
theorem dX0_within_0 : decode cX0_within 0 = .ok (.iconst 1, 1) := by decide +kernel
theorem dX0_within_1 : decode cX0_within 1 = .ok (.iload_n 0, 1) := by decide +kernel
theorem dX0_within_2 : decode cX0_within 2 = .ok (.iload_n 1, 1) := by decide +kernel
theorem dX0_within_3 : decode cX0_within 3 = .ok (.invokestatic 105, 3) := by decide +kernel
theorem dX0_within_6 : decode cX0_within 6 = .ok (.invokestatic 110, 3) := by decide +kernel
theorem dX0_within_9 : decode cX0_within 9 = .ok (.ireturn, 1) := by decide +kernel
theorem dX1_init_0 : decode cX1_init 0 = .ok (.aload_n 0, 1) := by decide +kernel
theorem dX1_init_1 : decode cX1_init 1 = .ok (.invokespecial 1, 3) := by decide +kernel
theorem dX1_init_4 : decode cX1_init 4 = .ok (.aload_n 0, 1) := by decide +kernel
theorem dX1_init_5 : decode cX1_init 5 = .ok (.iload_n 1, 1) := by decide +kernel
theorem dX1_init_6 : decode cX1_init 6 = .ok (.newarray .int, 2) := by decide +kernel
theorem dX1_init_8 : decode cX1_init 8 = .ok (.putfield 7, 3) := by decide +kernel
theorem dX1_init_11 : decode cX1_init 11 = .ok (.return_, 1) := by decide +kernel
theorem dX0_format_0 : decode cX0_format 0 = .ok (.aload_n 0, 1) := by decide +kernel
theorem dX0_format_1 : decode cX0_format 1 = .ok (.getfield 41, 3) := by decide +kernel
theorem dX0_format_4 : decode cX0_format 4 = .ok (.invokevirtual 45, 3) := by decide +kernel
theorem dX0_format_7 : decode cX0_format 7 = .ok (.aload_n 0, 1) := by decide +kernel
theorem dX0_format_8 : decode cX0_format 8 = .ok (.invokevirtual 48, 3) := by decide +kernel
theorem dX0_format_11 : decode cX0_format 11 = .ok (.iconst 0, 1) := by decide +kernel
theorem dX0_format_12 : decode cX0_format 12 = .ok (.ireturn, 1) := by decide +kernel
theorem dX1_wipe_0 : decode cX1_wipe 0 = .ok (.aload_n 0, 1) := by decide +kernel
theorem dX1_wipe_1 : decode cX1_wipe 1 = .ok (.getfield 7, 3) := by decide +kernel
theorem dX1_wipe_4 : decode cX1_wipe 4 = .ok (.iconst 0, 1) := by decide +kernel
theorem dX1_wipe_5 : decode cX1_wipe 5 = .ok (.invokestatic 13, 3) := by decide +kernel
theorem dX1_wipe_8 : decode cX1_wipe 8 = .ok (.aload_n 0, 1) := by decide +kernel
theorem dX1_wipe_9 : decode cX1_wipe 9 = .ok (.iconst 0, 1) := by decide +kernel
theorem dX1_wipe_10 : decode cX1_wipe 10 = .ok (.putfield 19, 3) := by decide +kernel
theorem dX1_wipe_13 : decode cX1_wipe 13 = .ok (.aload_n 0, 1) := by decide +kernel
theorem dX1_wipe_14 : decode cX1_wipe 14 = .ok (.iconst 0, 1) := by decide +kernel
theorem dX1_wipe_15 : decode cX1_wipe 15 = .ok (.putfield 23, 3) := by decide +kernel
theorem dX1_wipe_18 : decode cX1_wipe 18 = .ok (.return_, 1) := by decide +kernel
theorem dJ0_fill_0 : decode cJ0_fill 0 = .ok (.iconst 0, 1) := by decide +kernel
theorem dJ0_fill_1 : decode cJ0_fill 1 = .ok (.istore_n 2, 1) := by decide +kernel
theorem dJ0_fill_2 : decode cJ0_fill 2 = .ok (.aload_n 0, 1) := by decide +kernel
theorem dJ0_fill_3 : decode cJ0_fill 3 = .ok (.arraylength, 1) := by decide +kernel
theorem dJ0_fill_4 : decode cJ0_fill 4 = .ok (.istore_n 3, 1) := by decide +kernel
theorem dJ0_fill_5 : decode cJ0_fill 5 = .ok (.iload_n 2, 1) := by decide +kernel
theorem dJ0_fill_6 : decode cJ0_fill 6 = .ok (.iload_n 3, 1) := by decide +kernel
theorem dJ0_fill_7 : decode cJ0_fill 7 = .ok (.if_icmp .ge 13, 3) := by decide +kernel
theorem dJ0_fill_10 : decode cJ0_fill 10 = .ok (.aload_n 0, 1) := by decide +kernel
theorem dJ0_fill_11 : decode cJ0_fill 11 = .ok (.iload_n 2, 1) := by decide +kernel
theorem dJ0_fill_12 : decode cJ0_fill 12 = .ok (.iload_n 1, 1) := by decide +kernel
theorem dJ0_fill_13 : decode cJ0_fill 13 = .ok (.iastore, 1) := by decide +kernel
theorem dJ0_fill_14 : decode cJ0_fill 14 = .ok (.iinc 2 1, 3) := by decide +kernel
theorem dJ0_fill_17 : decode cJ0_fill 17 = .ok (.goto (-12), 3) := by decide +kernel
theorem dJ0_fill_20 : decode cJ0_fill 20 = .ok (.return_, 1) := by decide +kernel
theorem dX0_clearStaged_0 : decode cX0_clearStaged 0 = .ok (.aload_n 0, 1) := by decide +kernel
theorem dX0_clearStaged_1 : decode cX0_clearStaged 1 = .ok (.getfield 26, 3) := by decide +kernel
theorem dX0_clearStaged_4 : decode cX0_clearStaged 4 = .ok (.iconst 0, 1) := by decide +kernel
theorem dX0_clearStaged_5 : decode cX0_clearStaged 5 = .ok (.invokestatic 126, 3) := by decide +kernel
theorem dX0_clearStaged_8 : decode cX0_clearStaged 8 = .ok (.return_, 1) := by decide +kernel
theorem dX0_stageWord_0 : decode cX0_stageWord 0 = .ok (.aload_n 0, 1) := by decide +kernel
theorem dX0_stageWord_1 : decode cX0_stageWord 1 = .ok (.getfield 41, 3) := by decide +kernel
theorem dX0_stageWord_4 : decode cX0_stageWord 4 = .ok (.invokevirtual 51, 3) := by decide +kernel
theorem dX0_stageWord_7 : decode cX0_stageWord 7 = .ok (.ifCond .eq 6, 3) := by decide +kernel
theorem dX0_stageWord_10 : decode cX0_stageWord 10 = .ok (.bipush (-4), 2) := by decide +kernel
theorem dX0_stageWord_12 : decode cX0_stageWord 12 = .ok (.ireturn, 1) := by decide +kernel
theorem dX0_stageWord_13 : decode cX0_stageWord 13 = .ok (.aload_n 0, 1) := by decide +kernel
theorem dX0_stageWord_14 : decode cX0_stageWord 14 = .ok (.iload_n 1, 1) := by decide +kernel
theorem dX0_stageWord_15 : decode cX0_stageWord 15 = .ok (.invokevirtual 55, 3) := by decide +kernel
theorem dX0_stageWord_18 : decode cX0_stageWord 18 = .ok (.ifCond .ne 5, 3) := by decide +kernel
theorem dX0_stageWord_21 : decode cX0_stageWord 21 = .ok (.iconst (-1), 1) := by decide +kernel
theorem dX0_stageWord_22 : decode cX0_stageWord 22 = .ok (.ireturn, 1) := by decide +kernel
theorem dX0_stageWord_23 : decode cX0_stageWord 23 = .ok (.aload_n 0, 1) := by decide +kernel
theorem dX0_stageWord_24 : decode cX0_stageWord 24 = .ok (.getfield 26, 3) := by decide +kernel
theorem dX0_stageWord_27 : decode cX0_stageWord 27 = .ok (.iload_n 1, 1) := by decide +kernel
theorem dX0_stageWord_28 : decode cX0_stageWord 28 = .ok (.iload_n 2, 1) := by decide +kernel
theorem dX0_stageWord_29 : decode cX0_stageWord 29 = .ok (.iastore, 1) := by decide +kernel
theorem dX0_stageWord_30 : decode cX0_stageWord 30 = .ok (.iconst 0, 1) := by decide +kernel
theorem dX0_stageWord_31 : decode cX0_stageWord 31 = .ok (.ireturn, 1) := by decide +kernel
theorem dX1_isDown_0 : decode cX1_isDown 0 = .ok (.aload_n 0, 1) := by decide +kernel
theorem dX1_isDown_1 : decode cX1_isDown 1 = .ok (.getfield 23, 3) := by decide +kernel
theorem dX1_isDown_4 : decode cX1_isDown 4 = .ok (.ireturn, 1) := by decide +kernel
theorem dX0_isWord_0 : decode cX0_isWord 0 = .ok (.iload_n 1, 1) := by decide +kernel
theorem dX0_isWord_1 : decode cX0_isWord 1 = .ok (.ifCond .lt 15, 3) := by decide +kernel
theorem dX0_isWord_4 : decode cX0_isWord 4 = .ok (.iload_n 1, 1) := by decide +kernel
theorem dX0_isWord_5 : decode cX0_isWord 5 = .ok (.aload_n 0, 1) := by decide +kernel
theorem dX0_isWord_6 : decode cX0_isWord 6 = .ok (.getfield 13, 3) := by decide +kernel
theorem dX0_isWord_9 : decode cX0_isWord 9 = .ok (.if_icmp .ge 7, 3) := by decide +kernel
theorem dX0_isWord_12 : decode cX0_isWord 12 = .ok (.iconst 1, 1) := by decide +kernel
theorem dX0_isWord_13 : decode cX0_isWord 13 = .ok (.goto 4, 3) := by decide +kernel
theorem dX0_isWord_16 : decode cX0_isWord 16 = .ok (.iconst 0, 1) := by decide +kernel
theorem dX0_isWord_17 : decode cX0_isWord 17 = .ok (.ireturn, 1) := by decide +kernel
theorem dX0_writeBlock_0 : decode cX0_writeBlock 0 = .ok (.aload_n 0, 1) := by decide +kernel
theorem dX0_writeBlock_1 : decode cX0_writeBlock 1 = .ok (.getfield 41, 3) := by decide +kernel
theorem dX0_writeBlock_4 : decode cX0_writeBlock 4 = .ok (.invokevirtual 51, 3) := by decide +kernel
theorem dX0_writeBlock_7 : decode cX0_writeBlock 7 = .ok (.ifCond .eq 6, 3) := by decide +kernel
theorem dX0_writeBlock_10 : decode cX0_writeBlock 10 = .ok (.bipush (-4), 2) := by decide +kernel
theorem dX0_writeBlock_12 : decode cX0_writeBlock 12 = .ok (.ireturn, 1) := by decide +kernel
theorem dX0_writeBlock_13 : decode cX0_writeBlock 13 = .ok (.aload_n 0, 1) := by decide +kernel
theorem dX0_writeBlock_14 : decode cX0_writeBlock 14 = .ok (.iload_n 1, 1) := by decide +kernel
theorem dX0_writeBlock_15 : decode cX0_writeBlock 15 = .ok (.iload_n 2, 1) := by decide +kernel
theorem dX0_writeBlock_16 : decode cX0_writeBlock 16 = .ok (.invokevirtual 59, 3) := by decide +kernel
theorem dX0_writeBlock_19 : decode cX0_writeBlock 19 = .ok (.ifCond .ne 5, 3) := by decide +kernel
theorem dX0_writeBlock_22 : decode cX0_writeBlock 22 = .ok (.iconst (-1), 1) := by decide +kernel
theorem dX0_writeBlock_23 : decode cX0_writeBlock 23 = .ok (.ireturn, 1) := by decide +kernel
theorem dX0_writeBlock_24 : decode cX0_writeBlock 24 = .ok (.aload_n 0, 1) := by decide +kernel
theorem dX0_writeBlock_25 : decode cX0_writeBlock 25 = .ok (.invokevirtual 63, 3) := by decide +kernel
theorem dX0_writeBlock_28 : decode cX0_writeBlock 28 = .ok (.istore_n 3, 1) := by decide +kernel
theorem dX0_writeBlock_29 : decode cX0_writeBlock 29 = .ok (.iload_n 3, 1) := by decide +kernel
theorem dX0_writeBlock_30 : decode cX0_writeBlock 30 = .ok (.iconst (-1), 1) := by decide +kernel
theorem dX0_writeBlock_31 : decode cX0_writeBlock 31 = .ok (.if_icmp .ne 10, 3) := by decide +kernel
theorem dX0_writeBlock_34 : decode cX0_writeBlock 34 = .ok (.aload_n 0, 1) := by decide +kernel
theorem dX0_writeBlock_35 : decode cX0_writeBlock 35 = .ok (.iload_n 1, 1) := by decide +kernel
theorem dX0_writeBlock_36 : decode cX0_writeBlock 36 = .ok (.iload_n 2, 1) := by decide +kernel
theorem dX0_writeBlock_37 : decode cX0_writeBlock 37 = .ok (.invokevirtual 67, 3) := by decide +kernel
theorem dX0_writeBlock_40 : decode cX0_writeBlock 40 = .ok (.ireturn, 1) := by decide +kernel
theorem dX0_writeBlock_41 : decode cX0_writeBlock 41 = .ok (.iload_n 3, 1) := by decide +kernel
theorem dX0_writeBlock_42 : decode cX0_writeBlock 42 = .ok (.aload_n 0, 1) := by decide +kernel
theorem dX0_writeBlock_43 : decode cX0_writeBlock 43 = .ok (.iload_n 1, 1) := by decide +kernel
theorem dX0_writeBlock_44 : decode cX0_writeBlock 44 = .ok (.iload_n 2, 1) := by decide +kernel
theorem dX0_writeBlock_45 : decode cX0_writeBlock 45 = .ok (.invokevirtual 70, 3) := by decide +kernel
theorem dX0_writeBlock_48 : decode cX0_writeBlock 48 = .ok (.if_icmp .ne 5, 3) := by decide +kernel
theorem dX0_writeBlock_51 : decode cX0_writeBlock 51 = .ok (.iconst 0, 1) := by decide +kernel
theorem dX0_writeBlock_52 : decode cX0_writeBlock 52 = .ok (.ireturn, 1) := by decide +kernel
theorem dX0_writeBlock_53 : decode cX0_writeBlock 53 = .ok (.aload_n 0, 1) := by decide +kernel
theorem dX0_writeBlock_54 : decode cX0_writeBlock 54 = .ok (.iconst 1, 1) := by decide +kernel
theorem dX0_writeBlock_55 : decode cX0_writeBlock 55 = .ok (.iload_n 1, 1) := by decide +kernel
theorem dX0_writeBlock_56 : decode cX0_writeBlock 56 = .ok (.iload_n 2, 1) := by decide +kernel
theorem dX0_writeBlock_57 : decode cX0_writeBlock 57 = .ok (.iload_n 3, 1) := by decide +kernel
theorem dX0_writeBlock_58 : decode cX0_writeBlock 58 = .ok (.invokevirtual 73, 3) := by decide +kernel
theorem dX0_writeBlock_61 : decode cX0_writeBlock 61 = .ok (.ireturn, 1) := by decide +kernel
theorem dX0_isBlock_0 : decode cX0_isBlock 0 = .ok (.aload_n 0, 1) := by decide +kernel
theorem dX0_isBlock_1 : decode cX0_isBlock 1 = .ok (.iload_n 1, 1) := by decide +kernel
theorem dX0_isBlock_2 : decode cX0_isBlock 2 = .ok (.invokevirtual 84, 3) := by decide +kernel
theorem dX0_isBlock_5 : decode cX0_isBlock 5 = .ok (.ifCond .eq 19, 3) := by decide +kernel
theorem dX0_isBlock_8 : decode cX0_isBlock 8 = .ok (.iload_n 2, 1) := by decide +kernel
theorem dX0_isBlock_9 : decode cX0_isBlock 9 = .ok (.ifCond .lt 15, 3) := by decide +kernel
theorem dX0_isBlock_12 : decode cX0_isBlock 12 = .ok (.iload_n 2, 1) := by decide +kernel
theorem dX0_isBlock_13 : decode cX0_isBlock 13 = .ok (.aload_n 0, 1) := by decide +kernel
theorem dX0_isBlock_14 : decode cX0_isBlock 14 = .ok (.getfield 23, 3) := by decide +kernel
theorem dX0_isBlock_17 : decode cX0_isBlock 17 = .ok (.if_icmp .ge 7, 3) := by decide +kernel
theorem dX0_isBlock_20 : decode cX0_isBlock 20 = .ok (.iconst 1, 1) := by decide +kernel
theorem dX0_isBlock_21 : decode cX0_isBlock 21 = .ok (.goto 4, 3) := by decide +kernel
theorem dX0_isBlock_24 : decode cX0_isBlock 24 = .ok (.iconst 0, 1) := by decide +kernel
theorem dX0_isBlock_25 : decode cX0_isBlock 25 = .ok (.ireturn, 1) := by decide +kernel
theorem dX0_isVolume_0 : decode cX0_isVolume 0 = .ok (.iload_n 1, 1) := by decide +kernel
theorem dX0_isVolume_1 : decode cX0_isVolume 1 = .ok (.ifCond .lt 15, 3) := by decide +kernel
theorem dX0_isVolume_4 : decode cX0_isVolume 4 = .ok (.iload_n 1, 1) := by decide +kernel
theorem dX0_isVolume_5 : decode cX0_isVolume 5 = .ok (.aload_n 0, 1) := by decide +kernel
theorem dX0_isVolume_6 : decode cX0_isVolume 6 = .ok (.getfield 20, 3) := by decide +kernel
theorem dX0_isVolume_9 : decode cX0_isVolume 9 = .ok (.if_icmp .ge 7, 3) := by decide +kernel
theorem dX0_isVolume_12 : decode cX0_isVolume 12 = .ok (.iconst 1, 1) := by decide +kernel
theorem dX0_isVolume_13 : decode cX0_isVolume 13 = .ok (.goto 4, 3) := by decide +kernel
theorem dX0_isVolume_16 : decode cX0_isVolume 16 = .ok (.iconst 0, 1) := by decide +kernel
theorem dX0_isVolume_17 : decode cX0_isVolume 17 = .ok (.ireturn, 1) := by decide +kernel
theorem dX0_usedSlotWithStaged_0 : decode cX0_usedSlotWithStaged 0 = .ok (.iconst 0, 1) := by decide +kernel
theorem dX0_usedSlotWithStaged_1 : decode cX0_usedSlotWithStaged 1 = .ok (.istore_n 1, 1) := by decide +kernel
theorem dX0_usedSlotWithStaged_2 : decode cX0_usedSlotWithStaged 2 = .ok (.iload_n 1, 1) := by decide +kernel
theorem dX0_usedSlotWithStaged_3 : decode cX0_usedSlotWithStaged 3 = .ok (.aload_n 0, 1) := by decide +kernel
theorem dX0_usedSlotWithStaged_4 : decode cX0_usedSlotWithStaged 4 = .ok (.getfield 17, 3) := by decide +kernel
theorem dX0_usedSlotWithStaged_7 : decode cX0_usedSlotWithStaged 7 = .ok (.if_icmp .gt 27, 3) := by decide +kernel
theorem dX0_usedSlotWithStaged_10 : decode cX0_usedSlotWithStaged 10 = .ok (.aload_n 0, 1) := by decide +kernel
theorem dX0_usedSlotWithStaged_11 : decode cX0_usedSlotWithStaged 11 = .ok (.iload_n 1, 1) := by decide +kernel
theorem dX0_usedSlotWithStaged_12 : decode cX0_usedSlotWithStaged 12 = .ok (.invokevirtual 123, 3) := by decide +kernel
theorem dX0_usedSlotWithStaged_15 : decode cX0_usedSlotWithStaged 15 = .ok (.ifCond .eq 13, 3) := by decide +kernel
theorem dX0_usedSlotWithStaged_18 : decode cX0_usedSlotWithStaged 18 = .ok (.aload_n 0, 1) := by decide +kernel
theorem dX0_usedSlotWithStaged_19 : decode cX0_usedSlotWithStaged 19 = .ok (.iload_n 1, 1) := by decide +kernel
theorem dX0_usedSlotWithStaged_20 : decode cX0_usedSlotWithStaged 20 = .ok (.invokevirtual 120, 3) := by decide +kernel
theorem dX0_usedSlotWithStaged_23 : decode cX0_usedSlotWithStaged 23 = .ok (.ifCond .eq 5, 3) := by decide +kernel
theorem dX0_usedSlotWithStaged_26 : decode cX0_usedSlotWithStaged 26 = .ok (.iload_n 1, 1) := by decide +kernel
theorem dX0_usedSlotWithStaged_27 : decode cX0_usedSlotWithStaged 27 = .ok (.ireturn, 1) := by decide +kernel
theorem dX0_usedSlotWithStaged_28 : decode cX0_usedSlotWithStaged 28 = .ok (.iinc 1 1, 3) := by decide +kernel
theorem dX0_usedSlotWithStaged_31 : decode cX0_usedSlotWithStaged 31 = .ok (.goto (-29), 3) := by decide +kernel
theorem dX0_usedSlotWithStaged_34 : decode cX0_usedSlotWithStaged 34 = .ok (.iconst (-1), 1) := by decide +kernel
theorem dX0_usedSlotWithStaged_35 : decode cX0_usedSlotWithStaged 35 = .ok (.ireturn, 1) := by decide +kernel
theorem dX0_hasStagedWords_0 : decode cX0_hasStagedWords 0 = .ok (.iconst 0, 1) := by decide +kernel
theorem dX0_hasStagedWords_1 : decode cX0_hasStagedWords 1 = .ok (.istore_n 2, 1) := by decide +kernel
theorem dX0_hasStagedWords_2 : decode cX0_hasStagedWords 2 = .ok (.iload_n 2, 1) := by decide +kernel
theorem dX0_hasStagedWords_3 : decode cX0_hasStagedWords 3 = .ok (.aload_n 0, 1) := by decide +kernel
theorem dX0_hasStagedWords_4 : decode cX0_hasStagedWords 4 = .ok (.getfield 13, 3) := by decide +kernel
theorem dX0_hasStagedWords_7 : decode cX0_hasStagedWords 7 = .ok (.if_icmp .ge 33, 3) := by decide +kernel
theorem dX0_hasStagedWords_10 : decode cX0_hasStagedWords 10 = .ok (.aload_n 0, 1) := by decide +kernel
theorem dX0_hasStagedWords_11 : decode cX0_hasStagedWords 11 = .ok (.getfield 41, 3) := by decide +kernel
theorem dX0_hasStagedWords_14 : decode cX0_hasStagedWords 14 = .ok (.aload_n 0, 1) := by decide +kernel
theorem dX0_hasStagedWords_15 : decode cX0_hasStagedWords 15 = .ok (.iload_n 1, 1) := by decide +kernel
theorem dX0_hasStagedWords_16 : decode cX0_hasStagedWords 16 = .ok (.iload_n 2, 1) := by decide +kernel
theorem dX0_hasStagedWords_17 : decode cX0_hasStagedWords 17 = .ok (.invokevirtual 77, 3) := by decide +kernel
theorem dX0_hasStagedWords_20 : decode cX0_hasStagedWords 20 = .ok (.invokevirtual 80, 3) := by decide +kernel
theorem dX0_hasStagedWords_23 : decode cX0_hasStagedWords 23 = .ok (.aload_n 0, 1) := by decide +kernel
theorem dX0_hasStagedWords_24 : decode cX0_hasStagedWords 24 = .ok (.getfield 26, 3) := by decide +kernel
theorem dX0_hasStagedWords_27 : decode cX0_hasStagedWords 27 = .ok (.iload_n 2, 1) := by decide +kernel
theorem dX0_hasStagedWords_28 : decode cX0_hasStagedWords 28 = .ok (.iaload, 1) := by decide +kernel
theorem dX0_hasStagedWords_29 : decode cX0_hasStagedWords 29 = .ok (.if_icmp .eq 5, 3) := by decide +kernel
theorem dX0_hasStagedWords_32 : decode cX0_hasStagedWords 32 = .ok (.iconst 0, 1) := by decide +kernel
theorem dX0_hasStagedWords_33 : decode cX0_hasStagedWords 33 = .ok (.ireturn, 1) := by decide +kernel
theorem dX0_hasStagedWords_34 : decode cX0_hasStagedWords 34 = .ok (.iinc 2 1, 3) := by decide +kernel
theorem dX0_hasStagedWords_37 : decode cX0_hasStagedWords 37 = .ok (.goto (-35), 3) := by decide +kernel
theorem dX0_hasStagedWords_40 : decode cX0_hasStagedWords 40 = .ok (.iconst 1, 1) := by decide +kernel
theorem dX0_hasStagedWords_41 : decode cX0_hasStagedWords 41 = .ok (.ireturn, 1) := by decide +kernel
theorem dX0_slotCell_0 : decode cX0_slotCell 0 = .ok (.iload_n 1, 1) := by decide +kernel
theorem dX0_slotCell_1 : decode cX0_slotCell 1 = .ok (.aload_n 0, 1) := by decide +kernel
theorem dX0_slotCell_2 : decode cX0_slotCell 2 = .ok (.getfield 13, 3) := by decide +kernel
theorem dX0_slotCell_5 : decode cX0_slotCell 5 = .ok (.imul, 1) := by decide +kernel
theorem dX0_slotCell_6 : decode cX0_slotCell 6 = .ok (.iload_n 2, 1) := by decide +kernel
theorem dX0_slotCell_7 : decode cX0_slotCell 7 = .ok (.iadd, 1) := by decide +kernel
theorem dX0_slotCell_8 : decode cX0_slotCell 8 = .ok (.ireturn, 1) := by decide +kernel
theorem dX1_read_0 : decode cX1_read 0 = .ok (.aload_n 0, 1) := by decide +kernel
theorem dX1_read_1 : decode cX1_read 1 = .ok (.getfield 7, 3) := by decide +kernel
theorem dX1_read_4 : decode cX1_read 4 = .ok (.iload_n 1, 1) := by decide +kernel
theorem dX1_read_5 : decode cX1_read 5 = .ok (.iaload, 1) := by decide +kernel
theorem dX1_read_6 : decode cX1_read 6 = .ok (.ireturn, 1) := by decide +kernel
theorem dX0_isUsed_0 : decode cX0_isUsed 0 = .ok (.aload_n 0, 1) := by decide +kernel
theorem dX0_isUsed_1 : decode cX0_isUsed 1 = .ok (.iload_n 1, 1) := by decide +kernel
theorem dX0_isUsed_2 : decode cX0_isUsed 2 = .ok (.invokevirtual 90, 3) := by decide +kernel
theorem dX0_isUsed_5 : decode cX0_isUsed 5 = .ok (.ifCond .le 7, 3) := by decide +kernel
theorem dX0_isUsed_8 : decode cX0_isUsed 8 = .ok (.iconst 1, 1) := by decide +kernel
theorem dX0_isUsed_9 : decode cX0_isUsed 9 = .ok (.goto 4, 3) := by decide +kernel
theorem dX0_isUsed_12 : decode cX0_isUsed 12 = .ok (.iconst 0, 1) := by decide +kernel
theorem dX0_isUsed_13 : decode cX0_isUsed 13 = .ok (.ireturn, 1) := by decide +kernel
theorem dX0_blocksMappedTo_0 : decode cX0_blocksMappedTo 0 = .ok (.iconst 0, 1) := by decide +kernel
theorem dX0_blocksMappedTo_1 : decode cX0_blocksMappedTo 1 = .ok (.istore_n 2, 1) := by decide +kernel
theorem dX0_blocksMappedTo_2 : decode cX0_blocksMappedTo 2 = .ok (.aload_n 0, 1) := by decide +kernel
theorem dX0_blocksMappedTo_3 : decode cX0_blocksMappedTo 3 = .ok (.getfield 30, 3) := by decide +kernel
theorem dX0_blocksMappedTo_6 : decode cX0_blocksMappedTo 6 = .ok (.istore_n 3, 1) := by decide +kernel
theorem dX0_blocksMappedTo_7 : decode cX0_blocksMappedTo 7 = .ok (.iload_n 3, 1) := by decide +kernel
theorem dX0_blocksMappedTo_8 : decode cX0_blocksMappedTo 8 = .ok (.aload_n 0, 1) := by decide +kernel
theorem dX0_blocksMappedTo_9 : decode cX0_blocksMappedTo 9 = .ok (.getfield 33, 3) := by decide +kernel
theorem dX0_blocksMappedTo_12 : decode cX0_blocksMappedTo 12 = .ok (.if_icmp .ge 26, 3) := by decide +kernel
theorem dX0_blocksMappedTo_15 : decode cX0_blocksMappedTo 15 = .ok (.aload_n 0, 1) := by decide +kernel
theorem dX0_blocksMappedTo_16 : decode cX0_blocksMappedTo 16 = .ok (.getfield 41, 3) := by decide +kernel
theorem dX0_blocksMappedTo_19 : decode cX0_blocksMappedTo 19 = .ok (.iload_n 3, 1) := by decide +kernel
theorem dX0_blocksMappedTo_20 : decode cX0_blocksMappedTo 20 = .ok (.invokevirtual 80, 3) := by decide +kernel
theorem dX0_blocksMappedTo_23 : decode cX0_blocksMappedTo 23 = .ok (.iload_n 1, 1) := by decide +kernel
theorem dX0_blocksMappedTo_24 : decode cX0_blocksMappedTo 24 = .ok (.iconst 1, 1) := by decide +kernel
theorem dX0_blocksMappedTo_25 : decode cX0_blocksMappedTo 25 = .ok (.iadd, 1) := by decide +kernel
theorem dX0_blocksMappedTo_26 : decode cX0_blocksMappedTo 26 = .ok (.if_icmp .ne 6, 3) := by decide +kernel
theorem dX0_blocksMappedTo_29 : decode cX0_blocksMappedTo 29 = .ok (.iinc 2 1, 3) := by decide +kernel
theorem dX0_blocksMappedTo_32 : decode cX0_blocksMappedTo 32 = .ok (.iinc 3 1, 3) := by decide +kernel
theorem dX0_blocksMappedTo_35 : decode cX0_blocksMappedTo 35 = .ok (.goto (-28), 3) := by decide +kernel
theorem dX0_blocksMappedTo_38 : decode cX0_blocksMappedTo 38 = .ok (.iload_n 2, 1) := by decide +kernel
theorem dX0_blocksMappedTo_39 : decode cX0_blocksMappedTo 39 = .ok (.ireturn, 1) := by decide +kernel
theorem dX0_writeNewContents_0 : decode cX0_writeNewContents 0 = .ok (.aload_n 0, 1) := by decide +kernel
theorem dX0_writeNewContents_1 : decode cX0_writeNewContents 1 = .ok (.iload_n 1, 1) := by decide +kernel
theorem dX0_writeNewContents_2 : decode cX0_writeNewContents 2 = .ok (.iload_n 2, 1) := by decide +kernel
theorem dX0_writeNewContents_3 : decode cX0_writeNewContents 3 = .ok (.invokevirtual 132, 3) := by decide +kernel
theorem dX0_writeNewContents_6 : decode cX0_writeNewContents 6 = .ok (.aload_n 0, 1) := by decide +kernel
theorem dX0_writeNewContents_7 : decode cX0_writeNewContents 7 = .ok (.getfield 17, 3) := by decide +kernel
theorem dX0_writeNewContents_10 : decode cX0_writeNewContents 10 = .ok (.if_icmp .lt 6, 3) := by decide +kernel
theorem dX0_writeNewContents_13 : decode cX0_writeNewContents 13 = .ok (.bipush (-2), 2) := by decide +kernel
theorem dX0_writeNewContents_15 : decode cX0_writeNewContents 15 = .ok (.ireturn, 1) := by decide +kernel
theorem dX0_writeNewContents_16 : decode cX0_writeNewContents 16 = .ok (.aload_n 0, 1) := by decide +kernel
theorem dX0_writeNewContents_17 : decode cX0_writeNewContents 17 = .ok (.invokevirtual 135, 3) := by decide +kernel
theorem dX0_writeNewContents_20 : decode cX0_writeNewContents 20 = .ok (.istore_n 3, 1) := by decide +kernel
theorem dX0_writeNewContents_21 : decode cX0_writeNewContents 21 = .ok (.iconst 0, 1) := by decide +kernel
theorem dX0_writeNewContents_22 : decode cX0_writeNewContents 22 = .ok (.istore 4, 2) := by decide +kernel
theorem dX0_writeNewContents_24 : decode cX0_writeNewContents 24 = .ok (.iload 4, 2) := by decide +kernel
theorem dX0_writeNewContents_26 : decode cX0_writeNewContents 26 = .ok (.aload_n 0, 1) := by decide +kernel
theorem dX0_writeNewContents_27 : decode cX0_writeNewContents 27 = .ok (.getfield 13, 3) := by decide +kernel
theorem dX0_writeNewContents_30 : decode cX0_writeNewContents 30 = .ok (.if_icmp .ge 30, 3) := by decide +kernel
theorem dX0_writeNewContents_33 : decode cX0_writeNewContents 33 = .ok (.aload_n 0, 1) := by decide +kernel
theorem dX0_writeNewContents_34 : decode cX0_writeNewContents 34 = .ok (.getfield 41, 3) := by decide +kernel
theorem dX0_writeNewContents_37 : decode cX0_writeNewContents 37 = .ok (.aload_n 0, 1) := by decide +kernel
theorem dX0_writeNewContents_38 : decode cX0_writeNewContents 38 = .ok (.iload_n 3, 1) := by decide +kernel
theorem dX0_writeNewContents_39 : decode cX0_writeNewContents 39 = .ok (.iload 4, 2) := by decide +kernel
theorem dX0_writeNewContents_41 : decode cX0_writeNewContents 41 = .ok (.invokevirtual 77, 3) := by decide +kernel
theorem dX0_writeNewContents_44 : decode cX0_writeNewContents 44 = .ok (.aload_n 0, 1) := by decide +kernel
theorem dX0_writeNewContents_45 : decode cX0_writeNewContents 45 = .ok (.getfield 26, 3) := by decide +kernel
theorem dX0_writeNewContents_48 : decode cX0_writeNewContents 48 = .ok (.iload 4, 2) := by decide +kernel
theorem dX0_writeNewContents_50 : decode cX0_writeNewContents 50 = .ok (.iaload, 1) := by decide +kernel
theorem dX0_writeNewContents_51 : decode cX0_writeNewContents 51 = .ok (.invokevirtual 116, 3) := by decide +kernel
theorem dX0_writeNewContents_54 : decode cX0_writeNewContents 54 = .ok (.iinc 4 1, 3) := by decide +kernel
theorem dX0_writeNewContents_57 : decode cX0_writeNewContents 57 = .ok (.goto (-33), 3) := by decide +kernel
theorem dX0_writeNewContents_60 : decode cX0_writeNewContents 60 = .ok (.aload_n 0, 1) := by decide +kernel
theorem dX0_writeNewContents_61 : decode cX0_writeNewContents 61 = .ok (.iconst 1, 1) := by decide +kernel
theorem dX0_writeNewContents_62 : decode cX0_writeNewContents 62 = .ok (.iload_n 1, 1) := by decide +kernel
theorem dX0_writeNewContents_63 : decode cX0_writeNewContents 63 = .ok (.iload_n 2, 1) := by decide +kernel
theorem dX0_writeNewContents_64 : decode cX0_writeNewContents 64 = .ok (.iload_n 3, 1) := by decide +kernel
theorem dX0_writeNewContents_65 : decode cX0_writeNewContents 65 = .ok (.invokevirtual 73, 3) := by decide +kernel
theorem dX0_writeNewContents_68 : decode cX0_writeNewContents 68 = .ok (.ireturn, 1) := by decide +kernel
theorem dX0_usedSlotsWithout_0 : decode cX0_usedSlotsWithout 0 = .ok (.aload_n 0, 1) := by decide +kernel
theorem dX0_usedSlotsWithout_1 : decode cX0_usedSlotsWithout 1 = .ok (.iload_n 1, 1) := by decide +kernel
theorem dX0_usedSlotsWithout_2 : decode cX0_usedSlotsWithout 2 = .ok (.iload_n 2, 1) := by decide +kernel
theorem dX0_usedSlotsWithout_3 : decode cX0_usedSlotsWithout 3 = .ok (.invokevirtual 70, 3) := by decide +kernel
theorem dX0_usedSlotsWithout_6 : decode cX0_usedSlotsWithout 6 = .ok (.istore_n 3, 1) := by decide +kernel
theorem dX0_usedSlotsWithout_7 : decode cX0_usedSlotsWithout 7 = .ok (.iload_n 3, 1) := by decide +kernel
theorem dX0_usedSlotsWithout_8 : decode cX0_usedSlotsWithout 8 = .ok (.iconst (-1), 1) := by decide +kernel
theorem dX0_usedSlotsWithout_9 : decode cX0_usedSlotsWithout 9 = .ok (.if_icmp .eq 16, 3) := by decide +kernel
theorem dX0_usedSlotsWithout_12 : decode cX0_usedSlotsWithout 12 = .ok (.aload_n 0, 1) := by decide +kernel
theorem dX0_usedSlotsWithout_13 : decode cX0_usedSlotsWithout 13 = .ok (.iload_n 3, 1) := by decide +kernel
theorem dX0_usedSlotsWithout_14 : decode cX0_usedSlotsWithout 14 = .ok (.invokevirtual 90, 3) := by decide +kernel
theorem dX0_usedSlotsWithout_17 : decode cX0_usedSlotsWithout 17 = .ok (.iconst 1, 1) := by decide +kernel
theorem dX0_usedSlotsWithout_18 : decode cX0_usedSlotsWithout 18 = .ok (.if_icmp .ne 7, 3) := by decide +kernel
theorem dX0_usedSlotsWithout_21 : decode cX0_usedSlotsWithout 21 = .ok (.iconst 1, 1) := by decide +kernel
theorem dX0_usedSlotsWithout_22 : decode cX0_usedSlotsWithout 22 = .ok (.goto 4, 3) := by decide +kernel
theorem dX0_usedSlotsWithout_25 : decode cX0_usedSlotsWithout 25 = .ok (.iconst 0, 1) := by decide +kernel
theorem dX0_usedSlotsWithout_26 : decode cX0_usedSlotsWithout 26 = .ok (.istore 4, 2) := by decide +kernel
theorem dX0_usedSlotsWithout_28 : decode cX0_usedSlotsWithout 28 = .ok (.iload 4, 2) := by decide +kernel
theorem dX0_usedSlotsWithout_30 : decode cX0_usedSlotsWithout 30 = .ok (.ifCond .eq 12, 3) := by decide +kernel
theorem dX0_usedSlotsWithout_33 : decode cX0_usedSlotsWithout 33 = .ok (.aload_n 0, 1) := by decide +kernel
theorem dX0_usedSlotsWithout_34 : decode cX0_usedSlotsWithout 34 = .ok (.invokevirtual 87, 3) := by decide +kernel
theorem dX0_usedSlotsWithout_37 : decode cX0_usedSlotsWithout 37 = .ok (.iconst 1, 1) := by decide +kernel
theorem dX0_usedSlotsWithout_38 : decode cX0_usedSlotsWithout 38 = .ok (.isub, 1) := by decide +kernel
theorem dX0_usedSlotsWithout_39 : decode cX0_usedSlotsWithout 39 = .ok (.goto 7, 3) := by decide +kernel
theorem dX0_usedSlotsWithout_42 : decode cX0_usedSlotsWithout 42 = .ok (.aload_n 0, 1) := by decide +kernel
theorem dX0_usedSlotsWithout_43 : decode cX0_usedSlotsWithout 43 = .ok (.invokevirtual 87, 3) := by decide +kernel
theorem dX0_usedSlotsWithout_46 : decode cX0_usedSlotsWithout 46 = .ok (.ireturn, 1) := by decide +kernel
theorem dX0_mappedSlot_0 : decode cX0_mappedSlot 0 = .ok (.aload_n 0, 1) := by decide +kernel
theorem dX0_mappedSlot_1 : decode cX0_mappedSlot 1 = .ok (.getfield 41, 3) := by decide +kernel
theorem dX0_mappedSlot_4 : decode cX0_mappedSlot 4 = .ok (.aload_n 0, 1) := by decide +kernel
theorem dX0_mappedSlot_5 : decode cX0_mappedSlot 5 = .ok (.iload_n 1, 1) := by decide +kernel
theorem dX0_mappedSlot_6 : decode cX0_mappedSlot 6 = .ok (.iload_n 2, 1) := by decide +kernel
theorem dX0_mappedSlot_7 : decode cX0_mappedSlot 7 = .ok (.invokevirtual 113, 3) := by decide +kernel
theorem dX0_mappedSlot_10 : decode cX0_mappedSlot 10 = .ok (.invokevirtual 80, 3) := by decide +kernel
theorem dX0_mappedSlot_13 : decode cX0_mappedSlot 13 = .ok (.iconst 1, 1) := by decide +kernel
theorem dX0_mappedSlot_14 : decode cX0_mappedSlot 14 = .ok (.isub, 1) := by decide +kernel
theorem dX0_mappedSlot_15 : decode cX0_mappedSlot 15 = .ok (.ireturn, 1) := by decide +kernel
theorem dX0_mapCell_0 : decode cX0_mapCell 0 = .ok (.aload_n 0, 1) := by decide +kernel
theorem dX0_mapCell_1 : decode cX0_mapCell 1 = .ok (.getfield 30, 3) := by decide +kernel
theorem dX0_mapCell_4 : decode cX0_mapCell 4 = .ok (.iload_n 1, 1) := by decide +kernel
theorem dX0_mapCell_5 : decode cX0_mapCell 5 = .ok (.aload_n 0, 1) := by decide +kernel
theorem dX0_mapCell_6 : decode cX0_mapCell 6 = .ok (.getfield 23, 3) := by decide +kernel
theorem dX0_mapCell_9 : decode cX0_mapCell 9 = .ok (.imul, 1) := by decide +kernel
theorem dX0_mapCell_10 : decode cX0_mapCell 10 = .ok (.iadd, 1) := by decide +kernel
theorem dX0_mapCell_11 : decode cX0_mapCell 11 = .ok (.iload_n 2, 1) := by decide +kernel
theorem dX0_mapCell_12 : decode cX0_mapCell 12 = .ok (.iadd, 1) := by decide +kernel
theorem dX0_mapCell_13 : decode cX0_mapCell 13 = .ok (.ireturn, 1) := by decide +kernel
theorem dX0_usedSlots_0 : decode cX0_usedSlots 0 = .ok (.iconst 0, 1) := by decide +kernel
theorem dX0_usedSlots_1 : decode cX0_usedSlots 1 = .ok (.istore_n 1, 1) := by decide +kernel
theorem dX0_usedSlots_2 : decode cX0_usedSlots 2 = .ok (.iconst 0, 1) := by decide +kernel
theorem dX0_usedSlots_3 : decode cX0_usedSlots 3 = .ok (.istore_n 2, 1) := by decide +kernel
theorem dX0_usedSlots_4 : decode cX0_usedSlots 4 = .ok (.iload_n 2, 1) := by decide +kernel
theorem dX0_usedSlots_5 : decode cX0_usedSlots 5 = .ok (.aload_n 0, 1) := by decide +kernel
theorem dX0_usedSlots_6 : decode cX0_usedSlots 6 = .ok (.getfield 17, 3) := by decide +kernel
theorem dX0_usedSlots_9 : decode cX0_usedSlots 9 = .ok (.if_icmp .gt 20, 3) := by decide +kernel
theorem dX0_usedSlots_12 : decode cX0_usedSlots 12 = .ok (.aload_n 0, 1) := by decide +kernel
theorem dX0_usedSlots_13 : decode cX0_usedSlots 13 = .ok (.iload_n 2, 1) := by decide +kernel
theorem dX0_usedSlots_14 : decode cX0_usedSlots 14 = .ok (.invokevirtual 120, 3) := by decide +kernel
theorem dX0_usedSlots_17 : decode cX0_usedSlots 17 = .ok (.ifCond .eq 6, 3) := by decide +kernel
theorem dX0_usedSlots_20 : decode cX0_usedSlots 20 = .ok (.iinc 1 1, 3) := by decide +kernel
theorem dX0_usedSlots_23 : decode cX0_usedSlots 23 = .ok (.iinc 2 1, 3) := by decide +kernel
theorem dX0_usedSlots_26 : decode cX0_usedSlots 26 = .ok (.goto (-22), 3) := by decide +kernel
theorem dX0_usedSlots_29 : decode cX0_usedSlots 29 = .ok (.iload_n 1, 1) := by decide +kernel
theorem dX0_usedSlots_30 : decode cX0_usedSlots 30 = .ok (.ireturn, 1) := by decide +kernel
theorem dX0_lowestUnusedSlot_0 : decode cX0_lowestUnusedSlot 0 = .ok (.iconst 0, 1) := by decide +kernel
theorem dX0_lowestUnusedSlot_1 : decode cX0_lowestUnusedSlot 1 = .ok (.istore_n 1, 1) := by decide +kernel
theorem dX0_lowestUnusedSlot_2 : decode cX0_lowestUnusedSlot 2 = .ok (.iload_n 1, 1) := by decide +kernel
theorem dX0_lowestUnusedSlot_3 : decode cX0_lowestUnusedSlot 3 = .ok (.aload_n 0, 1) := by decide +kernel
theorem dX0_lowestUnusedSlot_4 : decode cX0_lowestUnusedSlot 4 = .ok (.getfield 17, 3) := by decide +kernel
theorem dX0_lowestUnusedSlot_7 : decode cX0_lowestUnusedSlot 7 = .ok (.if_icmp .ge 17, 3) := by decide +kernel
theorem dX0_lowestUnusedSlot_10 : decode cX0_lowestUnusedSlot 10 = .ok (.aload_n 0, 1) := by decide +kernel
theorem dX0_lowestUnusedSlot_11 : decode cX0_lowestUnusedSlot 11 = .ok (.iload_n 1, 1) := by decide +kernel
theorem dX0_lowestUnusedSlot_12 : decode cX0_lowestUnusedSlot 12 = .ok (.invokevirtual 120, 3) := by decide +kernel
theorem dX0_lowestUnusedSlot_15 : decode cX0_lowestUnusedSlot 15 = .ok (.ifCond .eq 9, 3) := by decide +kernel
theorem dX0_lowestUnusedSlot_18 : decode cX0_lowestUnusedSlot 18 = .ok (.iinc 1 1, 3) := by decide +kernel
theorem dX0_lowestUnusedSlot_21 : decode cX0_lowestUnusedSlot 21 = .ok (.goto (-19), 3) := by decide +kernel
theorem dX0_lowestUnusedSlot_24 : decode cX0_lowestUnusedSlot 24 = .ok (.iload_n 1, 1) := by decide +kernel
theorem dX0_lowestUnusedSlot_25 : decode cX0_lowestUnusedSlot 25 = .ok (.ireturn, 1) := by decide +kernel
theorem dX1_write_0 : decode cX1_write 0 = .ok (.aload_n 0, 1) := by decide +kernel
theorem dX1_write_1 : decode cX1_write 1 = .ok (.getfield 23, 3) := by decide +kernel
theorem dX1_write_4 : decode cX1_write 4 = .ok (.ifCond .eq 4, 3) := by decide +kernel
theorem dX1_write_7 : decode cX1_write 7 = .ok (.return_, 1) := by decide +kernel
theorem dX1_write_8 : decode cX1_write 8 = .ok (.aload_n 0, 1) := by decide +kernel
theorem dX1_write_9 : decode cX1_write 9 = .ok (.getfield 19, 3) := by decide +kernel
theorem dX1_write_12 : decode cX1_write 12 = .ok (.ifCond .eq 29, 3) := by decide +kernel
theorem dX1_write_15 : decode cX1_write 15 = .ok (.aload_n 0, 1) := by decide +kernel
theorem dX1_write_16 : decode cX1_write 16 = .ok (.dup, 1) := by decide +kernel
theorem dX1_write_17 : decode cX1_write 17 = .ok (.getfield 19, 3) := by decide +kernel
theorem dX1_write_20 : decode cX1_write 20 = .ok (.iconst 1, 1) := by decide +kernel
theorem dX1_write_21 : decode cX1_write 21 = .ok (.isub, 1) := by decide +kernel
theorem dX1_write_22 : decode cX1_write 22 = .ok (.putfield 19, 3) := by decide +kernel
theorem dX1_write_25 : decode cX1_write 25 = .ok (.aload_n 0, 1) := by decide +kernel
theorem dX1_write_26 : decode cX1_write 26 = .ok (.aload_n 0, 1) := by decide +kernel
theorem dX1_write_27 : decode cX1_write 27 = .ok (.getfield 19, 3) := by decide +kernel
theorem dX1_write_30 : decode cX1_write 30 = .ok (.ifCond .ne 7, 3) := by decide +kernel
theorem dX1_write_33 : decode cX1_write 33 = .ok (.iconst 1, 1) := by decide +kernel
theorem dX1_write_34 : decode cX1_write 34 = .ok (.goto 4, 3) := by decide +kernel
theorem dX1_write_37 : decode cX1_write 37 = .ok (.iconst 0, 1) := by decide +kernel
theorem dX1_write_38 : decode cX1_write 38 = .ok (.putfield 23, 3) := by decide +kernel
theorem dX1_write_41 : decode cX1_write 41 = .ok (.aload_n 0, 1) := by decide +kernel
theorem dX1_write_42 : decode cX1_write 42 = .ok (.getfield 23, 3) := by decide +kernel
theorem dX1_write_45 : decode cX1_write 45 = .ok (.ifCond .ne 20, 3) := by decide +kernel
theorem dX1_write_48 : decode cX1_write 48 = .ok (.aload_n 0, 1) := by decide +kernel
theorem dX1_write_49 : decode cX1_write 49 = .ok (.getfield 7, 3) := by decide +kernel
theorem dX1_write_52 : decode cX1_write 52 = .ok (.iload_n 1, 1) := by decide +kernel
theorem dX1_write_53 : decode cX1_write 53 = .ok (.iload_n 2, 1) := by decide +kernel
theorem dX1_write_54 : decode cX1_write 54 = .ok (.iastore, 1) := by decide +kernel
theorem dX1_write_55 : decode cX1_write 55 = .ok (.aload_n 0, 1) := by decide +kernel
theorem dX1_write_56 : decode cX1_write 56 = .ok (.dup, 1) := by decide +kernel
theorem dX1_write_57 : decode cX1_write 57 = .ok (.getfield 27, 3) := by decide +kernel
theorem dX1_write_60 : decode cX1_write 60 = .ok (.iconst 1, 1) := by decide +kernel
theorem dX1_write_61 : decode cX1_write 61 = .ok (.iadd, 1) := by decide +kernel
theorem dX1_write_62 : decode cX1_write 62 = .ok (.putfield 27, 3) := by decide +kernel
theorem dX1_write_65 : decode cX1_write 65 = .ok (.return_, 1) := by decide +kernel
theorem dX0_change_0 : decode cX0_change 0 = .ok (.aload_n 0, 1) := by decide +kernel
theorem dX0_change_1 : decode cX0_change 1 = .ok (.getfield 41, 3) := by decide +kernel
theorem dX0_change_4 : decode cX0_change 4 = .ok (.aload_n 0, 1) := by decide +kernel
theorem dX0_change_5 : decode cX0_change 5 = .ok (.getfield 33, 3) := by decide +kernel
theorem dX0_change_8 : decode cX0_change 8 = .ok (.iload_n 2, 1) := by decide +kernel
theorem dX0_change_9 : decode cX0_change 9 = .ok (.invokevirtual 116, 3) := by decide +kernel
theorem dX0_change_12 : decode cX0_change 12 = .ok (.aload_n 0, 1) := by decide +kernel
theorem dX0_change_13 : decode cX0_change 13 = .ok (.getfield 41, 3) := by decide +kernel
theorem dX0_change_16 : decode cX0_change 16 = .ok (.aload_n 0, 1) := by decide +kernel
theorem dX0_change_17 : decode cX0_change 17 = .ok (.getfield 33, 3) := by decide +kernel
theorem dX0_change_20 : decode cX0_change 20 = .ok (.iconst 1, 1) := by decide +kernel
theorem dX0_change_21 : decode cX0_change 21 = .ok (.iadd, 1) := by decide +kernel
theorem dX0_change_22 : decode cX0_change 22 = .ok (.iload_n 3, 1) := by decide +kernel
theorem dX0_change_23 : decode cX0_change 23 = .ok (.invokevirtual 116, 3) := by decide +kernel
theorem dX0_change_26 : decode cX0_change 26 = .ok (.aload_n 0, 1) := by decide +kernel
theorem dX0_change_27 : decode cX0_change 27 = .ok (.getfield 41, 3) := by decide +kernel
theorem dX0_change_30 : decode cX0_change 30 = .ok (.aload_n 0, 1) := by decide +kernel
theorem dX0_change_31 : decode cX0_change 31 = .ok (.getfield 33, 3) := by decide +kernel
theorem dX0_change_34 : decode cX0_change 34 = .ok (.iconst 2, 1) := by decide +kernel
theorem dX0_change_35 : decode cX0_change 35 = .ok (.iadd, 1) := by decide +kernel
theorem dX0_change_36 : decode cX0_change 36 = .ok (.iload 4, 2) := by decide +kernel
theorem dX0_change_38 : decode cX0_change 38 = .ok (.invokevirtual 116, 3) := by decide +kernel
theorem dX0_change_41 : decode cX0_change 41 = .ok (.aload_n 0, 1) := by decide +kernel
theorem dX0_change_42 : decode cX0_change 42 = .ok (.getfield 41, 3) := by decide +kernel
theorem dX0_change_45 : decode cX0_change 45 = .ok (.aload_n 0, 1) := by decide +kernel
theorem dX0_change_46 : decode cX0_change 46 = .ok (.getfield 33, 3) := by decide +kernel
theorem dX0_change_49 : decode cX0_change 49 = .ok (.iconst 3, 1) := by decide +kernel
theorem dX0_change_50 : decode cX0_change 50 = .ok (.iadd, 1) := by decide +kernel
theorem dX0_change_51 : decode cX0_change 51 = .ok (.iload_n 1, 1) := by decide +kernel
theorem dX0_change_52 : decode cX0_change 52 = .ok (.invokevirtual 116, 3) := by decide +kernel
theorem dX0_change_55 : decode cX0_change 55 = .ok (.aload_n 0, 1) := by decide +kernel
theorem dX0_change_56 : decode cX0_change 56 = .ok (.invokevirtual 99, 3) := by decide +kernel
theorem dX0_change_59 : decode cX0_change 59 = .ok (.aload_n 0, 1) := by decide +kernel
theorem dX0_change_60 : decode cX0_change 60 = .ok (.getfield 41, 3) := by decide +kernel
theorem dX0_change_63 : decode cX0_change 63 = .ok (.invokevirtual 51, 3) := by decide +kernel
theorem dX0_change_66 : decode cX0_change 66 = .ok (.ifCond .eq 8, 3) := by decide +kernel
theorem dX0_change_69 : decode cX0_change 69 = .ok (.bipush (-4), 2) := by decide +kernel
theorem dX0_change_71 : decode cX0_change 71 = .ok (.goto 4, 3) := by decide +kernel
theorem dX0_change_74 : decode cX0_change 74 = .ok (.iconst 0, 1) := by decide +kernel
theorem dX0_change_75 : decode cX0_change 75 = .ok (.ireturn, 1) := by decide +kernel
theorem dX0_carryOutIntent_0 : decode cX0_carryOutIntent 0 = .ok (.aload_n 0, 1) := by decide +kernel
theorem dX0_carryOutIntent_1 : decode cX0_carryOutIntent 1 = .ok (.getfield 41, 3) := by decide +kernel
theorem dX0_carryOutIntent_4 : decode cX0_carryOutIntent 4 = .ok (.aload_n 0, 1) := by decide +kernel
theorem dX0_carryOutIntent_5 : decode cX0_carryOutIntent 5 = .ok (.getfield 33, 3) := by decide +kernel
theorem dX0_carryOutIntent_8 : decode cX0_carryOutIntent 8 = .ok (.iconst 3, 1) := by decide +kernel
theorem dX0_carryOutIntent_9 : decode cX0_carryOutIntent 9 = .ok (.iadd, 1) := by decide +kernel
theorem dX0_carryOutIntent_10 : decode cX0_carryOutIntent 10 = .ok (.invokevirtual 80, 3) := by decide +kernel
theorem dX0_carryOutIntent_13 : decode cX0_carryOutIntent 13 = .ok (.istore_n 1, 1) := by decide +kernel
theorem dX0_carryOutIntent_14 : decode cX0_carryOutIntent 14 = .ok (.iload_n 1, 1) := by decide +kernel
theorem dX0_carryOutIntent_15 : decode cX0_carryOutIntent 15 = .ok (.ifCond .ne 4, 3) := by decide +kernel
theorem dX0_carryOutIntent_18 : decode cX0_carryOutIntent 18 = .ok (.return_, 1) := by decide +kernel
theorem dX0_carryOutIntent_19 : decode cX0_carryOutIntent 19 = .ok (.aload_n 0, 1) := by decide +kernel
theorem dX0_carryOutIntent_20 : decode cX0_carryOutIntent 20 = .ok (.getfield 41, 3) := by decide +kernel
theorem dX0_carryOutIntent_23 : decode cX0_carryOutIntent 23 = .ok (.aload_n 0, 1) := by decide +kernel
theorem dX0_carryOutIntent_24 : decode cX0_carryOutIntent 24 = .ok (.getfield 33, 3) := by decide +kernel
theorem dX0_carryOutIntent_27 : decode cX0_carryOutIntent 27 = .ok (.invokevirtual 80, 3) := by decide +kernel
theorem dX0_carryOutIntent_30 : decode cX0_carryOutIntent 30 = .ok (.istore_n 2, 1) := by decide +kernel
theorem dX0_carryOutIntent_31 : decode cX0_carryOutIntent 31 = .ok (.aload_n 0, 1) := by decide +kernel
theorem dX0_carryOutIntent_32 : decode cX0_carryOutIntent 32 = .ok (.getfield 41, 3) := by decide +kernel
theorem dX0_carryOutIntent_35 : decode cX0_carryOutIntent 35 = .ok (.aload_n 0, 1) := by decide +kernel
theorem dX0_carryOutIntent_36 : decode cX0_carryOutIntent 36 = .ok (.getfield 33, 3) := by decide +kernel
theorem dX0_carryOutIntent_39 : decode cX0_carryOutIntent 39 = .ok (.iconst 1, 1) := by decide +kernel
theorem dX0_carryOutIntent_40 : decode cX0_carryOutIntent 40 = .ok (.iadd, 1) := by decide +kernel
theorem dX0_carryOutIntent_41 : decode cX0_carryOutIntent 41 = .ok (.invokevirtual 80, 3) := by decide +kernel
theorem dX0_carryOutIntent_44 : decode cX0_carryOutIntent 44 = .ok (.istore_n 3, 1) := by decide +kernel
theorem dX0_carryOutIntent_45 : decode cX0_carryOutIntent 45 = .ok (.iload_n 1, 1) := by decide +kernel
theorem dX0_carryOutIntent_46 : decode cX0_carryOutIntent 46 = .ok (.iconst 1, 1) := by decide +kernel
theorem dX0_carryOutIntent_47 : decode cX0_carryOutIntent 47 = .ok (.if_icmp .ne 25, 3) := by decide +kernel
theorem dX0_carryOutIntent_50 : decode cX0_carryOutIntent 50 = .ok (.aload_n 0, 1) := by decide +kernel
theorem dX0_carryOutIntent_51 : decode cX0_carryOutIntent 51 = .ok (.iload_n 2, 1) := by decide +kernel
theorem dX0_carryOutIntent_52 : decode cX0_carryOutIntent 52 = .ok (.iload_n 3, 1) := by decide +kernel
theorem dX0_carryOutIntent_53 : decode cX0_carryOutIntent 53 = .ok (.aload_n 0, 1) := by decide +kernel
theorem dX0_carryOutIntent_54 : decode cX0_carryOutIntent 54 = .ok (.getfield 41, 3) := by decide +kernel
theorem dX0_carryOutIntent_57 : decode cX0_carryOutIntent 57 = .ok (.aload_n 0, 1) := by decide +kernel
theorem dX0_carryOutIntent_58 : decode cX0_carryOutIntent 58 = .ok (.getfield 33, 3) := by decide +kernel
theorem dX0_carryOutIntent_61 : decode cX0_carryOutIntent 61 = .ok (.iconst 2, 1) := by decide +kernel
theorem dX0_carryOutIntent_62 : decode cX0_carryOutIntent 62 = .ok (.iadd, 1) := by decide +kernel
theorem dX0_carryOutIntent_63 : decode cX0_carryOutIntent 63 = .ok (.invokevirtual 80, 3) := by decide +kernel
theorem dX0_carryOutIntent_66 : decode cX0_carryOutIntent 66 = .ok (.invokevirtual 138, 3) := by decide +kernel
theorem dX0_carryOutIntent_69 : decode cX0_carryOutIntent 69 = .ok (.goto 22, 3) := by decide +kernel
theorem dX0_carryOutIntent_72 : decode cX0_carryOutIntent 72 = .ok (.iload_n 1, 1) := by decide +kernel
theorem dX0_carryOutIntent_73 : decode cX0_carryOutIntent 73 = .ok (.iconst 2, 1) := by decide +kernel
theorem dX0_carryOutIntent_74 : decode cX0_carryOutIntent 74 = .ok (.if_icmp .ne 12, 3) := by decide +kernel
theorem dX0_carryOutIntent_77 : decode cX0_carryOutIntent 77 = .ok (.aload_n 0, 1) := by decide +kernel
theorem dX0_carryOutIntent_78 : decode cX0_carryOutIntent 78 = .ok (.iload_n 2, 1) := by decide +kernel
theorem dX0_carryOutIntent_79 : decode cX0_carryOutIntent 79 = .ok (.iload_n 3, 1) := by decide +kernel
theorem dX0_carryOutIntent_80 : decode cX0_carryOutIntent 80 = .ok (.invokevirtual 142, 3) := by decide +kernel
theorem dX0_carryOutIntent_83 : decode cX0_carryOutIntent 83 = .ok (.goto 8, 3) := by decide +kernel
theorem dX0_carryOutIntent_86 : decode cX0_carryOutIntent 86 = .ok (.aload_n 0, 1) := by decide +kernel
theorem dX0_carryOutIntent_87 : decode cX0_carryOutIntent 87 = .ok (.iload_n 2, 1) := by decide +kernel
theorem dX0_carryOutIntent_88 : decode cX0_carryOutIntent 88 = .ok (.invokevirtual 145, 3) := by decide +kernel
theorem dX0_carryOutIntent_91 : decode cX0_carryOutIntent 91 = .ok (.aload_n 0, 1) := by decide +kernel
theorem dX0_carryOutIntent_92 : decode cX0_carryOutIntent 92 = .ok (.getfield 41, 3) := by decide +kernel
theorem dX0_carryOutIntent_95 : decode cX0_carryOutIntent 95 = .ok (.aload_n 0, 1) := by decide +kernel
theorem dX0_carryOutIntent_96 : decode cX0_carryOutIntent 96 = .ok (.getfield 33, 3) := by decide +kernel
theorem dX0_carryOutIntent_99 : decode cX0_carryOutIntent 99 = .ok (.iconst 3, 1) := by decide +kernel
theorem dX0_carryOutIntent_100 : decode cX0_carryOutIntent 100 = .ok (.iadd, 1) := by decide +kernel
theorem dX0_carryOutIntent_101 : decode cX0_carryOutIntent 101 = .ok (.iconst 0, 1) := by decide +kernel
theorem dX0_carryOutIntent_102 : decode cX0_carryOutIntent 102 = .ok (.invokevirtual 116, 3) := by decide +kernel
theorem dX0_carryOutIntent_105 : decode cX0_carryOutIntent 105 = .ok (.return_, 1) := by decide +kernel
theorem dX0_mapBlock_0 : decode cX0_mapBlock 0 = .ok (.aload_n 0, 1) := by decide +kernel
theorem dX0_mapBlock_1 : decode cX0_mapBlock 1 = .ok (.getfield 41, 3) := by decide +kernel
theorem dX0_mapBlock_4 : decode cX0_mapBlock 4 = .ok (.aload_n 0, 1) := by decide +kernel
theorem dX0_mapBlock_5 : decode cX0_mapBlock 5 = .ok (.iload_n 1, 1) := by decide +kernel
theorem dX0_mapBlock_6 : decode cX0_mapBlock 6 = .ok (.iload_n 2, 1) := by decide +kernel
theorem dX0_mapBlock_7 : decode cX0_mapBlock 7 = .ok (.invokevirtual 113, 3) := by decide +kernel
theorem dX0_mapBlock_10 : decode cX0_mapBlock 10 = .ok (.iload_n 3, 1) := by decide +kernel
theorem dX0_mapBlock_11 : decode cX0_mapBlock 11 = .ok (.iconst 1, 1) := by decide +kernel
theorem dX0_mapBlock_12 : decode cX0_mapBlock 12 = .ok (.iadd, 1) := by decide +kernel
theorem dX0_mapBlock_13 : decode cX0_mapBlock 13 = .ok (.invokevirtual 116, 3) := by decide +kernel
theorem dX0_mapBlock_16 : decode cX0_mapBlock 16 = .ok (.return_, 1) := by decide +kernel
theorem dX0_mapVolumeAs_0 : decode cX0_mapVolumeAs 0 = .ok (.iconst 0, 1) := by decide +kernel
theorem dX0_mapVolumeAs_1 : decode cX0_mapVolumeAs 1 = .ok (.istore_n 3, 1) := by decide +kernel
theorem dX0_mapVolumeAs_2 : decode cX0_mapVolumeAs 2 = .ok (.iload_n 3, 1) := by decide +kernel
theorem dX0_mapVolumeAs_3 : decode cX0_mapVolumeAs 3 = .ok (.aload_n 0, 1) := by decide +kernel
theorem dX0_mapVolumeAs_4 : decode cX0_mapVolumeAs 4 = .ok (.getfield 23, 3) := by decide +kernel
theorem dX0_mapVolumeAs_7 : decode cX0_mapVolumeAs 7 = .ok (.if_icmp .ge 21, 3) := by decide +kernel
theorem dX0_mapVolumeAs_10 : decode cX0_mapVolumeAs 10 = .ok (.aload_n 0, 1) := by decide +kernel
theorem dX0_mapVolumeAs_11 : decode cX0_mapVolumeAs 11 = .ok (.iload_n 1, 1) := by decide +kernel
theorem dX0_mapVolumeAs_12 : decode cX0_mapVolumeAs 12 = .ok (.iload_n 3, 1) := by decide +kernel
theorem dX0_mapVolumeAs_13 : decode cX0_mapVolumeAs 13 = .ok (.aload_n 0, 1) := by decide +kernel
theorem dX0_mapVolumeAs_14 : decode cX0_mapVolumeAs 14 = .ok (.iload_n 2, 1) := by decide +kernel
theorem dX0_mapVolumeAs_15 : decode cX0_mapVolumeAs 15 = .ok (.iload_n 3, 1) := by decide +kernel
theorem dX0_mapVolumeAs_16 : decode cX0_mapVolumeAs 16 = .ok (.invokevirtual 70, 3) := by decide +kernel
theorem dX0_mapVolumeAs_19 : decode cX0_mapVolumeAs 19 = .ok (.invokevirtual 138, 3) := by decide +kernel
theorem dX0_mapVolumeAs_22 : decode cX0_mapVolumeAs 22 = .ok (.iinc 3 1, 3) := by decide +kernel
theorem dX0_mapVolumeAs_25 : decode cX0_mapVolumeAs 25 = .ok (.goto (-23), 3) := by decide +kernel
theorem dX0_mapVolumeAs_28 : decode cX0_mapVolumeAs 28 = .ok (.return_, 1) := by decide +kernel
theorem dX0_unmapVolume_0 : decode cX0_unmapVolume 0 = .ok (.iconst 0, 1) := by decide +kernel
theorem dX0_unmapVolume_1 : decode cX0_unmapVolume 1 = .ok (.istore_n 2, 1) := by decide +kernel
theorem dX0_unmapVolume_2 : decode cX0_unmapVolume 2 = .ok (.iload_n 2, 1) := by decide +kernel
theorem dX0_unmapVolume_3 : decode cX0_unmapVolume 3 = .ok (.aload_n 0, 1) := by decide +kernel
theorem dX0_unmapVolume_4 : decode cX0_unmapVolume 4 = .ok (.getfield 23, 3) := by decide +kernel
theorem dX0_unmapVolume_7 : decode cX0_unmapVolume 7 = .ok (.if_icmp .ge 16, 3) := by decide +kernel
theorem dX0_unmapVolume_10 : decode cX0_unmapVolume 10 = .ok (.aload_n 0, 1) := by decide +kernel
theorem dX0_unmapVolume_11 : decode cX0_unmapVolume 11 = .ok (.iload_n 1, 1) := by decide +kernel
theorem dX0_unmapVolume_12 : decode cX0_unmapVolume 12 = .ok (.iload_n 2, 1) := by decide +kernel
theorem dX0_unmapVolume_13 : decode cX0_unmapVolume 13 = .ok (.iconst (-1), 1) := by decide +kernel
theorem dX0_unmapVolume_14 : decode cX0_unmapVolume 14 = .ok (.invokevirtual 138, 3) := by decide +kernel
theorem dX0_unmapVolume_17 : decode cX0_unmapVolume 17 = .ok (.iinc 2 1, 3) := by decide +kernel
theorem dX0_unmapVolume_20 : decode cX0_unmapVolume 20 = .ok (.goto (-18), 3) := by decide +kernel
theorem dX0_unmapVolume_23 : decode cX0_unmapVolume 23 = .ok (.return_, 1) := by decide +kernel
theorem dX0_readWord_0 : decode cX0_readWord 0 = .ok (.aload_n 0, 1) := by decide +kernel
theorem dX0_readWord_1 : decode cX0_readWord 1 = .ok (.getfield 41, 3) := by decide +kernel
theorem dX0_readWord_4 : decode cX0_readWord 4 = .ok (.invokevirtual 51, 3) := by decide +kernel
theorem dX0_readWord_7 : decode cX0_readWord 7 = .ok (.ifCond .eq 6, 3) := by decide +kernel
theorem dX0_readWord_10 : decode cX0_readWord 10 = .ok (.bipush (-4), 2) := by decide +kernel
theorem dX0_readWord_12 : decode cX0_readWord 12 = .ok (.ireturn, 1) := by decide +kernel
theorem dX0_readWord_13 : decode cX0_readWord 13 = .ok (.aload_n 0, 1) := by decide +kernel
theorem dX0_readWord_14 : decode cX0_readWord 14 = .ok (.iload_n 1, 1) := by decide +kernel
theorem dX0_readWord_15 : decode cX0_readWord 15 = .ok (.iload_n 2, 1) := by decide +kernel
theorem dX0_readWord_16 : decode cX0_readWord 16 = .ok (.invokevirtual 59, 3) := by decide +kernel
theorem dX0_readWord_19 : decode cX0_readWord 19 = .ok (.ifCond .eq 11, 3) := by decide +kernel
theorem dX0_readWord_22 : decode cX0_readWord 22 = .ok (.aload_n 0, 1) := by decide +kernel
theorem dX0_readWord_23 : decode cX0_readWord 23 = .ok (.iload_n 3, 1) := by decide +kernel
theorem dX0_readWord_24 : decode cX0_readWord 24 = .ok (.invokevirtual 55, 3) := by decide +kernel
theorem dX0_readWord_27 : decode cX0_readWord 27 = .ok (.ifCond .ne 5, 3) := by decide +kernel
theorem dX0_readWord_30 : decode cX0_readWord 30 = .ok (.iconst 0, 1) := by decide +kernel
theorem dX0_readWord_31 : decode cX0_readWord 31 = .ok (.ireturn, 1) := by decide +kernel
theorem dX0_readWord_32 : decode cX0_readWord 32 = .ok (.aload_n 0, 1) := by decide +kernel
theorem dX0_readWord_33 : decode cX0_readWord 33 = .ok (.iload_n 1, 1) := by decide +kernel
theorem dX0_readWord_34 : decode cX0_readWord 34 = .ok (.iload_n 2, 1) := by decide +kernel
theorem dX0_readWord_35 : decode cX0_readWord 35 = .ok (.invokevirtual 70, 3) := by decide +kernel
theorem dX0_readWord_38 : decode cX0_readWord 38 = .ok (.istore 4, 2) := by decide +kernel
theorem dX0_readWord_40 : decode cX0_readWord 40 = .ok (.iload 4, 2) := by decide +kernel
theorem dX0_readWord_42 : decode cX0_readWord 42 = .ok (.iconst (-1), 1) := by decide +kernel
theorem dX0_readWord_43 : decode cX0_readWord 43 = .ok (.if_icmp .ne 7, 3) := by decide +kernel
theorem dX0_readWord_46 : decode cX0_readWord 46 = .ok (.iconst 0, 1) := by decide +kernel
theorem dX0_readWord_47 : decode cX0_readWord 47 = .ok (.goto 17, 3) := by decide +kernel
theorem dX0_readWord_50 : decode cX0_readWord 50 = .ok (.aload_n 0, 1) := by decide +kernel
theorem dX0_readWord_51 : decode cX0_readWord 51 = .ok (.getfield 41, 3) := by decide +kernel
theorem dX0_readWord_54 : decode cX0_readWord 54 = .ok (.aload_n 0, 1) := by decide +kernel
theorem dX0_readWord_55 : decode cX0_readWord 55 = .ok (.iload 4, 2) := by decide +kernel
theorem dX0_readWord_57 : decode cX0_readWord 57 = .ok (.iload_n 3, 1) := by decide +kernel
theorem dX0_readWord_58 : decode cX0_readWord 58 = .ok (.invokevirtual 77, 3) := by decide +kernel
theorem dX0_readWord_61 : decode cX0_readWord 61 = .ok (.invokevirtual 80, 3) := by decide +kernel
theorem dX0_readWord_64 : decode cX0_readWord 64 = .ok (.ireturn, 1) := by decide +kernel
theorem dX0_trim_0 : decode cX0_trim 0 = .ok (.aload_n 0, 1) := by decide +kernel
theorem dX0_trim_1 : decode cX0_trim 1 = .ok (.getfield 41, 3) := by decide +kernel
theorem dX0_trim_4 : decode cX0_trim 4 = .ok (.invokevirtual 51, 3) := by decide +kernel
theorem dX0_trim_7 : decode cX0_trim 7 = .ok (.ifCond .eq 6, 3) := by decide +kernel
theorem dX0_trim_10 : decode cX0_trim 10 = .ok (.bipush (-4), 2) := by decide +kernel
theorem dX0_trim_12 : decode cX0_trim 12 = .ok (.ireturn, 1) := by decide +kernel
theorem dX0_trim_13 : decode cX0_trim 13 = .ok (.aload_n 0, 1) := by decide +kernel
theorem dX0_trim_14 : decode cX0_trim 14 = .ok (.iload_n 1, 1) := by decide +kernel
theorem dX0_trim_15 : decode cX0_trim 15 = .ok (.iload_n 2, 1) := by decide +kernel
theorem dX0_trim_16 : decode cX0_trim 16 = .ok (.invokevirtual 59, 3) := by decide +kernel
theorem dX0_trim_19 : decode cX0_trim 19 = .ok (.ifCond .ne 5, 3) := by decide +kernel
theorem dX0_trim_22 : decode cX0_trim 22 = .ok (.iconst (-1), 1) := by decide +kernel
theorem dX0_trim_23 : decode cX0_trim 23 = .ok (.ireturn, 1) := by decide +kernel
theorem dX0_trim_24 : decode cX0_trim 24 = .ok (.aload_n 0, 1) := by decide +kernel
theorem dX0_trim_25 : decode cX0_trim 25 = .ok (.iload_n 1, 1) := by decide +kernel
theorem dX0_trim_26 : decode cX0_trim 26 = .ok (.iload_n 2, 1) := by decide +kernel
theorem dX0_trim_27 : decode cX0_trim 27 = .ok (.invokevirtual 70, 3) := by decide +kernel
theorem dX0_trim_30 : decode cX0_trim 30 = .ok (.iconst (-1), 1) := by decide +kernel
theorem dX0_trim_31 : decode cX0_trim 31 = .ok (.if_icmp .ne 6, 3) := by decide +kernel
theorem dX0_trim_34 : decode cX0_trim 34 = .ok (.bipush (-3), 2) := by decide +kernel
theorem dX0_trim_36 : decode cX0_trim 36 = .ok (.ireturn, 1) := by decide +kernel
theorem dX0_trim_37 : decode cX0_trim 37 = .ok (.aload_n 0, 1) := by decide +kernel
theorem dX0_trim_38 : decode cX0_trim 38 = .ok (.iconst 1, 1) := by decide +kernel
theorem dX0_trim_39 : decode cX0_trim 39 = .ok (.iload_n 1, 1) := by decide +kernel
theorem dX0_trim_40 : decode cX0_trim 40 = .ok (.iload_n 2, 1) := by decide +kernel
theorem dX0_trim_41 : decode cX0_trim 41 = .ok (.iconst (-1), 1) := by decide +kernel
theorem dX0_trim_42 : decode cX0_trim 42 = .ok (.invokevirtual 73, 3) := by decide +kernel
theorem dX0_trim_45 : decode cX0_trim 45 = .ok (.ireturn, 1) := by decide +kernel
theorem dX0_cloneVol_0 : decode cX0_cloneVol 0 = .ok (.aload_n 0, 1) := by decide +kernel
theorem dX0_cloneVol_1 : decode cX0_cloneVol 1 = .ok (.getfield 41, 3) := by decide +kernel
theorem dX0_cloneVol_4 : decode cX0_cloneVol 4 = .ok (.invokevirtual 51, 3) := by decide +kernel
theorem dX0_cloneVol_7 : decode cX0_cloneVol 7 = .ok (.ifCond .eq 6, 3) := by decide +kernel
theorem dX0_cloneVol_10 : decode cX0_cloneVol 10 = .ok (.bipush (-4), 2) := by decide +kernel
theorem dX0_cloneVol_12 : decode cX0_cloneVol 12 = .ok (.ireturn, 1) := by decide +kernel
theorem dX0_cloneVol_13 : decode cX0_cloneVol 13 = .ok (.aload_n 0, 1) := by decide +kernel
theorem dX0_cloneVol_14 : decode cX0_cloneVol 14 = .ok (.iload_n 1, 1) := by decide +kernel
theorem dX0_cloneVol_15 : decode cX0_cloneVol 15 = .ok (.invokevirtual 84, 3) := by decide +kernel
theorem dX0_cloneVol_18 : decode cX0_cloneVol 18 = .ok (.ifCond .eq 11, 3) := by decide +kernel
theorem dX0_cloneVol_21 : decode cX0_cloneVol 21 = .ok (.aload_n 0, 1) := by decide +kernel
theorem dX0_cloneVol_22 : decode cX0_cloneVol 22 = .ok (.iload_n 2, 1) := by decide +kernel
theorem dX0_cloneVol_23 : decode cX0_cloneVol 23 = .ok (.invokevirtual 84, 3) := by decide +kernel
theorem dX0_cloneVol_26 : decode cX0_cloneVol 26 = .ok (.ifCond .ne 5, 3) := by decide +kernel
theorem dX0_cloneVol_29 : decode cX0_cloneVol 29 = .ok (.iconst (-1), 1) := by decide +kernel
theorem dX0_cloneVol_30 : decode cX0_cloneVol 30 = .ok (.ireturn, 1) := by decide +kernel
theorem dX0_cloneVol_31 : decode cX0_cloneVol 31 = .ok (.aload_n 0, 1) := by decide +kernel
theorem dX0_cloneVol_32 : decode cX0_cloneVol 32 = .ok (.iconst 2, 1) := by decide +kernel
theorem dX0_cloneVol_33 : decode cX0_cloneVol 33 = .ok (.iload_n 2, 1) := by decide +kernel
theorem dX0_cloneVol_34 : decode cX0_cloneVol 34 = .ok (.iload_n 1, 1) := by decide +kernel
theorem dX0_cloneVol_35 : decode cX0_cloneVol 35 = .ok (.iconst 0, 1) := by decide +kernel
theorem dX0_cloneVol_36 : decode cX0_cloneVol 36 = .ok (.invokevirtual 73, 3) := by decide +kernel
theorem dX0_cloneVol_39 : decode cX0_cloneVol 39 = .ok (.ireturn, 1) := by decide +kernel
theorem dX0_dropVol_0 : decode cX0_dropVol 0 = .ok (.aload_n 0, 1) := by decide +kernel
theorem dX0_dropVol_1 : decode cX0_dropVol 1 = .ok (.getfield 41, 3) := by decide +kernel
theorem dX0_dropVol_4 : decode cX0_dropVol 4 = .ok (.invokevirtual 51, 3) := by decide +kernel
theorem dX0_dropVol_7 : decode cX0_dropVol 7 = .ok (.ifCond .eq 6, 3) := by decide +kernel
theorem dX0_dropVol_10 : decode cX0_dropVol 10 = .ok (.bipush (-4), 2) := by decide +kernel
theorem dX0_dropVol_12 : decode cX0_dropVol 12 = .ok (.ireturn, 1) := by decide +kernel
theorem dX0_dropVol_13 : decode cX0_dropVol 13 = .ok (.aload_n 0, 1) := by decide +kernel
theorem dX0_dropVol_14 : decode cX0_dropVol 14 = .ok (.iload_n 1, 1) := by decide +kernel
theorem dX0_dropVol_15 : decode cX0_dropVol 15 = .ok (.invokevirtual 84, 3) := by decide +kernel
theorem dX0_dropVol_18 : decode cX0_dropVol 18 = .ok (.ifCond .ne 5, 3) := by decide +kernel
theorem dX0_dropVol_21 : decode cX0_dropVol 21 = .ok (.iconst (-1), 1) := by decide +kernel
theorem dX0_dropVol_22 : decode cX0_dropVol 22 = .ok (.ireturn, 1) := by decide +kernel
theorem dX0_dropVol_23 : decode cX0_dropVol 23 = .ok (.aload_n 0, 1) := by decide +kernel
theorem dX0_dropVol_24 : decode cX0_dropVol 24 = .ok (.iconst 3, 1) := by decide +kernel
theorem dX0_dropVol_25 : decode cX0_dropVol 25 = .ok (.iload_n 1, 1) := by decide +kernel
theorem dX0_dropVol_26 : decode cX0_dropVol 26 = .ok (.iconst 0, 1) := by decide +kernel
theorem dX0_dropVol_27 : decode cX0_dropVol 27 = .ok (.iconst 0, 1) := by decide +kernel
theorem dX0_dropVol_28 : decode cX0_dropVol 28 = .ok (.invokevirtual 73, 3) := by decide +kernel
theorem dX0_dropVol_31 : decode cX0_dropVol 31 = .ok (.ireturn, 1) := by decide +kernel
theorem dX0_chunksUsed_0 : decode cX0_chunksUsed 0 = .ok (.aload_n 0, 1) := by decide +kernel
theorem dX0_chunksUsed_1 : decode cX0_chunksUsed 1 = .ok (.getfield 41, 3) := by decide +kernel
theorem dX0_chunksUsed_4 : decode cX0_chunksUsed 4 = .ok (.invokevirtual 51, 3) := by decide +kernel
theorem dX0_chunksUsed_7 : decode cX0_chunksUsed 7 = .ok (.ifCond .eq 8, 3) := by decide +kernel
theorem dX0_chunksUsed_10 : decode cX0_chunksUsed 10 = .ok (.bipush (-4), 2) := by decide +kernel
theorem dX0_chunksUsed_12 : decode cX0_chunksUsed 12 = .ok (.goto 7, 3) := by decide +kernel
theorem dX0_chunksUsed_15 : decode cX0_chunksUsed 15 = .ok (.aload_n 0, 1) := by decide +kernel
theorem dX0_chunksUsed_16 : decode cX0_chunksUsed 16 = .ok (.invokevirtual 87, 3) := by decide +kernel
theorem dX0_chunksUsed_19 : decode cX0_chunksUsed 19 = .ok (.ireturn, 1) := by decide +kernel
theorem dX0_refsOf_0 : decode cX0_refsOf 0 = .ok (.aload_n 0, 1) := by decide +kernel
theorem dX0_refsOf_1 : decode cX0_refsOf 1 = .ok (.getfield 41, 3) := by decide +kernel
theorem dX0_refsOf_4 : decode cX0_refsOf 4 = .ok (.invokevirtual 51, 3) := by decide +kernel
theorem dX0_refsOf_7 : decode cX0_refsOf 7 = .ok (.ifCond .eq 6, 3) := by decide +kernel
theorem dX0_refsOf_10 : decode cX0_refsOf 10 = .ok (.bipush (-4), 2) := by decide +kernel
theorem dX0_refsOf_12 : decode cX0_refsOf 12 = .ok (.ireturn, 1) := by decide +kernel
theorem dX0_refsOf_13 : decode cX0_refsOf 13 = .ok (.aload_n 0, 1) := by decide +kernel
theorem dX0_refsOf_14 : decode cX0_refsOf 14 = .ok (.iload_n 1, 1) := by decide +kernel
theorem dX0_refsOf_15 : decode cX0_refsOf 15 = .ok (.iload_n 2, 1) := by decide +kernel
theorem dX0_refsOf_16 : decode cX0_refsOf 16 = .ok (.invokevirtual 59, 3) := by decide +kernel
theorem dX0_refsOf_19 : decode cX0_refsOf 19 = .ok (.ifCond .ne 5, 3) := by decide +kernel
theorem dX0_refsOf_22 : decode cX0_refsOf 22 = .ok (.iconst 0, 1) := by decide +kernel
theorem dX0_refsOf_23 : decode cX0_refsOf 23 = .ok (.ireturn, 1) := by decide +kernel
theorem dX0_refsOf_24 : decode cX0_refsOf 24 = .ok (.aload_n 0, 1) := by decide +kernel
theorem dX0_refsOf_25 : decode cX0_refsOf 25 = .ok (.iload_n 1, 1) := by decide +kernel
theorem dX0_refsOf_26 : decode cX0_refsOf 26 = .ok (.iload_n 2, 1) := by decide +kernel
theorem dX0_refsOf_27 : decode cX0_refsOf 27 = .ok (.invokevirtual 70, 3) := by decide +kernel
theorem dX0_refsOf_30 : decode cX0_refsOf 30 = .ok (.istore_n 3, 1) := by decide +kernel
theorem dX0_refsOf_31 : decode cX0_refsOf 31 = .ok (.iload_n 3, 1) := by decide +kernel
theorem dX0_refsOf_32 : decode cX0_refsOf 32 = .ok (.iconst (-1), 1) := by decide +kernel
theorem dX0_refsOf_33 : decode cX0_refsOf 33 = .ok (.if_icmp .ne 7, 3) := by decide +kernel
theorem dX0_refsOf_36 : decode cX0_refsOf 36 = .ok (.iconst 0, 1) := by decide +kernel
theorem dX0_refsOf_37 : decode cX0_refsOf 37 = .ok (.goto 8, 3) := by decide +kernel
theorem dX0_refsOf_40 : decode cX0_refsOf 40 = .ok (.aload_n 0, 1) := by decide +kernel
theorem dX0_refsOf_41 : decode cX0_refsOf 41 = .ok (.iload_n 3, 1) := by decide +kernel
theorem dX0_refsOf_42 : decode cX0_refsOf 42 = .ok (.invokevirtual 90, 3) := by decide +kernel
theorem dX0_refsOf_45 : decode cX0_refsOf 45 = .ok (.ireturn, 1) := by decide +kernel
theorem dX0_slotOf_0 : decode cX0_slotOf 0 = .ok (.aload_n 0, 1) := by decide +kernel
theorem dX0_slotOf_1 : decode cX0_slotOf 1 = .ok (.getfield 41, 3) := by decide +kernel
theorem dX0_slotOf_4 : decode cX0_slotOf 4 = .ok (.invokevirtual 51, 3) := by decide +kernel
theorem dX0_slotOf_7 : decode cX0_slotOf 7 = .ok (.ifCond .eq 6, 3) := by decide +kernel
theorem dX0_slotOf_10 : decode cX0_slotOf 10 = .ok (.bipush (-4), 2) := by decide +kernel
theorem dX0_slotOf_12 : decode cX0_slotOf 12 = .ok (.ireturn, 1) := by decide +kernel
theorem dX0_slotOf_13 : decode cX0_slotOf 13 = .ok (.aload_n 0, 1) := by decide +kernel
theorem dX0_slotOf_14 : decode cX0_slotOf 14 = .ok (.iload_n 1, 1) := by decide +kernel
theorem dX0_slotOf_15 : decode cX0_slotOf 15 = .ok (.iload_n 2, 1) := by decide +kernel
theorem dX0_slotOf_16 : decode cX0_slotOf 16 = .ok (.invokevirtual 59, 3) := by decide +kernel
theorem dX0_slotOf_19 : decode cX0_slotOf 19 = .ok (.ifCond .ne 5, 3) := by decide +kernel
theorem dX0_slotOf_22 : decode cX0_slotOf 22 = .ok (.iconst (-1), 1) := by decide +kernel
theorem dX0_slotOf_23 : decode cX0_slotOf 23 = .ok (.ireturn, 1) := by decide +kernel
theorem dX0_slotOf_24 : decode cX0_slotOf 24 = .ok (.aload_n 0, 1) := by decide +kernel
theorem dX0_slotOf_25 : decode cX0_slotOf 25 = .ok (.iload_n 1, 1) := by decide +kernel
theorem dX0_slotOf_26 : decode cX0_slotOf 26 = .ok (.iload_n 2, 1) := by decide +kernel
theorem dX0_slotOf_27 : decode cX0_slotOf 27 = .ok (.invokevirtual 70, 3) := by decide +kernel
theorem dX0_slotOf_30 : decode cX0_slotOf 30 = .ok (.istore_n 3, 1) := by decide +kernel
theorem dX0_slotOf_31 : decode cX0_slotOf 31 = .ok (.iload_n 3, 1) := by decide +kernel
theorem dX0_slotOf_32 : decode cX0_slotOf 32 = .ok (.iconst (-1), 1) := by decide +kernel
theorem dX0_slotOf_33 : decode cX0_slotOf 33 = .ok (.if_icmp .ne 8, 3) := by decide +kernel
theorem dX0_slotOf_36 : decode cX0_slotOf 36 = .ok (.bipush (-3), 2) := by decide +kernel
theorem dX0_slotOf_38 : decode cX0_slotOf 38 = .ok (.goto 4, 3) := by decide +kernel
theorem dX0_slotOf_41 : decode cX0_slotOf 41 = .ok (.iload_n 3, 1) := by decide +kernel
theorem dX0_slotOf_42 : decode cX0_slotOf 42 = .ok (.ireturn, 1) := by decide +kernel
theorem dX0_slotWord_0 : decode cX0_slotWord 0 = .ok (.aload_n 0, 1) := by decide +kernel
theorem dX0_slotWord_1 : decode cX0_slotWord 1 = .ok (.getfield 41, 3) := by decide +kernel
theorem dX0_slotWord_4 : decode cX0_slotWord 4 = .ok (.invokevirtual 51, 3) := by decide +kernel
theorem dX0_slotWord_7 : decode cX0_slotWord 7 = .ok (.ifCond .eq 6, 3) := by decide +kernel
theorem dX0_slotWord_10 : decode cX0_slotWord 10 = .ok (.bipush (-4), 2) := by decide +kernel
theorem dX0_slotWord_12 : decode cX0_slotWord 12 = .ok (.ireturn, 1) := by decide +kernel
theorem dX0_slotWord_13 : decode cX0_slotWord 13 = .ok (.iload_n 1, 1) := by decide +kernel
theorem dX0_slotWord_14 : decode cX0_slotWord 14 = .ok (.ifCond .lt 19, 3) := by decide +kernel
theorem dX0_slotWord_17 : decode cX0_slotWord 17 = .ok (.iload_n 1, 1) := by decide +kernel
theorem dX0_slotWord_18 : decode cX0_slotWord 18 = .ok (.aload_n 0, 1) := by decide +kernel
theorem dX0_slotWord_19 : decode cX0_slotWord 19 = .ok (.getfield 17, 3) := by decide +kernel
theorem dX0_slotWord_22 : decode cX0_slotWord 22 = .ok (.if_icmp .gt 11, 3) := by decide +kernel
theorem dX0_slotWord_25 : decode cX0_slotWord 25 = .ok (.aload_n 0, 1) := by decide +kernel
theorem dX0_slotWord_26 : decode cX0_slotWord 26 = .ok (.iload_n 2, 1) := by decide +kernel
theorem dX0_slotWord_27 : decode cX0_slotWord 27 = .ok (.invokevirtual 55, 3) := by decide +kernel
theorem dX0_slotWord_30 : decode cX0_slotWord 30 = .ok (.ifCond .ne 5, 3) := by decide +kernel
theorem dX0_slotWord_33 : decode cX0_slotWord 33 = .ok (.iconst 0, 1) := by decide +kernel
theorem dX0_slotWord_34 : decode cX0_slotWord 34 = .ok (.ireturn, 1) := by decide +kernel
theorem dX0_slotWord_35 : decode cX0_slotWord 35 = .ok (.aload_n 0, 1) := by decide +kernel
theorem dX0_slotWord_36 : decode cX0_slotWord 36 = .ok (.getfield 41, 3) := by decide +kernel
theorem dX0_slotWord_39 : decode cX0_slotWord 39 = .ok (.aload_n 0, 1) := by decide +kernel
theorem dX0_slotWord_40 : decode cX0_slotWord 40 = .ok (.iload_n 1, 1) := by decide +kernel
theorem dX0_slotWord_41 : decode cX0_slotWord 41 = .ok (.iload_n 2, 1) := by decide +kernel
theorem dX0_slotWord_42 : decode cX0_slotWord 42 = .ok (.invokevirtual 77, 3) := by decide +kernel
theorem dX0_slotWord_45 : decode cX0_slotWord 45 = .ok (.invokevirtual 80, 3) := by decide +kernel
theorem dX0_slotWord_48 : decode cX0_slotWord 48 = .ok (.ireturn, 1) := by decide +kernel
theorem dX0_crashAfter_0 : decode cX0_crashAfter 0 = .ok (.aload_n 0, 1) := by decide +kernel
theorem dX0_crashAfter_1 : decode cX0_crashAfter 1 = .ok (.getfield 41, 3) := by decide +kernel
theorem dX0_crashAfter_4 : decode cX0_crashAfter 4 = .ok (.iload_n 1, 1) := by decide +kernel
theorem dX0_crashAfter_5 : decode cX0_crashAfter 5 = .ok (.invokevirtual 93, 3) := by decide +kernel
theorem dX0_crashAfter_8 : decode cX0_crashAfter 8 = .ok (.return_, 1) := by decide +kernel
theorem dX1_armLoss_0 : decode cX1_armLoss 0 = .ok (.aload_n 0, 1) := by decide +kernel
theorem dX1_armLoss_1 : decode cX1_armLoss 1 = .ok (.getfield 23, 3) := by decide +kernel
theorem dX1_armLoss_4 : decode cX1_armLoss 4 = .ok (.ifCond .eq 4, 3) := by decide +kernel
theorem dX1_armLoss_7 : decode cX1_armLoss 7 = .ok (.return_, 1) := by decide +kernel
theorem dX1_armLoss_8 : decode cX1_armLoss 8 = .ok (.iload_n 1, 1) := by decide +kernel
theorem dX1_armLoss_9 : decode cX1_armLoss 9 = .ok (.iconst 1, 1) := by decide +kernel
theorem dX1_armLoss_10 : decode cX1_armLoss 10 = .ok (.if_icmp .ge 11, 3) := by decide +kernel
theorem dX1_armLoss_13 : decode cX1_armLoss 13 = .ok (.aload_n 0, 1) := by decide +kernel
theorem dX1_armLoss_14 : decode cX1_armLoss 14 = .ok (.iconst 0, 1) := by decide +kernel
theorem dX1_armLoss_15 : decode cX1_armLoss 15 = .ok (.putfield 19, 3) := by decide +kernel
theorem dX1_armLoss_18 : decode cX1_armLoss 18 = .ok (.goto 27, 3) := by decide +kernel
theorem dX1_armLoss_21 : decode cX1_armLoss 21 = .ok (.aload_n 0, 1) := by decide +kernel
theorem dX1_armLoss_22 : decode cX1_armLoss 22 = .ok (.getfield 30, 3) := by decide +kernel
theorem dX1_armLoss_25 : decode cX1_armLoss 25 = .ok (.bipush 30, 2) := by decide +kernel
theorem dX1_armLoss_27 : decode cX1_armLoss 27 = .ok (.if_icmp .ge 18, 3) := by decide +kernel
theorem dX1_armLoss_30 : decode cX1_armLoss 30 = .ok (.aload_n 0, 1) := by decide +kernel
theorem dX1_armLoss_31 : decode cX1_armLoss 31 = .ok (.dup, 1) := by decide +kernel
theorem dX1_armLoss_32 : decode cX1_armLoss 32 = .ok (.getfield 30, 3) := by decide +kernel
theorem dX1_armLoss_35 : decode cX1_armLoss 35 = .ok (.iconst 1, 1) := by decide +kernel
theorem dX1_armLoss_36 : decode cX1_armLoss 36 = .ok (.iadd, 1) := by decide +kernel
theorem dX1_armLoss_37 : decode cX1_armLoss 37 = .ok (.putfield 30, 3) := by decide +kernel
theorem dX1_armLoss_40 : decode cX1_armLoss 40 = .ok (.aload_n 0, 1) := by decide +kernel
theorem dX1_armLoss_41 : decode cX1_armLoss 41 = .ok (.iload_n 1, 1) := by decide +kernel
theorem dX1_armLoss_42 : decode cX1_armLoss 42 = .ok (.putfield 19, 3) := by decide +kernel
theorem dX1_armLoss_45 : decode cX1_armLoss 45 = .ok (.return_, 1) := by decide +kernel
theorem dX0_down_0 : decode cX0_down 0 = .ok (.aload_n 0, 1) := by decide +kernel
theorem dX0_down_1 : decode cX0_down 1 = .ok (.getfield 41, 3) := by decide +kernel
theorem dX0_down_4 : decode cX0_down 4 = .ok (.invokevirtual 51, 3) := by decide +kernel
theorem dX0_down_7 : decode cX0_down 7 = .ok (.ireturn, 1) := by decide +kernel
theorem dX0_recover_0 : decode cX0_recover 0 = .ok (.aload_n 0, 1) := by decide +kernel
theorem dX0_recover_1 : decode cX0_recover 1 = .ok (.getfield 41, 3) := by decide +kernel
theorem dX0_recover_4 : decode cX0_recover 4 = .ok (.invokevirtual 51, 3) := by decide +kernel
theorem dX0_recover_7 : decode cX0_recover 7 = .ok (.ifCond .eq 18, 3) := by decide +kernel
theorem dX0_recover_10 : decode cX0_recover 10 = .ok (.aload_n 0, 1) := by decide +kernel
theorem dX0_recover_11 : decode cX0_recover 11 = .ok (.getfield 41, 3) := by decide +kernel
theorem dX0_recover_14 : decode cX0_recover 14 = .ok (.invokevirtual 96, 3) := by decide +kernel
theorem dX0_recover_17 : decode cX0_recover 17 = .ok (.aload_n 0, 1) := by decide +kernel
theorem dX0_recover_18 : decode cX0_recover 18 = .ok (.invokevirtual 48, 3) := by decide +kernel
theorem dX0_recover_21 : decode cX0_recover 21 = .ok (.aload_n 0, 1) := by decide +kernel
theorem dX0_recover_22 : decode cX0_recover 22 = .ok (.invokevirtual 99, 3) := by decide +kernel
theorem dX0_recover_25 : decode cX0_recover 25 = .ok (.iconst 0, 1) := by decide +kernel
theorem dX0_recover_26 : decode cX0_recover 26 = .ok (.ireturn, 1) := by decide +kernel
theorem dX1_restorePower_0 : decode cX1_restorePower 0 = .ok (.aload_n 0, 1) := by decide +kernel
theorem dX1_restorePower_1 : decode cX1_restorePower 1 = .ok (.iconst 0, 1) := by decide +kernel
theorem dX1_restorePower_2 : decode cX1_restorePower 2 = .ok (.putfield 23, 3) := by decide +kernel
theorem dX1_restorePower_5 : decode cX1_restorePower 5 = .ok (.return_, 1) := by decide +kernel
theorem dX0_writes_0 : decode cX0_writes 0 = .ok (.aload_n 0, 1) := by decide +kernel
theorem dX0_writes_1 : decode cX0_writes 1 = .ok (.getfield 41, 3) := by decide +kernel
theorem dX0_writes_4 : decode cX0_writes 4 = .ok (.invokevirtual 102, 3) := by decide +kernel
theorem dX0_writes_7 : decode cX0_writes 7 = .ok (.ireturn, 1) := by decide +kernel
theorem dX1_writesDone_0 : decode cX1_writesDone 0 = .ok (.aload_n 0, 1) := by decide +kernel
theorem dX1_writesDone_1 : decode cX1_writesDone 1 = .ok (.getfield 27, 3) := by decide +kernel
theorem dX1_writesDone_4 : decode cX1_writesDone 4 = .ok (.ireturn, 1) := by decide +kernel
end
section
abbrev DS := (Nat → Int32) × Int32 × Int32 × Int32 × Int32
abbrev XS := (Nat → Int32) × DS
def dk_w (hd hc : Nat) (a2 : ClassId) (n : Nat) (d : DS) : va_W := [(hd, .inr (1, [.ref hc, .int d.2.1, .int d.2.2.1, .int d.2.2.2.1, .int d.2.2.2.2])), (hc, .inl (a2, n, .inl d.1))]
def xo_w (h0 hs hd hc : Nat) (a1 a2 : ClassId) (gW gC gV gB gM gI : Nat) (x : XS) : va_W := [(h0, .inr (0, [.int (nI gW), .int (nI gC), .int (nI gV), .int (nI gB), .ref hs, .int (nI gM), .int (nI gI), .ref hd])), (hs, .inl (a1, gW, .inl x.1)), (hd, .inr (1, [.ref hc, .int x.2.2.1, .int x.2.2.2.1, .int x.2.2.2.2.1, .int x.2.2.2.2.2])), (hc, .inl (a2, gI + 4, .inl x.2.1))]
def geo (gW gC gV gB gM gI : Nat) : Prop := (1 ≤ gW ∧ gW ≤ 4) ∧ (1 ≤ gC ∧ gC ≤ 12) ∧ (1 ≤ gV ∧ gV ≤ 4) ∧ (1 ≤ gB ∧ gB ≤ 6) ∧ gM = (gC + 1) * gW ∧ gI = gM + gV * gB
def dk_write (d : DS) (i : Nat) (v : Int32) : DS :=
  if d.2.2.2.2 = 0 then
    if d.2.2.1 = 0 then (upd d.1 i v, d.2.1 + 1, d.2.2.1, d.2.2.2.1, d.2.2.2.2)
    else if d.2.2.1 - 1 = 0 then (d.1, d.2.1, d.2.2.1 - 1, d.2.2.2.1, 1)
    else (upd d.1 i v, d.2.1 + 1, d.2.2.1 - 1, d.2.2.2.1, 0)
  else d
def dk_arm (d : DS) (n : Int32) : DS :=
  if d.2.2.2.2 = 0 then
    if 1 ≤ n then (if 30 ≤ d.2.2.2.1 then d else (d.1, d.2.1, n, d.2.2.2.1 + 1, d.2.2.2.2))
    else (d.1, d.2.1, 0, d.2.2.2.1, d.2.2.2.2)
  else d
def fillN (f : Nat → Int32) (n : Nat) (v : Int32) : Nat → Int32 := fun j => if j < n then v else f j
def inR (i : Int32) (n : Nat) : Int32 := if i < 0 then 0 else if nI n ≤ i then 0 else 1
def inB (v b : Int32) (V B : Nat) : Int32 := if inR v V = 0 then 0 else inR b B
def cntC (f : Nat → Int32) (lo : Nat) (v : Int32) : Nat → Nat
  | 0 => 0
  | k + 1 => cntC f lo v k + (if f (lo + k) = v then 1 else 0)
def usd (f : Nat → Int32) (lo q : Nat) (k : Int32) : Int32 := if cntC f lo (k + 1) q = 0 then 0 else 1
def usN (f : Nat → Int32) (lo q : Nat) : Nat → Nat
  | 0 => 0
  | k + 1 => usN f lo q k + (if usd f lo q (nI k) = 0 then 0 else 1)
def samN (f st : Nat → Int32) (off : Nat) : Nat → Int32
  | 0 => 1
  | k + 1 => if f (off + k) = st k then samN f st off k else 0
def dk_as (lo b v w : Nat) (d : DS) : Nat → DS
  | 0 => d
  | k + 1 => dk_write (dk_as lo b v w d k) (lo + v * b + k) ((dk_as lo b v w d k).1 (lo + w * b + k) - 1 + 1)
def dk_un (lo b v : Nat) (d : DS) : Nat → DS
  | 0 => d
  | k + 1 => dk_write (dk_un lo b v d k) (lo + v * b + k) ((-1) + 1)
def carry (d : DS) (gM gB gI : Nat) : DS :=
  if d.1 (gI + 3) = 0 then d
  else if d.1 (gI + 3) = 1 then dk_write (dk_write d (gM + (d.1 gI).toNatClampNeg * gB + (d.1 (gI + 1)).toNatClampNeg) (d.1 (gI + 2) + 1)) (gI + 3) 0
  else if d.1 (gI + 3) = 2 then dk_write (dk_as gM gB (d.1 gI).toNatClampNeg (d.1 (gI + 1)).toNatClampNeg d gB) (gI + 3) 0
  else dk_write (dk_un gM gB (d.1 gI).toNatClampNeg d gB) (gI + 3) 0
def okI (d : DS) (gV gB gI : Nat) : Prop := ¬ d.1 (gI + 3) = 0 → (∃ v, v < gV ∧ d.1 gI = nI v) ∧ (d.1 (gI + 3) = 1 → ∃ b, b < gB ∧ d.1 (gI + 1) = nI b) ∧ (d.1 (gI + 3) = 2 → ∃ q, q < gV ∧ d.1 (gI + 1) = nI q)
def okO (kd : Int32) (o gV gB : Nat) : Prop := (kd = 1 → o < gB) ∧ (kd = 2 → o < gV)
def int4 (d : DS) (gI : Nat) (kd : Int32) (v o : Nat) (sl : Int32) : DS := dk_write (dk_write (dk_write (dk_write d gI (nI v)) (gI + 1) (nI o)) (gI + 2) sl) (gI + 3) kd
def chg (d : DS) (gM gB gI : Nat) (kd : Int32) (v o : Nat) (sl : Int32) : DS := carry (int4 d gI kd v o sl) gM gB gI
def ans (d : DS) : Int32 := if d.2.2.2.2 = 0 then 0 else -4
def nwOk (L : List Cond) (U : State) : Prop := ∀ w ∈ L, va_Nw w U
def pcX (L : List Cond) (D : va_G) (tys : List (ClassId × FieldType)) (ws : va_W) (sz : Nat) (av : List Value) : Array Value → State → Prop := va_Pc av (fun U => U.heap.size = sz ∧ va_P D vwCl ws U.heap ∧ va_K D vwCl tys U ∧ va_D (fun _ => True) ws ∧ nwOk L U)
def atX {S : Type} (D : va_G) (wf : S → va_W) (A : Nat → Prop) : S → State → Prop := fun u t => va_P D vwCl (wf u) t.heap ∧ va_D A (wf u)
def ctI {S : Type} (L : List Cond) (l : Launch) (y : MethodName) (wy : List Cond) (rm : Room) (D : va_G) (tys : List (ClassId × FieldType)) (wf : S → va_W) (u0 : S) (sz : Nat) (av : List Value) (post : Int32 → S → Prop) : Prop := Met l y wy rm (pcX L D tys (wf u0) sz av) (va_Qi post (atX D wf (va_A (wf u0) sz)) (va_A (wf u0) sz)) 0 0 (va_A (wf u0) sz)
def ctV {S : Type} (L : List Cond) (l : Launch) (y : MethodName) (wy : List Cond) (rm : Room) (D : va_G) (tys : List (ClassId × FieldType)) (wf : S → va_W) (u0 : S) (sz : Nat) (av : List Value) (post : S → Prop) : Prop := Met l y wy rm (pcX L D tys (wf u0) sz av) (va_Qv post (atX D wf (va_A (wf u0) sz)) (va_A (wf u0) sz)) 0 0 (va_A (wf u0) sz)
theorem fm_of {α β : Type} {f : α → Option β} : ∀ {l : List α} {L : List β}, l.map f = L.map some → l.filterMap f = L := by
  intro l
  induction l with
  | nil => intro L h; cases L with
    | nil => rfl
    | cons b L => simp at h
  | cons a t ih => intro L h; cases L with
    | nil => simp at h
    | cons b L =>
      simp only [List.map_cons, List.cons.injEq] at h
      rw [List.filterMap_cons_some h.1, ih h.2]
theorem pcX_blind {L : List Cond} (hL : ∀ w ∈ L, w.onTables = true) {D : va_G} {tys : List (ClassId × FieldType)} {ws : va_W} {sz : Nat} {av : List Value} : FrameBlind (pcX L D tys ws sz av) := fun a U g mk q => by
  obtain ⟨q0, q1, qP, qK, qD, qN⟩ := q
  exact ⟨q0, q1, qP, va_K.moved (u := U) (U := U.calling g mk a) (Vm.Alike.refl U.vm) qK, qD, fun w h => va_Nw.same (u := U) (hL w h) rfl (qN w h)⟩
def nwGood (L : List Cond) : Prop := ∀ w ∈ L, w.onTables = true ∧ ∀ (s U : State), s.WarmedH U.vm → va_Nw w s → va_Nw w U
section XC
variable {S : Type} {p : Program} {l : Launch} {e : Env} {R : Room} {s : State} {m : MethodId} {args : Array Value} {below : List Frame} {meth : Method} {c : Code} {H : Heap} {locs : List Loc} {cells slots : Nat} {Q : State → Prop} {D : va_G} {A : Nat → Prop} {ws wr : va_W} {wf : S → va_W} {u0 : S} {pc : Nat} {ls : Array Slot} {st0 rest : List Value} {a : Array Value}
theorem xr_i {post : Int32 → S → Prop} (hr : va_Run p l e R s m args below meth c H locs cells slots 0 0 (F0 m pc ls st0) rest (va_Qi post (atX D wf (va_A (wf u0) H.size)) (va_A (wf u0) H.size) a) (va_A (wf u0) H.size)) (hP : va_P D vwCl ws H) (hD : va_D A ws) (hS : va_S A s.heap H locs) (hA : ∀ q, s.heap.size ≤ q → A q) (isC isR : List Nat) (hC : isC.map (fun i => ws[i]?) = (wf u0).map some) (hR : isR.map (fun i => ws[i]?) = wr.map some) (hn : va_nd isR = true) (hdis : ∀ i ∈ isR, i ∉ isC)
    (kk : ∀ (r : Int32) (u : S) (H : Heap) (locs : List Loc), post r u → va_P D vwCl (wr ++ wf u) H → va_D A (wr ++ wf u) → va_S A s.heap H locs → W p l e R s m args below meth c H locs cells slots Q (F0 m (pc + 3) ls (.int r :: rest))) : W p l e R s m args below meth c H locs cells slots Q (F0 m pc ls st0) := by
  have hFc := va_free (wc := wf u0) hD hS hA isC hC
  refine va_calli hr hS (fun q _ h => hFc q h) hFc (fun r u t H1 locs1 ht hvm hw hB hz1 hk1 hS1 => ?_)
  obtain ⟨hP1, hD1⟩ := hB
  rw [ht] at hP1
  obtain ⟨hP2, hD2⟩ := va_join (wr := wr) (w1 := wf u) hP hD isC isR hC hR hn hdis hk1 hFc hP1 hD1
  exact kk r u H1 locs1 hw hP2 hD2 hS1
theorem xr_v {post : S → Prop} (hr : va_Run p l e R s m args below meth c H locs cells slots 0 0 (F0 m pc ls st0) rest (va_Qv post (atX D wf (va_A (wf u0) H.size)) (va_A (wf u0) H.size) a) (va_A (wf u0) H.size)) (hP : va_P D vwCl ws H) (hD : va_D A ws) (hS : va_S A s.heap H locs) (hA : ∀ q, s.heap.size ≤ q → A q) (isC isR : List Nat) (hC : isC.map (fun i => ws[i]?) = (wf u0).map some) (hR : isR.map (fun i => ws[i]?) = wr.map some) (hn : va_nd isR = true) (hdis : ∀ i ∈ isR, i ∉ isC)
    (kk : ∀ (u : S) (H : Heap) (locs : List Loc), post u → va_P D vwCl (wr ++ wf u) H → va_D A (wr ++ wf u) → va_S A s.heap H locs → W p l e R s m args below meth c H locs cells slots Q (F0 m (pc + 3) ls rest)) : W p l e R s m args below meth c H locs cells slots Q (F0 m pc ls st0) := by
  have hFc := va_free (wc := wf u0) hD hS hA isC hC
  refine va_callv hr hS (fun q _ h => hFc q h) hFc (fun u t H1 locs1 ht hvm hw hB hz1 hk1 hS1 => ?_)
  obtain ⟨hP1, hD1⟩ := hB
  rw [ht] at hP1
  obtain ⟨hP2, hD2⟩ := va_join (wr := wr) (w1 := wf u) hP hD isC isR hC hR hn hdis hk1 hFc hP1 hD1
  exact kk u H1 locs1 hw hP2 hD2 hS1
theorem xp_v {L : List Cond} (hL : nwGood L) {C : String} {b : Nat} {As : List Value} {tyc : List (ClassId × FieldType)} (hK : va_K D vwCl tyc s) (hN : nwOk L s) (hP : va_P D vwCl ws H) (hD : va_D A ws) (isC : List Nat) (hnc : va_nd isC = true) (hC : isC.map (fun i => ws[i]?) = (wf u0).map some) (hrc : ∃ cellB : Cell, H[b]? = some cellB ∧ cellB.vm.isStatics = false ∧ s.vm.findClass C = some cellB.cls) : PreV s H C b (pcX L D tyc (wf u0) H.size (.ref b :: As)) As :=
  ⟨pcX_blind (fun w h => (hL w h).1), hrc, fun U hU hW => ⟨rfl, by rw [hU], by rw [hU]; exact hP.sub isC (fm_of hC), va_K.moved hW.alike hK, (hD.sub isC hnc hC).weaken (fun _ _ _ _ => trivial), fun w h => (hL w h).2 s U hW (hN w h)⟩⟩
theorem xp_s {L : List Cond} (hL : nwGood L) {As : List Value} {tyc : List (ClassId × FieldType)} (hK : va_K D vwCl tyc s) (hN : nwOk L s) (hP : va_P D vwCl ws H) (hD : va_D A ws) (isC : List Nat) (hnc : va_nd isC = true) (hC : isC.map (fun i => ws[i]?) = (wf u0).map some) : PreS s H (pcX L D tyc (wf u0) H.size As) As :=
  ⟨pcX_blind (fun w h => (hL w h).1), fun U hU hW => ⟨rfl, by rw [hU], by rw [hU]; exact hP.sub isC (fm_of hC), va_K.moved hW.alike hK, (hD.sub isC hnc hC).weaken (fun _ _ _ _ => trivial), fun w h => (hL w h).2 s U hW (hN w h)⟩⟩
end XC
theorem nar_z {v : Int32} (h : v = 0 ∨ v = 1) : narrow .boolean (.int v) = .int v := by
  rcases h with h | h <;> rw [h] <;> rfl
theorem ix_lt {v V b B : Nat} (hv : v < V) (hb : b < B) : v * B + b < V * B := by
  have h : (v + 1) * B ≤ V * B := Nat.mul_le_mul_right B hv
  rw [Nat.succ_mul] at h
  omega
theorem ix_eq {v w b q B : Nat} (hb : b < B) (hq : q < B) (h : v * B + b = w * B + q) : v = w ∧ b = q := by
  rcases Nat.lt_trichotomy v w with c | c | c
  · have h2 : (v + 1) * B ≤ w * B := Nat.mul_le_mul_right B c
    rw [Nat.succ_mul] at h2
    omega
  · subst c
    omega
  · have h2 : (w + 1) * B ≤ v * B := Nat.mul_le_mul_right B c
    rw [Nat.succ_mul] at h2
    omega
theorem geo_b {gW gC gV gB gM gI : Nat} (hg : geo gW gC gV gB gM gI) : gM ≤ 52 ∧ gV * gB ≤ 24 := by
  obtain ⟨⟨hW1, hW2⟩, ⟨hC1, hC2⟩, ⟨hV1, hV2⟩, ⟨hB1, hB2⟩, eM, eI⟩ := hg
  have h1 : (gC + 1) * gW ≤ 13 * 4 := Nat.mul_le_mul (by omega) hW2
  have h2 : gV * gB ≤ 4 * 6 := Nat.mul_le_mul hV2 hB2
  exact ⟨by omega, by omega⟩
theorem geo_map {gW gC gV gB gM gI v b : Nat} (hg : geo gW gC gV gB gM gI) (hv : v < gV) (hb : b < gB) : gM + v * gB + b < gI := by
  have h := ix_lt hv hb
  have h2 := hg.2.2.2.2.2
  omega
theorem geo_slot {gW gC gV gB gM gI k i : Nat} (hg : geo gW gC gV gB gM gI) (hk : k ≤ gC) (hi : i < gW) : k * gW + i < gM := by
  have h := ix_lt (V := gC + 1) (v := k) (by omega) hi
  have h2 := hg.2.2.2.2.1
  omega
theorem inR_nz {i : Int32} {n : Nat} (hn : n < 2 ^ 31) (h : ¬ inR i n = 0) : ∃ j : Nat, j < n ∧ i = nI j := by
  unfold inR at h
  rcases pk_ix i hn with q | q | q
  · exact absurd (if_pos q) h
  · by_cases c : i < 0
    · exact absurd (if_pos c) h
    · exact absurd (by rw [if_neg c, if_pos q]) h
  · exact q
theorem inR_of {j n : Nat} (hj : j < n) (hn : n < 2 ^ 31) : inR (nI j) n = 1 := by
  unfold inR
  rw [if_neg (nI_pos (by omega)), if_neg (nI_ge hj hn)]
theorem inB_nz {v b : Int32} {V B : Nat} (hV : V < 2 ^ 31) (hB : B < 2 ^ 31) (h : ¬ inB v b V B = 0) : ∃ x y : Nat, x < V ∧ y < B ∧ v = nI x ∧ b = nI y := by
  unfold inB at h
  by_cases c : inR v V = 0
  · exact absurd (if_pos c) h
  · rw [if_neg c] at h
    obtain ⟨x, hx, ex⟩ := inR_nz hV c
    obtain ⟨y, hy, ey⟩ := inR_nz hB h
    exact ⟨x, y, hx, hy, ex, ey⟩
theorem cntC_le (f : Nat → Int32) (lo : Nat) (v : Int32) : ∀ k, cntC f lo v k ≤ k
  | 0 => Nat.le_refl 0
  | k + 1 => by
    have h := cntC_le f lo v k
    unfold cntC
    split <;> omega
theorem cntC_hit {f : Nat → Int32} {lo k : Nat} {v : Int32} (h : f (lo + k) = v) : cntC f lo v k + 1 = cntC f lo v (k + 1) := by
  show _ = cntC f lo v k + (if f (lo + k) = v then 1 else 0)
  rw [if_pos h]
theorem cntC_mis {f : Nat → Int32} {lo k : Nat} {v : Int32} (h : ¬ f (lo + k) = v) : cntC f lo v k = cntC f lo v (k + 1) := by
  show _ = cntC f lo v k + (if f (lo + k) = v then 1 else 0)
  rw [if_neg h, Nat.add_zero]
theorem usN_hit {f : Nat → Int32} {lo q k : Nat} (h : ¬ usd f lo q (nI k) = 0) : usN f lo q k + 1 = usN f lo q (k + 1) := by
  show _ = usN f lo q k + (if usd f lo q (nI k) = 0 then 0 else 1)
  rw [if_neg h]
theorem usN_mis {f : Nat → Int32} {lo q k : Nat} (h : usd f lo q (nI k) = 0) : usN f lo q k = usN f lo q (k + 1) := by
  show _ = usN f lo q k + (if usd f lo q (nI k) = 0 then 0 else 1)
  rw [if_pos h, Nat.add_zero]
theorem usN_le (f : Nat → Int32) (lo q : Nat) : ∀ k, usN f lo q k ≤ k
  | 0 => Nat.le_refl 0
  | k + 1 => by
    have h := usN_le f lo q k
    unfold usN
    split <;> omega
theorem samN_go {f st : Nat → Int32} {off k : Nat} (h : samN f st off k = 1) (e : f (off + k) = st k) : samN f st off (k + 1) = 1 := by
  show (if f (off + k) = st k then samN f st off k else 0) = 1
  rw [if_pos e]
  exact h
theorem samN_no {f st : Nat → Int32} {off k n : Nat} (hk : k < n) (e : ¬ f (off + k) = st k) : samN f st off n = 0 := by
  induction n with
  | zero => omega
  | succ n ih =>
    show (if f (off + n) = st n then samN f st off n else 0) = 0
    rcases Nat.lt_or_ge k n with q | q
    · rw [ih q]
      split <;> rfl
    · have : k = n := by omega
      subst this
      rw [if_neg e]
theorem dk_two (d : DS) (i : Nat) (v : Int32) : ((dk_write d i v).1 = upd d.1 i v ∧ (dk_write d i v).2.2.2.2 = 0) ∨ ((dk_write d i v).1 = d.1 ∧ ¬ (dk_write d i v).2.2.2.2 = 0) := by
  unfold dk_write
  by_cases h1 : d.2.2.2.2 = 0
  · rw [if_pos h1]
    by_cases h2 : d.2.2.1 = 0
    · rw [if_pos h2]; exact Or.inl ⟨rfl, h1⟩
    · rw [if_neg h2]
      by_cases h3 : d.2.2.1 - 1 = 0
      · rw [if_pos h3]; exact Or.inr ⟨rfl, by show ¬ (1 : Int32) = 0; decide⟩
      · rw [if_neg h3]; exact Or.inl ⟨rfl, rfl⟩
  · rw [if_neg h1]; exact Or.inr ⟨rfl, h1⟩
theorem dk_down {d : DS} (h : ¬ d.2.2.2.2 = 0) (i : Nat) (v : Int32) : dk_write d i v = d := by
  unfold dk_write
  rw [if_neg h]
theorem dk_z {d : DS} (h : d.2.2.2.2 = 0 ∨ d.2.2.2.2 = 1) (i : Nat) (v : Int32) : (dk_write d i v).2.2.2.2 = 0 ∨ (dk_write d i v).2.2.2.2 = 1 := by
  unfold dk_write
  by_cases h1 : d.2.2.2.2 = 0
  · rw [if_pos h1]
    by_cases h2 : d.2.2.1 = 0
    · rw [if_pos h2]; exact h
    · rw [if_neg h2]
      by_cases h3 : d.2.2.1 - 1 = 0
      · rw [if_pos h3]; exact Or.inr rfl
      · rw [if_neg h3]; exact Or.inl rfl
  · rw [if_neg h1]; exact h
theorem dk_as_z {lo b v w : Nat} {d : DS} (h : d.2.2.2.2 = 0 ∨ d.2.2.2.2 = 1) : ∀ k, (dk_as lo b v w d k).2.2.2.2 = 0 ∨ (dk_as lo b v w d k).2.2.2.2 = 1
  | 0 => h
  | k + 1 => dk_z (dk_as_z h k) _ _
theorem dk_un_z {lo b v : Nat} {d : DS} (h : d.2.2.2.2 = 0 ∨ d.2.2.2.2 = 1) : ∀ k, (dk_un lo b v d k).2.2.2.2 = 0 ∨ (dk_un lo b v d k).2.2.2.2 = 1
  | 0 => h
  | k + 1 => dk_z (dk_un_z h k) _ _
theorem carry_z {d : DS} {gM gB gI : Nat} (h : d.2.2.2.2 = 0 ∨ d.2.2.2.2 = 1) : (carry d gM gB gI).2.2.2.2 = 0 ∨ (carry d gM gB gI).2.2.2.2 = 1 := by
  unfold carry
  split
  · exact h
  · split
    · exact dk_z (dk_z h _ _) _ _
    · split
      · exact dk_z (dk_as_z h _) _ _
      · exact dk_z (dk_un_z h _) _ _
theorem chg_z {d : DS} {gM gB gI : Nat} {kd : Int32} {v o : Nat} {sl : Int32} (h : d.2.2.2.2 = 0 ∨ d.2.2.2.2 = 1) : (chg d gM gB gI kd v o sl).2.2.2.2 = 0 ∨ (chg d gM gB gI kd v o sl).2.2.2.2 = 1 := by
  unfold chg
  refine carry_z ?_
  unfold int4
  exact dk_z (dk_z (dk_z (dk_z h _ _) _ _) _ _) _ _
theorem int4_two (d : DS) (gI : Nat) (kd : Int32) (v o : Nat) (sl : Int32) :
    ((int4 d gI kd v o sl).1 = upd (upd (upd (upd d.1 gI (nI v)) (gI + 1) (nI o)) (gI + 2) sl) (gI + 3) kd ∧ (int4 d gI kd v o sl).2.2.2.2 = 0) ∨ ((int4 d gI kd v o sl).1 (gI + 3) = d.1 (gI + 3) ∧ ¬ (int4 d gI kd v o sl).2.2.2.2 = 0) := by
  unfold int4
  generalize e1 : dk_write d gI (nI v) = d1
  generalize e2 : dk_write d1 (gI + 1) (nI o) = d2
  generalize e3 : dk_write d2 (gI + 2) sl = d3
  generalize e4 : dk_write d3 (gI + 3) kd = d4
  have k1 := dk_two d gI (nI v)
  rw [e1] at k1
  have k2 := dk_two d1 (gI + 1) (nI o)
  rw [e2] at k2
  have k3 := dk_two d2 (gI + 2) sl
  rw [e3] at k3
  have k4 := dk_two d3 (gI + 3) kd
  rw [e4] at k4
  have n1 : ¬ gI + 3 = gI := by omega
  have n2 : ¬ gI + 3 = gI + 1 := by omega
  have n3 : ¬ gI + 3 = gI + 2 := by omega
  rcases k4 with ⟨a4, b4⟩ | ⟨a4, b4⟩
  · left
    refine ⟨?_, b4⟩
    have z3 : d3.2.2.2.2 = 0 := Classical.byContradiction fun h => by
      have := dk_down h (gI + 3) kd
      rw [e4] at this
      exact h (by rw [← this]; exact b4)
    have z2 : d2.2.2.2.2 = 0 := Classical.byContradiction fun h => by
      have := dk_down h (gI + 2) sl
      rw [e3] at this
      exact h (by rw [← this]; exact z3)
    have z1 : d1.2.2.2.2 = 0 := Classical.byContradiction fun h => by
      have := dk_down h (gI + 1) (nI o)
      rw [e2] at this
      exact h (by rw [← this]; exact z2)
    have a3 : d3.1 = upd d2.1 (gI + 2) sl := by
      rcases k3 with q | q
      · exact q.1
      · exact absurd z3 q.2
    have a2 : d2.1 = upd d1.1 (gI + 1) (nI o) := by
      rcases k2 with q | q
      · exact q.1
      · exact absurd z2 q.2
    have a1 : d1.1 = upd d.1 gI (nI v) := by
      rcases k1 with q | q
      · exact q.1
      · exact absurd z1 q.2
    rw [a4, a3, a2, a1]
  · right
    refine ⟨?_, b4⟩
    rw [a4]
    have s3 : d3.1 (gI + 3) = d2.1 (gI + 3) := by
      rcases k3 with q | q
      · rw [q.1, pk_un n3]
      · rw [q.1]
    have s2 : d2.1 (gI + 3) = d1.1 (gI + 3) := by
      rcases k2 with q | q
      · rw [q.1, pk_un n2]
      · rw [q.1]
    have s1 : d1.1 (gI + 3) = d.1 (gI + 3) := by
      rcases k1 with q | q
      · rw [q.1, pk_un n1]
      · rw [q.1]
    rw [s3, s2, s1]
theorem int4_ok {d : DS} {gV gB gI : Nat} {kd : Int32} {v o : Nat} {sl : Int32} (hk0 : d.1 (gI + 3) = 0) (hv : v < gV) (ho : okO kd o gV gB) : okI (int4 d gI kd v o sl) gV gB gI := by
  intro h
  rcases int4_two d gI kd v o sl with ⟨a, b⟩ | ⟨a, b⟩
  · rw [a, pk_us, pk_un (show ¬ gI = gI + 3 by omega), pk_un (show ¬ gI = gI + 2 by omega), pk_un (show ¬ gI = gI + 1 by omega), pk_us, pk_un (show ¬ gI + 1 = gI + 3 by omega), pk_un (show ¬ gI + 1 = gI + 2 by omega), pk_us]
    exact ⟨⟨v, hv, rfl⟩, fun q => ⟨o, ho.1 q, rfl⟩, fun q => ⟨o, ho.2 q, rfl⟩⟩
  · exact absurd (a.trans hk0) h
def ar_w (ha : Nat) (cA : ClassId) (n : Nat) (f : Nat → Int32) : va_W := [(ha, .inl (cA, n, .inl f))]
theorem fillN_0 {f : Nat → Int32} {v : Int32} : f = fillN f 0 v := by
  funext j
  unfold fillN
  rw [if_neg (Nat.not_lt_zero j)]
theorem fillN_s {f : Nat → Int32} {i : Nat} {v : Int32} : upd (fillN f i v) i v = fillN f (i + 1) v := by
  funext j
  by_cases h : j = i
  · subst h
    rw [pk_us]
    unfold fillN
    rw [if_pos (Nat.lt_succ_self j)]
  · rw [pk_un h]
    unfold fillN
    by_cases c : j < i
    · rw [if_pos c, if_pos (by omega)]
    · rw [if_neg c, if_neg (by omega)]
def dk_ws (d : DS) (off : Nat) (st : Nat → Int32) : Nat → DS
  | 0 => d
  | k + 1 => dk_write (dk_ws d off st k) (off + k) (st k)
theorem dk_ws_z {d : DS} {off : Nat} {st : Nat → Int32} (h : d.2.2.2.2 = 0 ∨ d.2.2.2.2 = 1) : ∀ k, (dk_ws d off st k).2.2.2.2 = 0 ∨ (dk_ws d off st k).2.2.2.2 = 1
  | 0 => h
  | k + 1 => dk_z (dk_ws_z h k) _ _
theorem dk_out {d : DS} {i j : Nat} {v : Int32} (h : ¬ j = i) : (dk_write d i v).1 j = d.1 j := by
  rcases dk_two d i v with q | q
  · rw [q.1, pk_un h]
  · rw [q.1]
theorem dk_ws_out {d : DS} {off : Nat} {st : Nat → Int32} {k j : Nat} (h : j < off ∨ off + k ≤ j) : (dk_ws d off st k).1 j = d.1 j := by
  induction k with
  | zero => rfl
  | succ k ih =>
    show (dk_write (dk_ws d off st k) (off + k) (st k)).1 j = d.1 j
    rw [dk_out (by omega)]
    exact ih (by omega)
theorem slot_of {x : Int32} {n : Nat} (h : ∃ j, j ≤ n + 1 ∧ x = nI j) (c : ¬ x - 1 = -1) : ∃ k, k ≤ n ∧ x - 1 = nI k := by
  obtain ⟨j, hj, ej⟩ := h
  cases j with
  | zero => exact absurd (by rw [ej]; rfl) c
  | succ k => exact ⟨k, by omega, by rw [ej]; exact nI_pred k⟩
theorem nI_of3 {x : Int32} {n : Nat} (hn : n < 2 ^ 31) (h0 : ¬ x < 0) (h : ¬ nI n < x) : ∃ k, k ≤ n ∧ x = nI k := by
  obtain ⟨k, hk, ek⟩ := nI_of h0
  refine ⟨k, ?_, ek⟩
  rcases Nat.lt_or_ge n k with q | q
  · exact absurd (by rw [ek]; exact nI_lt q hk) h
  · exact q
theorem nI_nm1 {i : Nat} (h : i < 2 ^ 31) : ¬ nI i = -1 := fun q => nI_pos h (by rw [q]; decide)
def x_format (st : Nat → Int32) (d : DS) (gW gC gV gB gM gI : Nat) : Int32 × XS := (0, (fillN st gW 0, (fillN d.1 (gI + 4) 0, d.2.1, 0, d.2.2.2.1, 0)))
def x_stage (st : Nat → Int32) (d : DS) (gW gC gV gB gM gI : Nat) (i x : Int32) : Int32 × XS :=
  if d.2.2.2.2 = 0 then (if inR i gW = 0 then (-1, (st, d)) else (0, (upd st i.toNatClampNeg x, d))) else (-4, (st, d))
def x_read (st : Nat → Int32) (d : DS) (gW gC gV gB gM gI : Nat) (vol lb i : Int32) : Int32 × XS :=
  if d.2.2.2.2 = 0 then
    if inB vol lb gV gB = 0 then (0, (st, d))
    else if inR i gW = 0 then (0, (st, d))
    else if d.1 (gM + vol.toNatClampNeg * gB + lb.toNatClampNeg) - 1 = -1 then (0, (st, d))
    else (d.1 ((d.1 (gM + vol.toNatClampNeg * gB + lb.toNatClampNeg) - 1).toNatClampNeg * gW + i.toNatClampNeg), (st, d))
  else (-4, (st, d))
def x_trim (st : Nat → Int32) (d : DS) (gW gC gV gB gM gI : Nat) (vol lb : Int32) : Int32 × XS :=
  if d.2.2.2.2 = 0 then
    if inB vol lb gV gB = 0 then (-1, (st, d))
    else if d.1 (gM + vol.toNatClampNeg * gB + lb.toNatClampNeg) - 1 = -1 then (-3, (st, d))
    else (ans (chg d gM gB gI 1 vol.toNatClampNeg lb.toNatClampNeg (-1)), (st, chg d gM gB gI 1 vol.toNatClampNeg lb.toNatClampNeg (-1)))
  else (-4, (st, d))
def x_clone (st : Nat → Int32) (d : DS) (gW gC gV gB gM gI : Nat) (src dst : Int32) : Int32 × XS :=
  if d.2.2.2.2 = 0 then
    if inR src gV = 0 then (-1, (st, d))
    else if inR dst gV = 0 then (-1, (st, d))
    else (ans (chg d gM gB gI 2 dst.toNatClampNeg src.toNatClampNeg 0), (st, chg d gM gB gI 2 dst.toNatClampNeg src.toNatClampNeg 0))
  else (-4, (st, d))
def x_drop (st : Nat → Int32) (d : DS) (gW gC gV gB gM gI : Nat) (vol : Int32) : Int32 × XS :=
  if d.2.2.2.2 = 0 then
    if inR vol gV = 0 then (-1, (st, d))
    else (ans (chg d gM gB gI 3 vol.toNatClampNeg 0 0), (st, chg d gM gB gI 3 vol.toNatClampNeg 0 0))
  else (-4, (st, d))
def x_used (st : Nat → Int32) (d : DS) (gW gC gV gB gM gI : Nat) : Int32 × XS :=
  if d.2.2.2.2 = 0 then (nI (usN d.1 gM (gV * gB) (gC + 1)), (st, d)) else (-4, (st, d))
def x_refs (st : Nat → Int32) (d : DS) (gW gC gV gB gM gI : Nat) (vol lb : Int32) : Int32 × XS :=
  if d.2.2.2.2 = 0 then
    if inB vol lb gV gB = 0 then (0, (st, d))
    else if d.1 (gM + vol.toNatClampNeg * gB + lb.toNatClampNeg) - 1 = -1 then (0, (st, d))
    else (nI (cntC d.1 gM (d.1 (gM + vol.toNatClampNeg * gB + lb.toNatClampNeg) - 1 + 1) (gV * gB)), (st, d))
  else (-4, (st, d))
def x_slot (st : Nat → Int32) (d : DS) (gW gC gV gB gM gI : Nat) (vol lb : Int32) : Int32 × XS :=
  if d.2.2.2.2 = 0 then
    if inB vol lb gV gB = 0 then (-1, (st, d))
    else if d.1 (gM + vol.toNatClampNeg * gB + lb.toNatClampNeg) - 1 = -1 then (-3, (st, d))
    else (d.1 (gM + vol.toNatClampNeg * gB + lb.toNatClampNeg) - 1, (st, d))
  else (-4, (st, d))
def x_word (st : Nat → Int32) (d : DS) (gW gC gV gB gM gI : Nat) (slot i : Int32) : Int32 × XS :=
  if d.2.2.2.2 = 0 then
    if slot < 0 then (0, (st, d))
    else if nI gC < slot then (0, (st, d))
    else if inR i gW = 0 then (0, (st, d))
    else (d.1 (slot.toNatClampNeg * gW + i.toNatClampNeg), (st, d))
  else (-4, (st, d))
def x_rec (st : Nat → Int32) (d : DS) (gW gC gV gB gM gI : Nat) : Int32 × XS :=
  if d.2.2.2.2 = 0 then (0, (st, d)) else (0, (fillN st gW 0, carry (d.1, d.2.1, d.2.2.1, d.2.2.2.1, 0) gM gB gI))
def x_uwo (f : Nat → Int32) (gM q gC : Nat) (c : Int32) : Int32 :=
  if c - 1 = -1 then nI (usN f gM q (gC + 1)) else if cntC f gM (c - 1 + 1) q = 1 then nI (usN f gM q (gC + 1)) - 1 else nI (usN f gM q (gC + 1))
def x_wn (st : Nat → Int32) (d : DS) (gW gC gV gB gM gI v b : Nat) (r : Int32) (u : XS) : Prop :=
  (¬ x_uwo d.1 gM (gV * gB) gC (d.1 (gM + v * gB + b)) < nI gC ∧ r = -2 ∧ u = (st, d)) ∨
  (x_uwo d.1 gM (gV * gB) gC (d.1 (gM + v * gB + b)) < nI gC ∧ ∃ k : Nat, k ≤ gC ∧ (∀ j, j < k → ¬ usd d.1 gM (gV * gB) (nI j) = 0) ∧ (k < gC → usd d.1 gM (gV * gB) (nI k) = 0) ∧
    r = ans (chg (dk_ws d (k * gW) st gW) gM gB gI 1 v b (nI k)) ∧ u = (st, chg (dk_ws d (k * gW) st gW) gM gB gI 1 v b (nI k)))
theorem x_wn_st {st s9 : Nat → Int32} {d d9 : DS} {gW gC gV gB gM gI v b : Nat} {r : Int32} (h : x_wn st d gW gC gV gB gM gI v b r (s9, d9)) : s9 = st ∧ x_wn st d gW gC gV gB gM gI v b r (s9, d9) := by
  refine ⟨?_, h⟩
  rcases h with ⟨-, -, h⟩ | ⟨-, k, -, -, -, -, h⟩
  · exact (Prod.mk.inj h).1
  · exact (Prod.mk.inj h).1
def x_wb (st : Nat → Int32) (d : DS) (gW gC gV gB gM gI : Nat) (vol lb : Int32) (r : Int32) (u : XS) : Prop :=
  (¬ d.2.2.2.2 = 0 ∧ r = -4 ∧ u = (st, d)) ∨
  (d.2.2.2.2 = 0 ∧ inB vol lb gV gB = 0 ∧ r = -1 ∧ u = (st, d)) ∨
  (d.2.2.2.2 = 0 ∧ ¬ inB vol lb gV gB = 0 ∧ ∃ v b : Nat, v < gV ∧ b < gB ∧ vol = nI v ∧ lb = nI b ∧
    (((∀ j, j < gC + 1 → ¬ (¬ samN d.1 st (j * gW) gW = 0 ∧ ¬ usd d.1 gM (gV * gB) (nI j) = 0)) ∧ x_wn st d gW gC gV gB gM gI v b r u) ∨
     (∃ i : Nat, i ≤ gC ∧ ¬ samN d.1 st (i * gW) gW = 0 ∧ ¬ usd d.1 gM (gV * gB) (nI i) = 0 ∧
       ((nI i = d.1 (gM + v * gB + b) - 1 ∧ r = 0 ∧ u = (st, d)) ∨ (¬ nI i = d.1 (gM + v * gB + b) - 1 ∧ r = ans (chg d gM gB gI 1 v b (nI i)) ∧ u = (st, chg d gM gB gI 1 v b (nI i)))))))
theorem nwL_ok : nwGood nwL := fun w h => by
  unfold nwL at h
  simp only [List.mem_cons, List.not_mem_nil, or_false] at h
  rcases h with q | q | q | q | q | q | q | q <;> rw [q] <;> exact ⟨rfl, fun s U hW hz => va_Nw.warmM hW hz⟩
end
section
set_option maxHeartbeats 4000000 in
set_option maxRecDepth 100000 in
theorem k_X1_isDown (l : Launch) (dC : Nat → ClassId) (dI : Nat → Nat → Nat) (hd hc : Nat) (a2 : ClassId) (n : Nat) (hn : n < 2 ^ 31) (sz : Nat) (d : DS) (hz : d.2.2.2.2 = 0 ∨ d.2.2.2.2 = 1) : ctI nwL l yX1_isDown wsX1_isDown ({ frames := 0, cells := 0, slots := 0, locals := 0 } : Room) (dC, dI) [(a2, .int)] (dk_w hd hc a2 n) d sz [.ref hd] (fun (r : Int32) (u : DS) => r = d.2.2.2.2 ∧ u = d) := by
  refine Met.ofW (cc := cX1_isDown) (maxL := 1) (ret := (some .boolean)) (by decide) rfl ?_
  intro p e s m args below meth c s₁ B hml hv
  obtain ⟨rfl, hsz, hP, hK, hD0, hN⟩ := hv
  have hx := B.exec
  have hb := B.bytes
  have hr := B.returns
  have hts := fun w h => atoms_spec (ws := wsX1_isDown) B.pre w (List.mem_cons_of_mem _ h)
  have hown : s.vm.findClass RX1 = some m.cls := findClass_of_methodNamed B.named
  have hlocks := B.notSynchronized
  subst hsz
  have hD := hD0.self (sz := s.heap.size)
  generalize hAe : va_A ((dk_w hd hc a2 n) d) s.heap.size = A at hD ⊢
  have hA : ∀ q : Nat, s.heap.size ≤ q → A q := fun q h => by rw [← hAe]; exact Or.inr h
  have hS : va_S A s.heap s.heap [] := va_S.rf
  have hl := lv_entry ([.ref hd]) (n := 1) (Nat.le_of_ble_eq_true rfl)
  rw [lg_entry_eq]
  generalize (lg_sl ([.ref hd]) ++ List.replicate (1 - (lg_sl ([.ref hd])).length) Slot.unset).toArray = ls at hl ⊢
  have hP : va_P (dC, dI) vwCl [(hd, .inr (1, [.ref hc, .int d.2.1, .int d.2.2.1, .int d.2.2.2.1, .int d.2.2.2.2])), (hc, .inl (a2, n, .inl d.1))] s.heap := hP
  have hD : va_D A [(hd, .inr (1, [.ref hc, .int d.2.1, .int d.2.2.1, .int d.2.2.2.1, .int d.2.2.2.2])), (hc, .inl (a2, n, .inl d.1))] := hD
  have hl : lv_has ls 1 [(0, .ref hd)] := hl
  refine lv_aload_n hx hb dX1_isDown_0 rfl (lv_at hl 0 rfl) ?_
  refine va_get (D := (dC, dI)) (ci := 1) (v := .int d.2.2.2.2) (C := RX1) (T := TX1) (N := 5) hx hb hts inX1 hown hK hP 0 rfl rfl 4 (by decide) (hts _ tb_33) (fun _ h9 => h9) rfl dX1_isDown_1 ?_
  exact W.zret (v := d.2.2.2.2) hx hb hr (nar_z hz) (fun t ht hW => ⟨⟨d.2.2.2.2, (d.1, d.2.1, d.2.2.1, d.2.2.2.1, d.2.2.2.2), rfl, ⟨rfl, rfl⟩, by rw [ht]; exact hP, hD⟩, hS.F ht⟩) hS.2.2 dX1_isDown_4
set_option maxHeartbeats 4000000 in
set_option maxRecDepth 100000 in
theorem k_X1_writesDone (l : Launch) (dC : Nat → ClassId) (dI : Nat → Nat → Nat) (hd hc : Nat) (a2 : ClassId) (n : Nat) (hn : n < 2 ^ 31) (sz : Nat) (d : DS)  : ctI nwL l yX1_writesDone wsX1_writesDone ({ frames := 0, cells := 0, slots := 0, locals := 0 } : Room) (dC, dI) [(a2, .int)] (dk_w hd hc a2 n) d sz [.ref hd] (fun (r : Int32) (u : DS) => r = d.2.1 ∧ u = d) := by
  refine Met.ofW (cc := cX1_writesDone) (maxL := 1) (ret := (some .int)) (by decide) rfl ?_
  intro p e s m args below meth c s₁ B hml hv
  obtain ⟨rfl, hsz, hP, hK, hD0, hN⟩ := hv
  have hx := B.exec
  have hb := B.bytes
  have hr := B.returns
  have hts := fun w h => atoms_spec (ws := wsX1_writesDone) B.pre w (List.mem_cons_of_mem _ h)
  have hown : s.vm.findClass RX1 = some m.cls := findClass_of_methodNamed B.named
  have hlocks := B.notSynchronized
  subst hsz
  have hD := hD0.self (sz := s.heap.size)
  generalize hAe : va_A ((dk_w hd hc a2 n) d) s.heap.size = A at hD ⊢
  have hA : ∀ q : Nat, s.heap.size ≤ q → A q := fun q h => by rw [← hAe]; exact Or.inr h
  have hS : va_S A s.heap s.heap [] := va_S.rf
  have hl := lv_entry ([.ref hd]) (n := 1) (Nat.le_of_ble_eq_true rfl)
  rw [lg_entry_eq]
  generalize (lg_sl ([.ref hd]) ++ List.replicate (1 - (lg_sl ([.ref hd])).length) Slot.unset).toArray = ls at hl ⊢
  have hP : va_P (dC, dI) vwCl [(hd, .inr (1, [.ref hc, .int d.2.1, .int d.2.2.1, .int d.2.2.2.1, .int d.2.2.2.2])), (hc, .inl (a2, n, .inl d.1))] s.heap := hP
  have hD : va_D A [(hd, .inr (1, [.ref hc, .int d.2.1, .int d.2.2.1, .int d.2.2.2.1, .int d.2.2.2.2])), (hc, .inl (a2, n, .inl d.1))] := hD
  have hl : lv_has ls 1 [(0, .ref hd)] := hl
  refine lv_aload_n hx hb dX1_writesDone_0 rfl (lv_at hl 0 rfl) ?_
  refine va_get (D := (dC, dI)) (ci := 1) (v := .int d.2.1) (C := RX1) (T := TX1) (N := 5) hx hb hts inX1 hown hK hP 0 rfl rfl 1 (by decide) (hts _ tb_30) (fun _ h9 => h9) rfl dX1_writesDone_1 ?_
  exact W.iret (v := d.2.1) hx hb hr (fun t ht hW => ⟨⟨d.2.1, (d.1, d.2.1, d.2.2.1, d.2.2.2.1, d.2.2.2.2), rfl, ⟨rfl, rfl⟩, by rw [ht]; exact hP, hD⟩, hS.F ht⟩) hS.2.2 dX1_writesDone_4
set_option maxHeartbeats 4000000 in
set_option maxRecDepth 100000 in
theorem k_X1_read (l : Launch) (dC : Nat → ClassId) (dI : Nat → Nat → Nat) (hd hc : Nat) (a2 : ClassId) (n : Nat) (hn : n < 2 ^ 31) (sz : Nat) (d : DS) (i : Nat) (hi : i < n) : ctI nwL l yX1_read wsX1_read ({ frames := 0, cells := 0, slots := 0, locals := 0 } : Room) (dC, dI) [(a2, .int)] (dk_w hd hc a2 n) d sz [.ref hd, .int (nI i)] (fun (r : Int32) (u : DS) => r = d.1 i ∧ u = d) := by
  refine Met.ofW (cc := cX1_read) (maxL := 2) (ret := (some .int)) (by decide) rfl ?_
  intro p e s m args below meth c s₁ B hml hv
  obtain ⟨rfl, hsz, hP, hK, hD0, hN⟩ := hv
  have hx := B.exec
  have hb := B.bytes
  have hr := B.returns
  have hts := fun w h => atoms_spec (ws := wsX1_read) B.pre w (List.mem_cons_of_mem _ h)
  have hown : s.vm.findClass RX1 = some m.cls := findClass_of_methodNamed B.named
  have hlocks := B.notSynchronized
  subst hsz
  have hD := hD0.self (sz := s.heap.size)
  generalize hAe : va_A ((dk_w hd hc a2 n) d) s.heap.size = A at hD ⊢
  have hA : ∀ q : Nat, s.heap.size ≤ q → A q := fun q h => by rw [← hAe]; exact Or.inr h
  have hS : va_S A s.heap s.heap [] := va_S.rf
  have hl := lv_entry ([.ref hd, .int (nI i)]) (n := 2) (Nat.le_of_ble_eq_true rfl)
  rw [lg_entry_eq]
  generalize (lg_sl ([.ref hd, .int (nI i)]) ++ List.replicate (2 - (lg_sl ([.ref hd, .int (nI i)])).length) Slot.unset).toArray = ls at hl ⊢
  have hP : va_P (dC, dI) vwCl [(hd, .inr (1, [.ref hc, .int d.2.1, .int d.2.2.1, .int d.2.2.2.1, .int d.2.2.2.2])), (hc, .inl (a2, n, .inl d.1))] s.heap := hP
  have hD : va_D A [(hd, .inr (1, [.ref hc, .int d.2.1, .int d.2.2.1, .int d.2.2.2.1, .int d.2.2.2.2])), (hc, .inl (a2, n, .inl d.1))] := hD
  have hl : lv_has ls 2 [(0, .ref hd), (1, .int (nI i))] := hl
  refine lv_aload_n hx hb dX1_read_0 rfl (lv_at hl 0 rfl) ?_
  refine va_get (D := (dC, dI)) (ci := 1) (v := .ref hc) (C := RX1) (T := TX1) (N := 5) hx hb hts inX1 hown hK hP 0 rfl rfl 0 (by decide) (hts _ tb_29) (fun _ h9 => h9) rfl dX1_read_1 ?_
  refine lv_iload_n hx hb dX1_read_4 rfl (lv_at hl 1 rfl) ?_
  refine va_iald hx hb hK hP 1 0 rfl rfl (vp_in_nI (n := i) (by omega) (by omega)) dX1_read_5 ?_
  refine lv_topi (fun z_1 ez_1 => ?_)
  obtain rfl : z_1 = d.1 i := ez_1.trans (by rw [nI_clamp (n := i) (by omega)])
  exact W.iret (v := d.1 i) hx hb hr (fun t ht hW => ⟨⟨d.1 i, (d.1, d.2.1, d.2.2.1, d.2.2.2.1, d.2.2.2.2), rfl, ⟨rfl, rfl⟩, by rw [ht]; exact hP, hD⟩, hS.F ht⟩) hS.2.2 dX1_read_6
set_option maxHeartbeats 4000000 in
set_option maxRecDepth 100000 in
theorem k_X1_write (l : Launch) (dC : Nat → ClassId) (dI : Nat → Nat → Nat) (hd hc : Nat) (a2 : ClassId) (n : Nat) (hn : n < 2 ^ 31) (sz : Nat) (d : DS) (i : Nat) (hi : i < n) (v : Int32) : ctV nwL l yX1_write wsX1_write ({ frames := 0, cells := 0, slots := 0, locals := 0 } : Room) (dC, dI) [(a2, .int)] (dk_w hd hc a2 n) d sz [.ref hd, .int (nI i), .int v] (fun (u : DS) => u = dk_write d i v) := by
  refine Met.ofW (cc := cX1_write) (maxL := 3) (ret := none) (by decide) rfl ?_
  intro p e s m args below meth c s₁ B hml hv
  obtain ⟨rfl, hsz, hP, hK, hD0, hN⟩ := hv
  have hx := B.exec
  have hb := B.bytes
  have hr := B.returns
  have hts := fun w h => atoms_spec (ws := wsX1_write) B.pre w (List.mem_cons_of_mem _ h)
  have hown : s.vm.findClass RX1 = some m.cls := findClass_of_methodNamed B.named
  have hlocks := B.notSynchronized
  subst hsz
  have hD := hD0.self (sz := s.heap.size)
  generalize hAe : va_A ((dk_w hd hc a2 n) d) s.heap.size = A at hD ⊢
  have hA : ∀ q : Nat, s.heap.size ≤ q → A q := fun q h => by rw [← hAe]; exact Or.inr h
  have hS : va_S A s.heap s.heap [] := va_S.rf
  have hl := lv_entry ([.ref hd, .int (nI i), .int v]) (n := 3) (Nat.le_of_ble_eq_true rfl)
  rw [lg_entry_eq]
  generalize (lg_sl ([.ref hd, .int (nI i), .int v]) ++ List.replicate (3 - (lg_sl ([.ref hd, .int (nI i), .int v])).length) Slot.unset).toArray = ls at hl ⊢
  have hP : va_P (dC, dI) vwCl [(hd, .inr (1, [.ref hc, .int d.2.1, .int d.2.2.1, .int d.2.2.2.1, .int d.2.2.2.2])), (hc, .inl (a2, n, .inl d.1))] s.heap := hP
  have hD : va_D A [(hd, .inr (1, [.ref hc, .int d.2.1, .int d.2.2.1, .int d.2.2.2.1, .int d.2.2.2.2])), (hc, .inl (a2, n, .inl d.1))] := hD
  have hl : lv_has ls 3 [(0, .ref hd), (1, .int (nI i)), (2, .int v)] := hl
  refine lv_aload_n hx hb dX1_write_0 rfl (lv_at hl 0 rfl) ?_
  refine va_get (D := (dC, dI)) (ci := 1) (v := .int d.2.2.2.2) (C := RX1) (T := TX1) (N := 5) hx hb hts inX1 hown hK hP 0 rfl rfl 4 (by decide) (hts _ tb_33) (fun _ h9 => h9) rfl dX1_write_1 ?_
  refine lv_if_eq (tgt := 8) hx hb dX1_write_4 (by decide) (fun c_1 => ?_) (fun c_1 => ?_)
  · refine lv_aload_n hx hb dX1_write_8 rfl (lv_at hl 0 rfl) ?_
    refine va_get (D := (dC, dI)) (ci := 1) (v := .int d.2.2.1) (C := RX1) (T := TX1) (N := 5) hx hb hts inX1 hown hK hP 0 rfl rfl 2 (by decide) (hts _ tb_31) (fun _ h9 => h9) rfl dX1_write_9 ?_
    refine lv_if_eq (tgt := 41) hx hb dX1_write_12 (by decide) (fun c_2 => ?_) (fun c_2 => ?_)
    · refine lv_aload_n hx hb dX1_write_41 rfl (lv_at hl 0 rfl) ?_
      refine va_get (D := (dC, dI)) (ci := 1) (v := .int d.2.2.2.2) (C := RX1) (T := TX1) (N := 5) hx hb hts inX1 hown hK hP 0 rfl rfl 4 (by decide) (hts _ tb_33) (fun _ h9 => h9) rfl dX1_write_42 ?_
      refine lv_if_ne (tgt := 65) hx hb dX1_write_45 (by decide) (fun c_3 => ?_) (fun c_3 => ?_)
      · exact absurd c_1 c_3
      · refine lv_aload_n hx hb dX1_write_48 rfl (lv_at hl 0 rfl) ?_
        refine va_get (D := (dC, dI)) (ci := 1) (v := .ref hc) (C := RX1) (T := TX1) (N := 5) hx hb hts inX1 hown hK hP 0 rfl rfl 0 (by decide) (hts _ tb_29) (fun _ h9 => h9) rfl dX1_write_49 ?_
        refine lv_iload_n hx hb dX1_write_52 rfl (lv_at hl 1 rfl) ?_
        refine lv_iload_n hx hb dX1_write_53 rfl (lv_at hl 2 rfl) ?_
        refine va_iast hx hb hK hP hD hS 1 0 rfl rfl (vp_in_nI (n := i) (by omega) (by omega)) dX1_write_54 (fun H locs hP hD hS => ?_)
        have hP : va_P (dC, dI) vwCl [(hd, .inr (1, [.ref hc, .int d.2.1, .int d.2.2.1, .int d.2.2.2.1, .int d.2.2.2.2])), (hc, .inl (a2, n, .inl (upd d.1 (nI i).toNatClampNeg v)))] H := hP
        have hD : va_D A [(hd, .inr (1, [.ref hc, .int d.2.1, .int d.2.2.1, .int d.2.2.2.1, .int d.2.2.2.2])), (hc, .inl (a2, n, .inl (upd d.1 (nI i).toNatClampNeg v)))] := hD
        rw [nI_clamp (n := i) (by omega)] at hP hD
        refine lv_aload_n hx hb dX1_write_55 rfl (lv_at hl 0 rfl) ?_
        refine lv_dup hx hb dX1_write_56 rfl ?_
        refine va_get (D := (dC, dI)) (ci := 1) (v := .int d.2.1) (C := RX1) (T := TX1) (N := 5) hx hb hts inX1 hown hK hP 0 rfl rfl 1 (by decide) (hts _ tb_30) (fun _ h9 => h9) rfl dX1_write_57 ?_
        refine lv_iconst (v := 1) hx hb dX1_write_60 (by decide) ?_
        refine lv_iadd hx hb dX1_write_61 ?_
        refine va_put (D := (dC, dI)) (ci := 1) (v := .int (d.2.1 + 1)) (ty := .int) (C := RX1) (T := TX1) (N := 5) hx hb hts inX1 tyX1 okX1 nmX1 hown hK hP hD hS 0 rfl rfl 1 (by decide) (hts _ tb_30) (fun _ h9 => h9) rfl (by decide +kernel) rfl rfl (Nat.le_of_ble_eq_true rfl) dX1_write_62 (fun H locs hP hD hS => ?_)
        have hP : va_P (dC, dI) vwCl [(hd, .inr (1, [.ref hc, .int (d.2.1 + 1), .int d.2.2.1, .int d.2.2.2.1, .int d.2.2.2.2])), (hc, .inl (a2, n, .inl (upd d.1 i v)))] H := hP
        have hD : va_D A [(hd, .inr (1, [.ref hc, .int (d.2.1 + 1), .int d.2.2.1, .int d.2.2.2.1, .int d.2.2.2.2])), (hc, .inl (a2, n, .inl (upd d.1 i v)))] := hD
        exact W.vret hx hb hr (fun t ht hW => ⟨⟨(upd d.1 i v, d.2.1 + 1, d.2.2.1, d.2.2.2.1, d.2.2.2.2), rfl, by unfold dk_write; simp [c_1, c_2, c_3], by rw [ht]; exact hP, hD⟩, hS.F ht⟩) hS.2.2 dX1_write_65
    · refine lv_aload_n hx hb dX1_write_15 rfl (lv_at hl 0 rfl) ?_
      refine lv_dup hx hb dX1_write_16 rfl ?_
      refine va_get (D := (dC, dI)) (ci := 1) (v := .int d.2.2.1) (C := RX1) (T := TX1) (N := 5) hx hb hts inX1 hown hK hP 0 rfl rfl 2 (by decide) (hts _ tb_31) (fun _ h9 => h9) rfl dX1_write_17 ?_
      refine lv_iconst (v := 1) hx hb dX1_write_20 (by decide) ?_
      refine lv_isub hx hb dX1_write_21 ?_
      refine va_put (D := (dC, dI)) (ci := 1) (v := .int (d.2.2.1 - 1)) (ty := .int) (C := RX1) (T := TX1) (N := 5) hx hb hts inX1 tyX1 okX1 nmX1 hown hK hP hD hS 0 rfl rfl 2 (by decide) (hts _ tb_31) (fun _ h9 => h9) rfl (by decide +kernel) rfl rfl (Nat.le_of_ble_eq_true rfl) dX1_write_22 (fun H locs hP hD hS => ?_)
      have hP : va_P (dC, dI) vwCl [(hd, .inr (1, [.ref hc, .int d.2.1, .int (d.2.2.1 - 1), .int d.2.2.2.1, .int d.2.2.2.2])), (hc, .inl (a2, n, .inl d.1))] H := hP
      have hD : va_D A [(hd, .inr (1, [.ref hc, .int d.2.1, .int (d.2.2.1 - 1), .int d.2.2.2.1, .int d.2.2.2.2])), (hc, .inl (a2, n, .inl d.1))] := hD
      refine lv_aload_n hx hb dX1_write_25 rfl (lv_at hl 0 rfl) ?_
      refine lv_aload_n hx hb dX1_write_26 rfl (lv_at hl 0 rfl) ?_
      refine va_get (D := (dC, dI)) (ci := 1) (v := .int (d.2.2.1 - 1)) (C := RX1) (T := TX1) (N := 5) hx hb hts inX1 hown hK hP 0 rfl rfl 2 (by decide) (hts _ tb_31) (fun _ h9 => h9) rfl dX1_write_27 ?_
      refine lv_if_ne (tgt := 37) hx hb dX1_write_30 (by decide) (fun c_4 => ?_) (fun c_4 => ?_)
      · refine lv_iconst (v := 0) hx hb dX1_write_37 (by decide) ?_
        refine va_put (D := (dC, dI)) (ci := 1) (v := .int 0) (ty := .boolean) (C := RX1) (T := TX1) (N := 5) hx hb hts inX1 tyX1 okX1 nmX1 hown hK hP hD hS 0 rfl rfl 4 (by decide) (hts _ tb_33) (fun _ h9 => h9) rfl (by decide +kernel) rfl rfl (Nat.le_of_ble_eq_true rfl) dX1_write_38 (fun H locs hP hD hS => ?_)
        have hP : va_P (dC, dI) vwCl [(hd, .inr (1, [.ref hc, .int d.2.1, .int (d.2.2.1 - 1), .int d.2.2.2.1, .int 0])), (hc, .inl (a2, n, .inl d.1))] H := hP
        have hD : va_D A [(hd, .inr (1, [.ref hc, .int d.2.1, .int (d.2.2.1 - 1), .int d.2.2.2.1, .int 0])), (hc, .inl (a2, n, .inl d.1))] := hD
        refine lv_aload_n hx hb dX1_write_41 rfl (lv_at hl 0 rfl) ?_
        refine va_get (D := (dC, dI)) (ci := 1) (v := .int 0) (C := RX1) (T := TX1) (N := 5) hx hb hts inX1 hown hK hP 0 rfl rfl 4 (by decide) (hts _ tb_33) (fun _ h9 => h9) rfl dX1_write_42 ?_
        refine lv_if_ne (tgt := 65) hx hb dX1_write_45 (by decide) (fun c_5 => ?_) (fun c_5 => ?_)
        · exact absurd c_5 (by decide)
        · refine lv_aload_n hx hb dX1_write_48 rfl (lv_at hl 0 rfl) ?_
          refine va_get (D := (dC, dI)) (ci := 1) (v := .ref hc) (C := RX1) (T := TX1) (N := 5) hx hb hts inX1 hown hK hP 0 rfl rfl 0 (by decide) (hts _ tb_29) (fun _ h9 => h9) rfl dX1_write_49 ?_
          refine lv_iload_n hx hb dX1_write_52 rfl (lv_at hl 1 rfl) ?_
          refine lv_iload_n hx hb dX1_write_53 rfl (lv_at hl 2 rfl) ?_
          refine va_iast hx hb hK hP hD hS 1 0 rfl rfl (vp_in_nI (n := i) (by omega) (by omega)) dX1_write_54 (fun H locs hP hD hS => ?_)
          have hP : va_P (dC, dI) vwCl [(hd, .inr (1, [.ref hc, .int d.2.1, .int (d.2.2.1 - 1), .int d.2.2.2.1, .int 0])), (hc, .inl (a2, n, .inl (upd d.1 (nI i).toNatClampNeg v)))] H := hP
          have hD : va_D A [(hd, .inr (1, [.ref hc, .int d.2.1, .int (d.2.2.1 - 1), .int d.2.2.2.1, .int 0])), (hc, .inl (a2, n, .inl (upd d.1 (nI i).toNatClampNeg v)))] := hD
          rw [nI_clamp (n := i) (by omega)] at hP hD
          refine lv_aload_n hx hb dX1_write_55 rfl (lv_at hl 0 rfl) ?_
          refine lv_dup hx hb dX1_write_56 rfl ?_
          refine va_get (D := (dC, dI)) (ci := 1) (v := .int d.2.1) (C := RX1) (T := TX1) (N := 5) hx hb hts inX1 hown hK hP 0 rfl rfl 1 (by decide) (hts _ tb_30) (fun _ h9 => h9) rfl dX1_write_57 ?_
          refine lv_iconst (v := 1) hx hb dX1_write_60 (by decide) ?_
          refine lv_iadd hx hb dX1_write_61 ?_
          refine va_put (D := (dC, dI)) (ci := 1) (v := .int (d.2.1 + 1)) (ty := .int) (C := RX1) (T := TX1) (N := 5) hx hb hts inX1 tyX1 okX1 nmX1 hown hK hP hD hS 0 rfl rfl 1 (by decide) (hts _ tb_30) (fun _ h9 => h9) rfl (by decide +kernel) rfl rfl (Nat.le_of_ble_eq_true rfl) dX1_write_62 (fun H locs hP hD hS => ?_)
          have hP : va_P (dC, dI) vwCl [(hd, .inr (1, [.ref hc, .int (d.2.1 + 1), .int (d.2.2.1 - 1), .int d.2.2.2.1, .int 0])), (hc, .inl (a2, n, .inl (upd d.1 i v)))] H := hP
          have hD : va_D A [(hd, .inr (1, [.ref hc, .int (d.2.1 + 1), .int (d.2.2.1 - 1), .int d.2.2.2.1, .int 0])), (hc, .inl (a2, n, .inl (upd d.1 i v)))] := hD
          exact W.vret hx hb hr (fun t ht hW => ⟨⟨(upd d.1 i v, d.2.1 + 1, d.2.2.1 - 1, d.2.2.2.1, 0), rfl, by unfold dk_write; simp [c_1, c_2, c_4, c_5], by rw [ht]; exact hP, hD⟩, hS.F ht⟩) hS.2.2 dX1_write_65
      · refine lv_iconst (v := 1) hx hb dX1_write_33 (by decide) ?_
        refine lv_goto (tgt := 38) hx hb dX1_write_34 (by decide) ?_
        refine va_put (D := (dC, dI)) (ci := 1) (v := .int 1) (ty := .boolean) (C := RX1) (T := TX1) (N := 5) hx hb hts inX1 tyX1 okX1 nmX1 hown hK hP hD hS 0 rfl rfl 4 (by decide) (hts _ tb_33) (fun _ h9 => h9) rfl (by decide +kernel) rfl rfl (Nat.le_of_ble_eq_true rfl) dX1_write_38 (fun H locs hP hD hS => ?_)
        have hP : va_P (dC, dI) vwCl [(hd, .inr (1, [.ref hc, .int d.2.1, .int (d.2.2.1 - 1), .int d.2.2.2.1, .int 1])), (hc, .inl (a2, n, .inl d.1))] H := hP
        have hD : va_D A [(hd, .inr (1, [.ref hc, .int d.2.1, .int (d.2.2.1 - 1), .int d.2.2.2.1, .int 1])), (hc, .inl (a2, n, .inl d.1))] := hD
        refine lv_aload_n hx hb dX1_write_41 rfl (lv_at hl 0 rfl) ?_
        refine va_get (D := (dC, dI)) (ci := 1) (v := .int 1) (C := RX1) (T := TX1) (N := 5) hx hb hts inX1 hown hK hP 0 rfl rfl 4 (by decide) (hts _ tb_33) (fun _ h9 => h9) rfl dX1_write_42 ?_
        refine lv_if_ne (tgt := 65) hx hb dX1_write_45 (by decide) (fun c_6 => ?_) (fun c_6 => ?_)
        · exact W.vret hx hb hr (fun t ht hW => ⟨⟨(d.1, d.2.1, d.2.2.1 - 1, d.2.2.2.1, 1), rfl, by unfold dk_write; simp [c_1, c_2, c_4, c_6], by rw [ht]; exact hP, hD⟩, hS.F ht⟩) hS.2.2 dX1_write_65
        · exact absurd c_6 (by decide)
  · exact W.vret hx hb hr (fun t ht hW => ⟨⟨(d.1, d.2.1, d.2.2.1, d.2.2.2.1, d.2.2.2.2), rfl, by unfold dk_write; simp [c_1], by rw [ht]; exact hP, hD⟩, hS.F ht⟩) hS.2.2 dX1_write_7
set_option maxHeartbeats 4000000 in
set_option maxRecDepth 100000 in
theorem k_X1_armLoss (l : Launch) (dC : Nat → ClassId) (dI : Nat → Nat → Nat) (hd hc : Nat) (a2 : ClassId) (n : Nat) (hn : n < 2 ^ 31) (sz : Nat) (d : DS) (v : Int32) : ctV nwL l yX1_armLoss wsX1_armLoss ({ frames := 0, cells := 0, slots := 0, locals := 0 } : Room) (dC, dI) [(a2, .int)] (dk_w hd hc a2 n) d sz [.ref hd, .int v] (fun (u : DS) => u = dk_arm d v) := by
  refine Met.ofW (cc := cX1_armLoss) (maxL := 2) (ret := none) (by decide) rfl ?_
  intro p e s m args below meth c s₁ B hml hv
  obtain ⟨rfl, hsz, hP, hK, hD0, hN⟩ := hv
  have hx := B.exec
  have hb := B.bytes
  have hr := B.returns
  have hts := fun w h => atoms_spec (ws := wsX1_armLoss) B.pre w (List.mem_cons_of_mem _ h)
  have hown : s.vm.findClass RX1 = some m.cls := findClass_of_methodNamed B.named
  have hlocks := B.notSynchronized
  subst hsz
  have hD := hD0.self (sz := s.heap.size)
  generalize hAe : va_A ((dk_w hd hc a2 n) d) s.heap.size = A at hD ⊢
  have hA : ∀ q : Nat, s.heap.size ≤ q → A q := fun q h => by rw [← hAe]; exact Or.inr h
  have hS : va_S A s.heap s.heap [] := va_S.rf
  have hl := lv_entry ([.ref hd, .int v]) (n := 2) (Nat.le_of_ble_eq_true rfl)
  rw [lg_entry_eq]
  generalize (lg_sl ([.ref hd, .int v]) ++ List.replicate (2 - (lg_sl ([.ref hd, .int v])).length) Slot.unset).toArray = ls at hl ⊢
  have hP : va_P (dC, dI) vwCl [(hd, .inr (1, [.ref hc, .int d.2.1, .int d.2.2.1, .int d.2.2.2.1, .int d.2.2.2.2])), (hc, .inl (a2, n, .inl d.1))] s.heap := hP
  have hD : va_D A [(hd, .inr (1, [.ref hc, .int d.2.1, .int d.2.2.1, .int d.2.2.2.1, .int d.2.2.2.2])), (hc, .inl (a2, n, .inl d.1))] := hD
  have hl : lv_has ls 2 [(0, .ref hd), (1, .int v)] := hl
  refine lv_aload_n hx hb dX1_armLoss_0 rfl (lv_at hl 0 rfl) ?_
  refine va_get (D := (dC, dI)) (ci := 1) (v := .int d.2.2.2.2) (C := RX1) (T := TX1) (N := 5) hx hb hts inX1 hown hK hP 0 rfl rfl 4 (by decide) (hts _ tb_33) (fun _ h9 => h9) rfl dX1_armLoss_1 ?_
  refine lv_if_eq (tgt := 8) hx hb dX1_armLoss_4 (by decide) (fun c_1 => ?_) (fun c_1 => ?_)
  · refine lv_iload_n hx hb dX1_armLoss_8 rfl (lv_at hl 1 rfl) ?_
    refine lv_iconst (v := 1) hx hb dX1_armLoss_9 (by decide) ?_
    refine lv_icmp_ge (tgt := 21) hx hb dX1_armLoss_10 (by decide) (fun c_2 => ?_) (fun c_2 => ?_)
    · refine lv_aload_n hx hb dX1_armLoss_21 rfl (lv_at hl 0 rfl) ?_
      refine va_get (D := (dC, dI)) (ci := 1) (v := .int d.2.2.2.1) (C := RX1) (T := TX1) (N := 5) hx hb hts inX1 hown hK hP 0 rfl rfl 3 (by decide) (hts _ tb_32) (fun _ h9 => h9) rfl dX1_armLoss_22 ?_
      refine lv_bipush (v := 30) hx hb dX1_armLoss_25 (by decide) ?_
      refine lv_icmp_ge (tgt := 45) hx hb dX1_armLoss_27 (by decide) (fun c_3 => ?_) (fun c_3 => ?_)
      · exact W.vret hx hb hr (fun t ht hW => ⟨⟨(d.1, d.2.1, d.2.2.1, d.2.2.2.1, d.2.2.2.2), rfl, by unfold dk_arm; rw [if_pos c_1, if_pos c_2, if_pos c_3], by rw [ht]; exact hP, hD⟩, hS.F ht⟩) hS.2.2 dX1_armLoss_45
      · refine lv_aload_n hx hb dX1_armLoss_30 rfl (lv_at hl 0 rfl) ?_
        refine lv_dup hx hb dX1_armLoss_31 rfl ?_
        refine va_get (D := (dC, dI)) (ci := 1) (v := .int d.2.2.2.1) (C := RX1) (T := TX1) (N := 5) hx hb hts inX1 hown hK hP 0 rfl rfl 3 (by decide) (hts _ tb_32) (fun _ h9 => h9) rfl dX1_armLoss_32 ?_
        refine lv_iconst (v := 1) hx hb dX1_armLoss_35 (by decide) ?_
        refine lv_iadd hx hb dX1_armLoss_36 ?_
        refine va_put (D := (dC, dI)) (ci := 1) (v := .int (d.2.2.2.1 + 1)) (ty := .int) (C := RX1) (T := TX1) (N := 5) hx hb hts inX1 tyX1 okX1 nmX1 hown hK hP hD hS 0 rfl rfl 3 (by decide) (hts _ tb_32) (fun _ h9 => h9) rfl (by decide +kernel) rfl rfl (Nat.le_of_ble_eq_true rfl) dX1_armLoss_37 (fun H locs hP hD hS => ?_)
        have hP : va_P (dC, dI) vwCl [(hd, .inr (1, [.ref hc, .int d.2.1, .int d.2.2.1, .int (d.2.2.2.1 + 1), .int d.2.2.2.2])), (hc, .inl (a2, n, .inl d.1))] H := hP
        have hD : va_D A [(hd, .inr (1, [.ref hc, .int d.2.1, .int d.2.2.1, .int (d.2.2.2.1 + 1), .int d.2.2.2.2])), (hc, .inl (a2, n, .inl d.1))] := hD
        refine lv_aload_n hx hb dX1_armLoss_40 rfl (lv_at hl 0 rfl) ?_
        refine lv_iload_n hx hb dX1_armLoss_41 rfl (lv_at hl 1 rfl) ?_
        refine va_put (D := (dC, dI)) (ci := 1) (v := .int v) (ty := .int) (C := RX1) (T := TX1) (N := 5) hx hb hts inX1 tyX1 okX1 nmX1 hown hK hP hD hS 0 rfl rfl 2 (by decide) (hts _ tb_31) (fun _ h9 => h9) rfl (by decide +kernel) rfl rfl (Nat.le_of_ble_eq_true rfl) dX1_armLoss_42 (fun H locs hP hD hS => ?_)
        have hP : va_P (dC, dI) vwCl [(hd, .inr (1, [.ref hc, .int d.2.1, .int v, .int (d.2.2.2.1 + 1), .int d.2.2.2.2])), (hc, .inl (a2, n, .inl d.1))] H := hP
        have hD : va_D A [(hd, .inr (1, [.ref hc, .int d.2.1, .int v, .int (d.2.2.2.1 + 1), .int d.2.2.2.2])), (hc, .inl (a2, n, .inl d.1))] := hD
        exact W.vret hx hb hr (fun t ht hW => ⟨⟨(d.1, d.2.1, v, d.2.2.2.1 + 1, d.2.2.2.2), rfl, by unfold dk_arm; rw [if_pos c_1, if_pos c_2, if_neg c_3], by rw [ht]; exact hP, hD⟩, hS.F ht⟩) hS.2.2 dX1_armLoss_45
    · refine lv_aload_n hx hb dX1_armLoss_13 rfl (lv_at hl 0 rfl) ?_
      refine lv_iconst (v := 0) hx hb dX1_armLoss_14 (by decide) ?_
      refine va_put (D := (dC, dI)) (ci := 1) (v := .int 0) (ty := .int) (C := RX1) (T := TX1) (N := 5) hx hb hts inX1 tyX1 okX1 nmX1 hown hK hP hD hS 0 rfl rfl 2 (by decide) (hts _ tb_31) (fun _ h9 => h9) rfl (by decide +kernel) rfl rfl (Nat.le_of_ble_eq_true rfl) dX1_armLoss_15 (fun H locs hP hD hS => ?_)
      have hP : va_P (dC, dI) vwCl [(hd, .inr (1, [.ref hc, .int d.2.1, .int 0, .int d.2.2.2.1, .int d.2.2.2.2])), (hc, .inl (a2, n, .inl d.1))] H := hP
      have hD : va_D A [(hd, .inr (1, [.ref hc, .int d.2.1, .int 0, .int d.2.2.2.1, .int d.2.2.2.2])), (hc, .inl (a2, n, .inl d.1))] := hD
      refine lv_goto (tgt := 45) hx hb dX1_armLoss_18 (by decide) ?_
      exact W.vret hx hb hr (fun t ht hW => ⟨⟨(d.1, d.2.1, 0, d.2.2.2.1, d.2.2.2.2), rfl, by unfold dk_arm; rw [if_pos c_1, if_neg c_2], by rw [ht]; exact hP, hD⟩, hS.F ht⟩) hS.2.2 dX1_armLoss_45
  · exact W.vret hx hb hr (fun t ht hW => ⟨⟨(d.1, d.2.1, d.2.2.1, d.2.2.2.1, d.2.2.2.2), rfl, by unfold dk_arm; rw [if_neg c_1], by rw [ht]; exact hP, hD⟩, hS.F ht⟩) hS.2.2 dX1_armLoss_7
set_option maxHeartbeats 4000000 in
set_option maxRecDepth 100000 in
theorem k_X1_restorePower (l : Launch) (dC : Nat → ClassId) (dI : Nat → Nat → Nat) (hd hc : Nat) (a2 : ClassId) (n : Nat) (hn : n < 2 ^ 31) (sz : Nat) (d : DS)  : ctV nwL l yX1_restorePower wsX1_restorePower ({ frames := 0, cells := 0, slots := 0, locals := 0 } : Room) (dC, dI) [(a2, .int)] (dk_w hd hc a2 n) d sz [.ref hd] (fun (u : DS) => u = (d.1, d.2.1, d.2.2.1, d.2.2.2.1, 0)) := by
  refine Met.ofW (cc := cX1_restorePower) (maxL := 1) (ret := none) (by decide) rfl ?_
  intro p e s m args below meth c s₁ B hml hv
  obtain ⟨rfl, hsz, hP, hK, hD0, hN⟩ := hv
  have hx := B.exec
  have hb := B.bytes
  have hr := B.returns
  have hts := fun w h => atoms_spec (ws := wsX1_restorePower) B.pre w (List.mem_cons_of_mem _ h)
  have hown : s.vm.findClass RX1 = some m.cls := findClass_of_methodNamed B.named
  have hlocks := B.notSynchronized
  subst hsz
  have hD := hD0.self (sz := s.heap.size)
  generalize hAe : va_A ((dk_w hd hc a2 n) d) s.heap.size = A at hD ⊢
  have hA : ∀ q : Nat, s.heap.size ≤ q → A q := fun q h => by rw [← hAe]; exact Or.inr h
  have hS : va_S A s.heap s.heap [] := va_S.rf
  have hl := lv_entry ([.ref hd]) (n := 1) (Nat.le_of_ble_eq_true rfl)
  rw [lg_entry_eq]
  generalize (lg_sl ([.ref hd]) ++ List.replicate (1 - (lg_sl ([.ref hd])).length) Slot.unset).toArray = ls at hl ⊢
  have hP : va_P (dC, dI) vwCl [(hd, .inr (1, [.ref hc, .int d.2.1, .int d.2.2.1, .int d.2.2.2.1, .int d.2.2.2.2])), (hc, .inl (a2, n, .inl d.1))] s.heap := hP
  have hD : va_D A [(hd, .inr (1, [.ref hc, .int d.2.1, .int d.2.2.1, .int d.2.2.2.1, .int d.2.2.2.2])), (hc, .inl (a2, n, .inl d.1))] := hD
  have hl : lv_has ls 1 [(0, .ref hd)] := hl
  refine lv_aload_n hx hb dX1_restorePower_0 rfl (lv_at hl 0 rfl) ?_
  refine lv_iconst (v := 0) hx hb dX1_restorePower_1 (by decide) ?_
  refine va_put (D := (dC, dI)) (ci := 1) (v := .int 0) (ty := .boolean) (C := RX1) (T := TX1) (N := 5) hx hb hts inX1 tyX1 okX1 nmX1 hown hK hP hD hS 0 rfl rfl 4 (by decide) (hts _ tb_33) (fun _ h9 => h9) rfl (by decide +kernel) rfl rfl (Nat.le_of_ble_eq_true rfl) dX1_restorePower_2 (fun H locs hP hD hS => ?_)
  have hP : va_P (dC, dI) vwCl [(hd, .inr (1, [.ref hc, .int d.2.1, .int d.2.2.1, .int d.2.2.2.1, .int 0])), (hc, .inl (a2, n, .inl d.1))] H := hP
  have hD : va_D A [(hd, .inr (1, [.ref hc, .int d.2.1, .int d.2.2.1, .int d.2.2.2.1, .int 0])), (hc, .inl (a2, n, .inl d.1))] := hD
  exact W.vret hx hb hr (fun t ht hW => ⟨⟨(d.1, d.2.1, d.2.2.1, d.2.2.2.1, 0), rfl, rfl, by rw [ht]; exact hP, hD⟩, hS.F ht⟩) hS.2.2 dX1_restorePower_5
end
section
set_option maxHeartbeats 4000000 in
set_option maxRecDepth 100000 in
theorem k_X0_isWord (l : Launch) (dC : Nat → ClassId) (dI : Nat → Nat → Nat) (h0 hs hd hc : Nat) (a1 a2 : ClassId) (gW gC gV gB gM gI : Nat) (hg : geo gW gC gV gB gM gI) (sz : Nat) (st : Nat → Int32) (d : DS) (i : Int32) : ctI nwL l yX0_isWord wsX0_isWord ({ frames := 0, cells := 0, slots := 0, locals := 0 } : Room) (dC, dI) [(a1, .int), (a2, .int)] (xo_w h0 hs hd hc a1 a2 gW gC gV gB gM gI) (st, d) sz [.ref h0, .int i] (fun (r : Int32) (u : XS) => r = inR i gW ∧ u = (st, d)) := by
  refine Met.ofW (cc := cX0_isWord) (maxL := 2) (ret := (some .boolean)) (by decide) rfl ?_
  intro p e s m args below meth c s₁ B hml hv
  obtain ⟨rfl, hsz, hP, hK, hD0, hN⟩ := hv
  have hx := B.exec
  have hb := B.bytes
  have hr := B.returns
  have hts := fun w h => atoms_spec (ws := wsX0_isWord) B.pre w (List.mem_cons_of_mem _ h)
  have hown : s.vm.findClass RX0 = some m.cls := findClass_of_methodNamed B.named
  have hlocks := B.notSynchronized
  subst hsz
  have hD := hD0.self (sz := s.heap.size)
  generalize hAe : va_A ((xo_w h0 hs hd hc a1 a2 gW gC gV gB gM gI) (st, d)) s.heap.size = A at hD ⊢
  have hA : ∀ q : Nat, s.heap.size ≤ q → A q := fun q h => by rw [← hAe]; exact Or.inr h
  have hS : va_S A s.heap s.heap [] := va_S.rf
  have hl := lv_entry ([.ref h0, .int i]) (n := 2) (Nat.le_of_ble_eq_true rfl)
  rw [lg_entry_eq]
  generalize (lg_sl ([.ref h0, .int i]) ++ List.replicate (2 - (lg_sl ([.ref h0, .int i])).length) Slot.unset).toArray = ls at hl ⊢
  have hP : va_P (dC, dI) vwCl [(h0, .inr (0, [.int (nI gW), .int (nI gC), .int (nI gV), .int (nI gB), .ref hs, .int (nI gM), .int (nI gI), .ref hd])), (hs, .inl (a1, gW, .inl st)), (hd, .inr (1, [.ref hc, .int d.2.1, .int d.2.2.1, .int d.2.2.2.1, .int d.2.2.2.2])), (hc, .inl (a2, (gI + 4), .inl d.1))] s.heap := hP
  have hD : va_D A [(h0, .inr (0, [.int (nI gW), .int (nI gC), .int (nI gV), .int (nI gB), .ref hs, .int (nI gM), .int (nI gI), .ref hd])), (hs, .inl (a1, gW, .inl st)), (hd, .inr (1, [.ref hc, .int d.2.1, .int d.2.2.1, .int d.2.2.2.1, .int d.2.2.2.2])), (hc, .inl (a2, (gI + 4), .inl d.1))] := hD
  have hl : lv_has ls 2 [(0, .ref h0), (1, .int i)] := hl
  obtain ⟨⟨hW1, hW2⟩, ⟨hC1, hC2⟩, ⟨hV1, hV2⟩, ⟨hB1, hB2⟩, eM, eI⟩ := id hg
  obtain ⟨hM2, hq2⟩ := geo_b hg
  refine lv_iload_n hx hb dX0_isWord_0 rfl (lv_at hl 1 rfl) ?_
  refine lv_if_lt (tgt := 16) hx hb dX0_isWord_1 (by decide) (fun c_1 => ?_) (fun c_1 => ?_)
  · refine lv_iconst (v := 0) hx hb dX0_isWord_16 (by decide) ?_
    exact W.zret (v := 0) hx hb hr rfl (fun t ht hW => ⟨⟨0, (st, d), rfl, ⟨by unfold inR; rw [if_pos c_1], rfl⟩, by rw [ht]; exact hP, hD⟩, hS.F ht⟩) hS.2.2 dX0_isWord_17
  · refine lv_iload_n hx hb dX0_isWord_4 rfl (lv_at hl 1 rfl) ?_
    refine lv_aload_n hx hb dX0_isWord_5 rfl (lv_at hl 0 rfl) ?_
    refine va_get (D := (dC, dI)) (ci := 0) (v := .int (nI gW)) (C := RX0) (T := TX0) (N := 8) hx hb hts inX0 hown hK hP 0 rfl rfl 0 (by decide) (hts _ tb_46) (fun _ h9 => h9) rfl dX0_isWord_6 ?_
    refine lv_icmp_ge (tgt := 16) hx hb dX0_isWord_9 (by decide) (fun c_2 => ?_) (fun c_2 => ?_)
    · refine lv_iconst (v := 0) hx hb dX0_isWord_16 (by decide) ?_
      exact W.zret (v := 0) hx hb hr rfl (fun t ht hW => ⟨⟨0, (st, d), rfl, ⟨by unfold inR; rw [if_neg c_1, if_pos c_2], rfl⟩, by rw [ht]; exact hP, hD⟩, hS.F ht⟩) hS.2.2 dX0_isWord_17
    · refine lv_iconst (v := 1) hx hb dX0_isWord_12 (by decide) ?_
      refine lv_goto (tgt := 17) hx hb dX0_isWord_13 (by decide) ?_
      exact W.zret (v := 1) hx hb hr rfl (fun t ht hW => ⟨⟨1, (st, d), rfl, ⟨by unfold inR; rw [if_neg c_1, if_neg c_2], rfl⟩, by rw [ht]; exact hP, hD⟩, hS.F ht⟩) hS.2.2 dX0_isWord_17
set_option maxHeartbeats 4000000 in
set_option maxRecDepth 100000 in
theorem k_X0_isVolume (l : Launch) (dC : Nat → ClassId) (dI : Nat → Nat → Nat) (h0 hs hd hc : Nat) (a1 a2 : ClassId) (gW gC gV gB gM gI : Nat) (hg : geo gW gC gV gB gM gI) (sz : Nat) (st : Nat → Int32) (d : DS) (i : Int32) : ctI nwL l yX0_isVolume wsX0_isVolume ({ frames := 0, cells := 0, slots := 0, locals := 0 } : Room) (dC, dI) [(a1, .int), (a2, .int)] (xo_w h0 hs hd hc a1 a2 gW gC gV gB gM gI) (st, d) sz [.ref h0, .int i] (fun (r : Int32) (u : XS) => r = inR i gV ∧ u = (st, d)) := by
  refine Met.ofW (cc := cX0_isVolume) (maxL := 2) (ret := (some .boolean)) (by decide) rfl ?_
  intro p e s m args below meth c s₁ B hml hv
  obtain ⟨rfl, hsz, hP, hK, hD0, hN⟩ := hv
  have hx := B.exec
  have hb := B.bytes
  have hr := B.returns
  have hts := fun w h => atoms_spec (ws := wsX0_isVolume) B.pre w (List.mem_cons_of_mem _ h)
  have hown : s.vm.findClass RX0 = some m.cls := findClass_of_methodNamed B.named
  have hlocks := B.notSynchronized
  subst hsz
  have hD := hD0.self (sz := s.heap.size)
  generalize hAe : va_A ((xo_w h0 hs hd hc a1 a2 gW gC gV gB gM gI) (st, d)) s.heap.size = A at hD ⊢
  have hA : ∀ q : Nat, s.heap.size ≤ q → A q := fun q h => by rw [← hAe]; exact Or.inr h
  have hS : va_S A s.heap s.heap [] := va_S.rf
  have hl := lv_entry ([.ref h0, .int i]) (n := 2) (Nat.le_of_ble_eq_true rfl)
  rw [lg_entry_eq]
  generalize (lg_sl ([.ref h0, .int i]) ++ List.replicate (2 - (lg_sl ([.ref h0, .int i])).length) Slot.unset).toArray = ls at hl ⊢
  have hP : va_P (dC, dI) vwCl [(h0, .inr (0, [.int (nI gW), .int (nI gC), .int (nI gV), .int (nI gB), .ref hs, .int (nI gM), .int (nI gI), .ref hd])), (hs, .inl (a1, gW, .inl st)), (hd, .inr (1, [.ref hc, .int d.2.1, .int d.2.2.1, .int d.2.2.2.1, .int d.2.2.2.2])), (hc, .inl (a2, (gI + 4), .inl d.1))] s.heap := hP
  have hD : va_D A [(h0, .inr (0, [.int (nI gW), .int (nI gC), .int (nI gV), .int (nI gB), .ref hs, .int (nI gM), .int (nI gI), .ref hd])), (hs, .inl (a1, gW, .inl st)), (hd, .inr (1, [.ref hc, .int d.2.1, .int d.2.2.1, .int d.2.2.2.1, .int d.2.2.2.2])), (hc, .inl (a2, (gI + 4), .inl d.1))] := hD
  have hl : lv_has ls 2 [(0, .ref h0), (1, .int i)] := hl
  obtain ⟨⟨hW1, hW2⟩, ⟨hC1, hC2⟩, ⟨hV1, hV2⟩, ⟨hB1, hB2⟩, eM, eI⟩ := id hg
  obtain ⟨hM2, hq2⟩ := geo_b hg
  refine lv_iload_n hx hb dX0_isVolume_0 rfl (lv_at hl 1 rfl) ?_
  refine lv_if_lt (tgt := 16) hx hb dX0_isVolume_1 (by decide) (fun c_1 => ?_) (fun c_1 => ?_)
  · refine lv_iconst (v := 0) hx hb dX0_isVolume_16 (by decide) ?_
    exact W.zret (v := 0) hx hb hr rfl (fun t ht hW => ⟨⟨0, (st, d), rfl, ⟨by unfold inR; rw [if_pos c_1], rfl⟩, by rw [ht]; exact hP, hD⟩, hS.F ht⟩) hS.2.2 dX0_isVolume_17
  · refine lv_iload_n hx hb dX0_isVolume_4 rfl (lv_at hl 1 rfl) ?_
    refine lv_aload_n hx hb dX0_isVolume_5 rfl (lv_at hl 0 rfl) ?_
    refine va_get (D := (dC, dI)) (ci := 0) (v := .int (nI gV)) (C := RX0) (T := TX0) (N := 8) hx hb hts inX0 hown hK hP 0 rfl rfl 2 (by decide) (hts _ tb_48) (fun _ h9 => h9) rfl dX0_isVolume_6 ?_
    refine lv_icmp_ge (tgt := 16) hx hb dX0_isVolume_9 (by decide) (fun c_2 => ?_) (fun c_2 => ?_)
    · refine lv_iconst (v := 0) hx hb dX0_isVolume_16 (by decide) ?_
      exact W.zret (v := 0) hx hb hr rfl (fun t ht hW => ⟨⟨0, (st, d), rfl, ⟨by unfold inR; rw [if_neg c_1, if_pos c_2], rfl⟩, by rw [ht]; exact hP, hD⟩, hS.F ht⟩) hS.2.2 dX0_isVolume_17
    · refine lv_iconst (v := 1) hx hb dX0_isVolume_12 (by decide) ?_
      refine lv_goto (tgt := 17) hx hb dX0_isVolume_13 (by decide) ?_
      exact W.zret (v := 1) hx hb hr rfl (fun t ht hW => ⟨⟨1, (st, d), rfl, ⟨by unfold inR; rw [if_neg c_1, if_neg c_2], rfl⟩, by rw [ht]; exact hP, hD⟩, hS.F ht⟩) hS.2.2 dX0_isVolume_17
set_option maxHeartbeats 4000000 in
set_option maxRecDepth 100000 in
theorem k_X0_isBlock (l : Launch) (dC : Nat → ClassId) (dI : Nat → Nat → Nat) (h0 hs hd hc : Nat) (a1 a2 : ClassId) (gW gC gV gB gM gI : Nat) (hg : geo gW gC gV gB gM gI) (sz : Nat) (st : Nat → Int32) (d : DS) (v b : Int32) : ctI nwL l yX0_isBlock wsX0_isBlock ({ frames := 1, cells := 0, slots := 0, locals := 21 } : Room) (dC, dI) [(a1, .int), (a2, .int)] (xo_w h0 hs hd hc a1 a2 gW gC gV gB gM gI) (st, d) sz [.ref h0, .int v, .int b] (fun (r : Int32) (u : XS) => r = inB v b gV gB ∧ u = (st, d)) := by
  refine Met.ofW (cc := cX0_isBlock) (maxL := 3) (ret := (some .boolean)) (by decide) rfl ?_
  intro p e s m args below meth c s₁ B hml hv
  obtain ⟨rfl, hsz, hP, hK, hD0, hN⟩ := hv
  have hx := B.exec
  have hb := B.bytes
  have hr := B.returns
  have hts := fun w h => atoms_spec (ws := wsX0_isBlock) B.pre w (List.mem_cons_of_mem _ h)
  have hown : s.vm.findClass RX0 = some m.cls := findClass_of_methodNamed B.named
  have hlocks := B.notSynchronized
  subst hsz
  have hD := hD0.self (sz := s.heap.size)
  generalize hAe : va_A ((xo_w h0 hs hd hc a1 a2 gW gC gV gB gM gI) (st, d)) s.heap.size = A at hD ⊢
  have hA : ∀ q : Nat, s.heap.size ≤ q → A q := fun q h => by rw [← hAe]; exact Or.inr h
  have hS : va_S A s.heap s.heap [] := va_S.rf
  have hl := lv_entry ([.ref h0, .int v, .int b]) (n := 3) (Nat.le_of_ble_eq_true rfl)
  rw [lg_entry_eq]
  generalize (lg_sl ([.ref h0, .int v, .int b]) ++ List.replicate (3 - (lg_sl ([.ref h0, .int v, .int b])).length) Slot.unset).toArray = ls at hl ⊢
  have hP : va_P (dC, dI) vwCl [(h0, .inr (0, [.int (nI gW), .int (nI gC), .int (nI gV), .int (nI gB), .ref hs, .int (nI gM), .int (nI gI), .ref hd])), (hs, .inl (a1, gW, .inl st)), (hd, .inr (1, [.ref hc, .int d.2.1, .int d.2.2.1, .int d.2.2.2.1, .int d.2.2.2.2])), (hc, .inl (a2, (gI + 4), .inl d.1))] s.heap := hP
  have hD : va_D A [(h0, .inr (0, [.int (nI gW), .int (nI gC), .int (nI gV), .int (nI gB), .ref hs, .int (nI gM), .int (nI gI), .ref hd])), (hs, .inl (a1, gW, .inl st)), (hd, .inr (1, [.ref hc, .int d.2.1, .int d.2.2.1, .int d.2.2.2.1, .int d.2.2.2.2])), (hc, .inl (a2, (gI + 4), .inl d.1))] := hD
  have hl : lv_has ls 3 [(0, .ref h0), (1, .int v), (2, .int b)] := hl
  obtain ⟨⟨hW1, hW2⟩, ⟨hC1, hC2⟩, ⟨hV1, hV2⟩, ⟨hB1, hB2⟩, eM, eI⟩ := id hg
  obtain ⟨hM2, hq2⟩ := geo_b hg
  refine lv_aload_n hx hb dX0_isBlock_0 rfl (lv_at hl 0 rfl) ?_
  refine lv_iload_n hx hb dX0_isBlock_1 rfl (lv_at hl 1 rfl) ?_
  refine xr_i (D := (dC, dI)) (wf := (xo_w h0 hs hd hc a1 a2 gW gC gV gB gM gI)) (u0 := (st, d)) (wr := []) (va_runV (As := [.int v]) (rest := []) ⟨hx, hb, hml, hown, hts⟩ (k_X0_isVolume l dC dI h0 hs hd hc a1 a2 gW gC gV gB gM gI hg s.heap.size st d v) (cwV 1 hts gX0_84 rfl rfl rfl (by decide +kernel) ⟨Nat.le_of_ble_eq_true rfl, Nat.le_of_ble_eq_true rfl⟩) (xp_v nwL_ok hK hN hP hD [0, 1, 2, 3] rfl rfl (va_recv hK hP (ci := 0) (q0 := 0) rfl rfl)) rfl rfl hl.1 rfl (lv_room (Nat.le_of_ble_eq_true rfl)) dX0_isBlock_2 ⟨Nat.zero_le _, Nat.zero_le _⟩) hP hD hS hA [0, 1, 2, 3] [] rfl rfl (by decide) (by decide) (fun r_1 u_2 H locs hw hP hD hS => ?_)
  obtain ⟨er_1, eu_2⟩ := hw
  rw [eu_2] at hP hD
  rw [er_1]
  have hP : va_P (dC, dI) vwCl [(h0, .inr (0, [.int (nI gW), .int (nI gC), .int (nI gV), .int (nI gB), .ref hs, .int (nI gM), .int (nI gI), .ref hd])), (hs, .inl (a1, gW, .inl st)), (hd, .inr (1, [.ref hc, .int d.2.1, .int d.2.2.1, .int d.2.2.2.1, .int d.2.2.2.2])), (hc, .inl (a2, (gI + 4), .inl d.1))] H := hP
  have hD : va_D A [(h0, .inr (0, [.int (nI gW), .int (nI gC), .int (nI gV), .int (nI gB), .ref hs, .int (nI gM), .int (nI gI), .ref hd])), (hs, .inl (a1, gW, .inl st)), (hd, .inr (1, [.ref hc, .int d.2.1, .int d.2.2.1, .int d.2.2.2.1, .int d.2.2.2.2])), (hc, .inl (a2, (gI + 4), .inl d.1))] := hD
  refine lv_if_eq (tgt := 24) hx hb dX0_isBlock_5 (by decide) (fun c_3 => ?_) (fun c_3 => ?_)
  · refine lv_iconst (v := 0) hx hb dX0_isBlock_24 (by decide) ?_
    exact W.zret (v := 0) hx hb hr rfl (fun t ht hW => ⟨⟨0, (st, d), rfl, ⟨by unfold inB; rw [if_pos c_3], rfl⟩, by rw [ht]; exact hP, hD⟩, hS.F ht⟩) hS.2.2 dX0_isBlock_25
  · refine lv_iload_n hx hb dX0_isBlock_8 rfl (lv_at hl 2 rfl) ?_
    refine lv_if_lt (tgt := 24) hx hb dX0_isBlock_9 (by decide) (fun c_4 => ?_) (fun c_4 => ?_)
    · refine lv_iconst (v := 0) hx hb dX0_isBlock_24 (by decide) ?_
      exact W.zret (v := 0) hx hb hr rfl (fun t ht hW => ⟨⟨0, (st, d), rfl, ⟨by unfold inB; rw [if_neg c_3]; unfold inR; rw [if_pos c_4], rfl⟩, by rw [ht]; exact hP, hD⟩, hS.F ht⟩) hS.2.2 dX0_isBlock_25
    · refine lv_iload_n hx hb dX0_isBlock_12 rfl (lv_at hl 2 rfl) ?_
      refine lv_aload_n hx hb dX0_isBlock_13 rfl (lv_at hl 0 rfl) ?_
      refine va_get (D := (dC, dI)) (ci := 0) (v := .int (nI gB)) (C := RX0) (T := TX0) (N := 8) hx hb hts inX0 hown hK hP 0 rfl rfl 3 (by decide) (hts _ tb_49) (fun _ h9 => h9) rfl dX0_isBlock_14 ?_
      refine lv_icmp_ge (tgt := 24) hx hb dX0_isBlock_17 (by decide) (fun c_5 => ?_) (fun c_5 => ?_)
      · refine lv_iconst (v := 0) hx hb dX0_isBlock_24 (by decide) ?_
        exact W.zret (v := 0) hx hb hr rfl (fun t ht hW => ⟨⟨0, (st, d), rfl, ⟨by unfold inB; rw [if_neg c_3]; unfold inR; rw [if_neg c_4, if_pos c_5], rfl⟩, by rw [ht]; exact hP, hD⟩, hS.F ht⟩) hS.2.2 dX0_isBlock_25
      · refine lv_iconst (v := 1) hx hb dX0_isBlock_20 (by decide) ?_
        refine lv_goto (tgt := 25) hx hb dX0_isBlock_21 (by decide) ?_
        exact W.zret (v := 1) hx hb hr rfl (fun t ht hW => ⟨⟨1, (st, d), rfl, ⟨by unfold inB; rw [if_neg c_3]; unfold inR; rw [if_neg c_4, if_neg c_5], rfl⟩, by rw [ht]; exact hP, hD⟩, hS.F ht⟩) hS.2.2 dX0_isBlock_25
set_option maxHeartbeats 4000000 in
set_option maxRecDepth 100000 in
theorem k_X0_slotCell (l : Launch) (dC : Nat → ClassId) (dI : Nat → Nat → Nat) (h0 hs hd hc : Nat) (a1 a2 : ClassId) (gW gC gV gB gM gI : Nat) (hg : geo gW gC gV gB gM gI) (sz : Nat) (st : Nat → Int32) (d : DS) (k i : Nat) : ctI nwL l yX0_slotCell wsX0_slotCell ({ frames := 0, cells := 0, slots := 0, locals := 0 } : Room) (dC, dI) [(a1, .int), (a2, .int)] (xo_w h0 hs hd hc a1 a2 gW gC gV gB gM gI) (st, d) sz [.ref h0, .int (nI k), .int (nI i)] (fun (r : Int32) (u : XS) => r = nI (k * gW + i) ∧ u = (st, d)) := by
  refine Met.ofW (cc := cX0_slotCell) (maxL := 3) (ret := (some .int)) (by decide) rfl ?_
  intro p e s m args below meth c s₁ B hml hv
  obtain ⟨rfl, hsz, hP, hK, hD0, hN⟩ := hv
  have hx := B.exec
  have hb := B.bytes
  have hr := B.returns
  have hts := fun w h => atoms_spec (ws := wsX0_slotCell) B.pre w (List.mem_cons_of_mem _ h)
  have hown : s.vm.findClass RX0 = some m.cls := findClass_of_methodNamed B.named
  have hlocks := B.notSynchronized
  subst hsz
  have hD := hD0.self (sz := s.heap.size)
  generalize hAe : va_A ((xo_w h0 hs hd hc a1 a2 gW gC gV gB gM gI) (st, d)) s.heap.size = A at hD ⊢
  have hA : ∀ q : Nat, s.heap.size ≤ q → A q := fun q h => by rw [← hAe]; exact Or.inr h
  have hS : va_S A s.heap s.heap [] := va_S.rf
  have hl := lv_entry ([.ref h0, .int (nI k), .int (nI i)]) (n := 3) (Nat.le_of_ble_eq_true rfl)
  rw [lg_entry_eq]
  generalize (lg_sl ([.ref h0, .int (nI k), .int (nI i)]) ++ List.replicate (3 - (lg_sl ([.ref h0, .int (nI k), .int (nI i)])).length) Slot.unset).toArray = ls at hl ⊢
  have hP : va_P (dC, dI) vwCl [(h0, .inr (0, [.int (nI gW), .int (nI gC), .int (nI gV), .int (nI gB), .ref hs, .int (nI gM), .int (nI gI), .ref hd])), (hs, .inl (a1, gW, .inl st)), (hd, .inr (1, [.ref hc, .int d.2.1, .int d.2.2.1, .int d.2.2.2.1, .int d.2.2.2.2])), (hc, .inl (a2, (gI + 4), .inl d.1))] s.heap := hP
  have hD : va_D A [(h0, .inr (0, [.int (nI gW), .int (nI gC), .int (nI gV), .int (nI gB), .ref hs, .int (nI gM), .int (nI gI), .ref hd])), (hs, .inl (a1, gW, .inl st)), (hd, .inr (1, [.ref hc, .int d.2.1, .int d.2.2.1, .int d.2.2.2.1, .int d.2.2.2.2])), (hc, .inl (a2, (gI + 4), .inl d.1))] := hD
  have hl : lv_has ls 3 [(0, .ref h0), (1, .int (nI k)), (2, .int (nI i))] := hl
  obtain ⟨⟨hW1, hW2⟩, ⟨hC1, hC2⟩, ⟨hV1, hV2⟩, ⟨hB1, hB2⟩, eM, eI⟩ := id hg
  obtain ⟨hM2, hq2⟩ := geo_b hg
  refine lv_iload_n hx hb dX0_slotCell_0 rfl (lv_at hl 1 rfl) ?_
  refine lv_aload_n hx hb dX0_slotCell_1 rfl (lv_at hl 0 rfl) ?_
  refine va_get (D := (dC, dI)) (ci := 0) (v := .int (nI gW)) (C := RX0) (T := TX0) (N := 8) hx hb hts inX0 hown hK hP 0 rfl rfl 0 (by decide) (hts _ tb_46) (fun _ h9 => h9) rfl dX0_slotCell_2 ?_
  refine lv_imul hx hb dX0_slotCell_5 ?_
  refine lv_topi (fun z_1 ez_1 => ?_)
  obtain rfl : z_1 = nI (k * gW) := ez_1.trans (pk_mul k gW)
  refine lv_iload_n hx hb dX0_slotCell_6 rfl (lv_at hl 2 rfl) ?_
  refine lv_iadd hx hb dX0_slotCell_7 ?_
  refine lv_topi (fun z_2 ez_2 => ?_)
  obtain rfl : z_2 = nI (k * gW + i) := ez_2.trans (nI_add (k * gW) i)
  exact W.iret (v := nI (k * gW + i)) hx hb hr (fun t ht hW => ⟨⟨nI (k * gW + i), (st, d), rfl, ⟨rfl, rfl⟩, by rw [ht]; exact hP, hD⟩, hS.F ht⟩) hS.2.2 dX0_slotCell_8
set_option maxHeartbeats 4000000 in
set_option maxRecDepth 100000 in
theorem k_X0_mapCell (l : Launch) (dC : Nat → ClassId) (dI : Nat → Nat → Nat) (h0 hs hd hc : Nat) (a1 a2 : ClassId) (gW gC gV gB gM gI : Nat) (hg : geo gW gC gV gB gM gI) (sz : Nat) (st : Nat → Int32) (d : DS) (v b : Nat) : ctI nwL l yX0_mapCell wsX0_mapCell ({ frames := 0, cells := 0, slots := 0, locals := 0 } : Room) (dC, dI) [(a1, .int), (a2, .int)] (xo_w h0 hs hd hc a1 a2 gW gC gV gB gM gI) (st, d) sz [.ref h0, .int (nI v), .int (nI b)] (fun (r : Int32) (u : XS) => r = nI (gM + v * gB + b) ∧ u = (st, d)) := by
  refine Met.ofW (cc := cX0_mapCell) (maxL := 3) (ret := (some .int)) (by decide) rfl ?_
  intro p e s m args below meth c s₁ B hml hv
  obtain ⟨rfl, hsz, hP, hK, hD0, hN⟩ := hv
  have hx := B.exec
  have hb := B.bytes
  have hr := B.returns
  have hts := fun w h => atoms_spec (ws := wsX0_mapCell) B.pre w (List.mem_cons_of_mem _ h)
  have hown : s.vm.findClass RX0 = some m.cls := findClass_of_methodNamed B.named
  have hlocks := B.notSynchronized
  subst hsz
  have hD := hD0.self (sz := s.heap.size)
  generalize hAe : va_A ((xo_w h0 hs hd hc a1 a2 gW gC gV gB gM gI) (st, d)) s.heap.size = A at hD ⊢
  have hA : ∀ q : Nat, s.heap.size ≤ q → A q := fun q h => by rw [← hAe]; exact Or.inr h
  have hS : va_S A s.heap s.heap [] := va_S.rf
  have hl := lv_entry ([.ref h0, .int (nI v), .int (nI b)]) (n := 3) (Nat.le_of_ble_eq_true rfl)
  rw [lg_entry_eq]
  generalize (lg_sl ([.ref h0, .int (nI v), .int (nI b)]) ++ List.replicate (3 - (lg_sl ([.ref h0, .int (nI v), .int (nI b)])).length) Slot.unset).toArray = ls at hl ⊢
  have hP : va_P (dC, dI) vwCl [(h0, .inr (0, [.int (nI gW), .int (nI gC), .int (nI gV), .int (nI gB), .ref hs, .int (nI gM), .int (nI gI), .ref hd])), (hs, .inl (a1, gW, .inl st)), (hd, .inr (1, [.ref hc, .int d.2.1, .int d.2.2.1, .int d.2.2.2.1, .int d.2.2.2.2])), (hc, .inl (a2, (gI + 4), .inl d.1))] s.heap := hP
  have hD : va_D A [(h0, .inr (0, [.int (nI gW), .int (nI gC), .int (nI gV), .int (nI gB), .ref hs, .int (nI gM), .int (nI gI), .ref hd])), (hs, .inl (a1, gW, .inl st)), (hd, .inr (1, [.ref hc, .int d.2.1, .int d.2.2.1, .int d.2.2.2.1, .int d.2.2.2.2])), (hc, .inl (a2, (gI + 4), .inl d.1))] := hD
  have hl : lv_has ls 3 [(0, .ref h0), (1, .int (nI v)), (2, .int (nI b))] := hl
  obtain ⟨⟨hW1, hW2⟩, ⟨hC1, hC2⟩, ⟨hV1, hV2⟩, ⟨hB1, hB2⟩, eM, eI⟩ := id hg
  obtain ⟨hM2, hq2⟩ := geo_b hg
  refine lv_aload_n hx hb dX0_mapCell_0 rfl (lv_at hl 0 rfl) ?_
  refine va_get (D := (dC, dI)) (ci := 0) (v := .int (nI gM)) (C := RX0) (T := TX0) (N := 8) hx hb hts inX0 hown hK hP 0 rfl rfl 5 (by decide) (hts _ tb_51) (fun _ h9 => h9) rfl dX0_mapCell_1 ?_
  refine lv_iload_n hx hb dX0_mapCell_4 rfl (lv_at hl 1 rfl) ?_
  refine lv_aload_n hx hb dX0_mapCell_5 rfl (lv_at hl 0 rfl) ?_
  refine va_get (D := (dC, dI)) (ci := 0) (v := .int (nI gB)) (C := RX0) (T := TX0) (N := 8) hx hb hts inX0 hown hK hP 0 rfl rfl 3 (by decide) (hts _ tb_49) (fun _ h9 => h9) rfl dX0_mapCell_6 ?_
  refine lv_imul hx hb dX0_mapCell_9 ?_
  refine lv_topi (fun z_1 ez_1 => ?_)
  obtain rfl : z_1 = nI (v * gB) := ez_1.trans (pk_mul v gB)
  refine lv_iadd hx hb dX0_mapCell_10 ?_
  refine lv_topi (fun z_2 ez_2 => ?_)
  obtain rfl : z_2 = nI (gM + v * gB) := ez_2.trans (nI_add gM (v * gB))
  refine lv_iload_n hx hb dX0_mapCell_11 rfl (lv_at hl 2 rfl) ?_
  refine lv_iadd hx hb dX0_mapCell_12 ?_
  refine lv_topi (fun z_3 ez_3 => ?_)
  obtain rfl : z_3 = nI (gM + v * gB + b) := ez_3.trans (nI_add (gM + v * gB) b)
  exact W.iret (v := nI (gM + v * gB + b)) hx hb hr (fun t ht hW => ⟨⟨nI (gM + v * gB + b), (st, d), rfl, ⟨rfl, rfl⟩, by rw [ht]; exact hP, hD⟩, hS.F ht⟩) hS.2.2 dX0_mapCell_13
set_option maxHeartbeats 4000000 in
set_option maxRecDepth 100000 in
theorem k_X0_mappedSlot (l : Launch) (dC : Nat → ClassId) (dI : Nat → Nat → Nat) (h0 hs hd hc : Nat) (a1 a2 : ClassId) (gW gC gV gB gM gI : Nat) (hg : geo gW gC gV gB gM gI) (sz : Nat) (st : Nat → Int32) (d : DS) (v b : Nat) (hv : v < gV) (hb9 : b < gB) : ctI nwL l yX0_mappedSlot wsX0_mappedSlot ({ frames := 1, cells := 0, slots := 0, locals := 22 } : Room) (dC, dI) [(a1, .int), (a2, .int)] (xo_w h0 hs hd hc a1 a2 gW gC gV gB gM gI) (st, d) sz [.ref h0, .int (nI v), .int (nI b)] (fun (r : Int32) (u : XS) => r = d.1 (gM + v * gB + b) - 1 ∧ u = (st, d)) := by
  refine Met.ofW (cc := cX0_mappedSlot) (maxL := 3) (ret := (some .int)) (by decide) rfl ?_
  intro p e s m args below meth c s₁ B hml hv
  obtain ⟨rfl, hsz, hP, hK, hD0, hN⟩ := hv
  have hx := B.exec
  have hb := B.bytes
  have hr := B.returns
  have hts := fun w h => atoms_spec (ws := wsX0_mappedSlot) B.pre w (List.mem_cons_of_mem _ h)
  have hown : s.vm.findClass RX0 = some m.cls := findClass_of_methodNamed B.named
  have hlocks := B.notSynchronized
  subst hsz
  have hD := hD0.self (sz := s.heap.size)
  generalize hAe : va_A ((xo_w h0 hs hd hc a1 a2 gW gC gV gB gM gI) (st, d)) s.heap.size = A at hD ⊢
  have hA : ∀ q : Nat, s.heap.size ≤ q → A q := fun q h => by rw [← hAe]; exact Or.inr h
  have hS : va_S A s.heap s.heap [] := va_S.rf
  have hl := lv_entry ([.ref h0, .int (nI v), .int (nI b)]) (n := 3) (Nat.le_of_ble_eq_true rfl)
  rw [lg_entry_eq]
  generalize (lg_sl ([.ref h0, .int (nI v), .int (nI b)]) ++ List.replicate (3 - (lg_sl ([.ref h0, .int (nI v), .int (nI b)])).length) Slot.unset).toArray = ls at hl ⊢
  have hP : va_P (dC, dI) vwCl [(h0, .inr (0, [.int (nI gW), .int (nI gC), .int (nI gV), .int (nI gB), .ref hs, .int (nI gM), .int (nI gI), .ref hd])), (hs, .inl (a1, gW, .inl st)), (hd, .inr (1, [.ref hc, .int d.2.1, .int d.2.2.1, .int d.2.2.2.1, .int d.2.2.2.2])), (hc, .inl (a2, (gI + 4), .inl d.1))] s.heap := hP
  have hD : va_D A [(h0, .inr (0, [.int (nI gW), .int (nI gC), .int (nI gV), .int (nI gB), .ref hs, .int (nI gM), .int (nI gI), .ref hd])), (hs, .inl (a1, gW, .inl st)), (hd, .inr (1, [.ref hc, .int d.2.1, .int d.2.2.1, .int d.2.2.2.1, .int d.2.2.2.2])), (hc, .inl (a2, (gI + 4), .inl d.1))] := hD
  have hl : lv_has ls 3 [(0, .ref h0), (1, .int (nI v)), (2, .int (nI b))] := hl
  obtain ⟨⟨hW1, hW2⟩, ⟨hC1, hC2⟩, ⟨hV1, hV2⟩, ⟨hB1, hB2⟩, eM, eI⟩ := id hg
  obtain ⟨hM2, hq2⟩ := geo_b hg
  have hvb := ix_lt hv hb9
  refine lv_aload_n hx hb dX0_mappedSlot_0 rfl (lv_at hl 0 rfl) ?_
  refine va_get (D := (dC, dI)) (ci := 0) (v := .ref hd) (C := RX0) (T := TX0) (N := 8) hx hb hts inX0 hown hK hP 0 rfl rfl 7 (by decide) (hts _ tb_53) (fun _ h9 => h9) rfl dX0_mappedSlot_1 ?_
  refine lv_aload_n hx hb dX0_mappedSlot_4 rfl (lv_at hl 0 rfl) ?_
  refine lv_iload_n hx hb dX0_mappedSlot_5 rfl (lv_at hl 1 rfl) ?_
  refine lv_iload_n hx hb dX0_mappedSlot_6 rfl (lv_at hl 2 rfl) ?_
  refine xr_i (D := (dC, dI)) (wf := (xo_w h0 hs hd hc a1 a2 gW gC gV gB gM gI)) (u0 := (st, d)) (wr := []) (va_runV (As := [.int (nI v), .int (nI b)]) (rest := [.ref hd]) ⟨hx, hb, hml, hown, hts⟩ (k_X0_mapCell l dC dI h0 hs hd hc a1 a2 gW gC gV gB gM gI hg s.heap.size st d v b) (cwV 2 hts gX0_113 rfl rfl rfl (by decide +kernel) ⟨Nat.le_of_ble_eq_true rfl, Nat.le_of_ble_eq_true rfl⟩) (xp_v nwL_ok hK hN hP hD [0, 1, 2, 3] rfl rfl (va_recv hK hP (ci := 0) (q0 := 0) rfl rfl)) rfl rfl hl.1 rfl (lv_room (Nat.le_of_ble_eq_true rfl)) dX0_mappedSlot_7 ⟨Nat.zero_le _, Nat.zero_le _⟩) hP hD hS hA [0, 1, 2, 3] [] rfl rfl (by decide) (by decide) (fun r_1 u_2 H locs hw hP hD hS => ?_)
  obtain ⟨er_1, eu_2⟩ := hw
  rw [eu_2] at hP hD
  rw [er_1]
  have hP : va_P (dC, dI) vwCl [(h0, .inr (0, [.int (nI gW), .int (nI gC), .int (nI gV), .int (nI gB), .ref hs, .int (nI gM), .int (nI gI), .ref hd])), (hs, .inl (a1, gW, .inl st)), (hd, .inr (1, [.ref hc, .int d.2.1, .int d.2.2.1, .int d.2.2.2.1, .int d.2.2.2.2])), (hc, .inl (a2, (gI + 4), .inl d.1))] H := hP
  have hD : va_D A [(h0, .inr (0, [.int (nI gW), .int (nI gC), .int (nI gV), .int (nI gB), .ref hs, .int (nI gM), .int (nI gI), .ref hd])), (hs, .inl (a1, gW, .inl st)), (hd, .inr (1, [.ref hc, .int d.2.1, .int d.2.2.1, .int d.2.2.2.1, .int d.2.2.2.2])), (hc, .inl (a2, (gI + 4), .inl d.1))] := hD
  refine xr_i (D := (dC, dI)) (wf := (dk_w hd hc a2 (gI + 4))) (u0 := d) (wr := [(h0, .inr (0, [.int (nI gW), .int (nI gC), .int (nI gV), .int (nI gB), .ref hs, .int (nI gM), .int (nI gI), .ref hd])), (hs, .inl (a1, gW, .inl st))]) (va_runVN (As := [.int (nI (gM + v * gB + b))]) (rest := []) ⟨hx, hb, hml, hown, hts⟩ (k_X1_read l dC dI hd hc a2 (gI + 4) (by omega) H.size d (gM + v * gB + b) (by omega)) ⟨va_cnB 1 hts gX0_80 rfl rfl rfl (hN _ nn_80) (hts _ tb_3) (by decide +kernel) ⟨Nat.le_of_ble_eq_true rfl, Nat.le_of_ble_eq_true rfl⟩, hts _ tb_125, hts _ ts_9⟩ (xp_v nwL_ok (hK.sub (tys' := [(a2, .int)]) [1] rfl) hN hP hD [2, 3] rfl rfl (va_recv hK hP (ci := 1) (q0 := 2) rfl rfl)) rfl rfl hl.1 rfl (lv_room (Nat.le_of_ble_eq_true rfl)) dX0_mappedSlot_10 ⟨Nat.zero_le _, Nat.zero_le _⟩) hP hD hS hA [2, 3] [0, 1] rfl rfl (by decide) (by decide) (fun r_3 u_4 H locs hw hP hD hS => ?_)
  obtain ⟨er_3, eu_4⟩ := hw
  rw [eu_4] at hP hD
  rw [er_3]
  have hP : va_P (dC, dI) vwCl [(h0, .inr (0, [.int (nI gW), .int (nI gC), .int (nI gV), .int (nI gB), .ref hs, .int (nI gM), .int (nI gI), .ref hd])), (hs, .inl (a1, gW, .inl st)), (hd, .inr (1, [.ref hc, .int d.2.1, .int d.2.2.1, .int d.2.2.2.1, .int d.2.2.2.2])), (hc, .inl (a2, (gI + 4), .inl d.1))] H := hP
  have hD : va_D A [(h0, .inr (0, [.int (nI gW), .int (nI gC), .int (nI gV), .int (nI gB), .ref hs, .int (nI gM), .int (nI gI), .ref hd])), (hs, .inl (a1, gW, .inl st)), (hd, .inr (1, [.ref hc, .int d.2.1, .int d.2.2.1, .int d.2.2.2.1, .int d.2.2.2.2])), (hc, .inl (a2, (gI + 4), .inl d.1))] := hD
  refine lv_iconst (v := 1) hx hb dX0_mappedSlot_13 (by decide) ?_
  refine lv_isub hx hb dX0_mappedSlot_14 ?_
  exact W.iret (v := d.1 (gM + v * gB + b) - 1) hx hb hr (fun t ht hW => ⟨⟨d.1 (gM + v * gB + b) - 1, (st, d), rfl, ⟨rfl, rfl⟩, by rw [ht]; exact hP, hD⟩, hS.F ht⟩) hS.2.2 dX0_mappedSlot_15
set_option maxHeartbeats 4000000 in
set_option maxRecDepth 100000 in
theorem k_X0_mapBlock (l : Launch) (dC : Nat → ClassId) (dI : Nat → Nat → Nat) (h0 hs hd hc : Nat) (a1 a2 : ClassId) (gW gC gV gB gM gI : Nat) (hg : geo gW gC gV gB gM gI) (sz : Nat) (st : Nat → Int32) (d : DS) (v b : Nat) (hv : v < gV) (hb9 : b < gB) (k : Int32) : ctV nwL l yX0_mapBlock wsX0_mapBlock ({ frames := 1, cells := 0, slots := 0, locals := 22 } : Room) (dC, dI) [(a1, .int), (a2, .int)] (xo_w h0 hs hd hc a1 a2 gW gC gV gB gM gI) (st, d) sz [.ref h0, .int (nI v), .int (nI b), .int k] (fun (u : XS) => u = (st, dk_write d (gM + v * gB + b) (k + 1))) := by
  refine Met.ofW (cc := cX0_mapBlock) (maxL := 4) (ret := none) (by decide) rfl ?_
  intro p e s m args below meth c s₁ B hml hv
  obtain ⟨rfl, hsz, hP, hK, hD0, hN⟩ := hv
  have hx := B.exec
  have hb := B.bytes
  have hr := B.returns
  have hts := fun w h => atoms_spec (ws := wsX0_mapBlock) B.pre w (List.mem_cons_of_mem _ h)
  have hown : s.vm.findClass RX0 = some m.cls := findClass_of_methodNamed B.named
  have hlocks := B.notSynchronized
  subst hsz
  have hD := hD0.self (sz := s.heap.size)
  generalize hAe : va_A ((xo_w h0 hs hd hc a1 a2 gW gC gV gB gM gI) (st, d)) s.heap.size = A at hD ⊢
  have hA : ∀ q : Nat, s.heap.size ≤ q → A q := fun q h => by rw [← hAe]; exact Or.inr h
  have hS : va_S A s.heap s.heap [] := va_S.rf
  have hl := lv_entry ([.ref h0, .int (nI v), .int (nI b), .int k]) (n := 4) (Nat.le_of_ble_eq_true rfl)
  rw [lg_entry_eq]
  generalize (lg_sl ([.ref h0, .int (nI v), .int (nI b), .int k]) ++ List.replicate (4 - (lg_sl ([.ref h0, .int (nI v), .int (nI b), .int k])).length) Slot.unset).toArray = ls at hl ⊢
  have hP : va_P (dC, dI) vwCl [(h0, .inr (0, [.int (nI gW), .int (nI gC), .int (nI gV), .int (nI gB), .ref hs, .int (nI gM), .int (nI gI), .ref hd])), (hs, .inl (a1, gW, .inl st)), (hd, .inr (1, [.ref hc, .int d.2.1, .int d.2.2.1, .int d.2.2.2.1, .int d.2.2.2.2])), (hc, .inl (a2, (gI + 4), .inl d.1))] s.heap := hP
  have hD : va_D A [(h0, .inr (0, [.int (nI gW), .int (nI gC), .int (nI gV), .int (nI gB), .ref hs, .int (nI gM), .int (nI gI), .ref hd])), (hs, .inl (a1, gW, .inl st)), (hd, .inr (1, [.ref hc, .int d.2.1, .int d.2.2.1, .int d.2.2.2.1, .int d.2.2.2.2])), (hc, .inl (a2, (gI + 4), .inl d.1))] := hD
  have hl : lv_has ls 4 [(0, .ref h0), (1, .int (nI v)), (2, .int (nI b)), (3, .int k)] := hl
  obtain ⟨⟨hW1, hW2⟩, ⟨hC1, hC2⟩, ⟨hV1, hV2⟩, ⟨hB1, hB2⟩, eM, eI⟩ := id hg
  obtain ⟨hM2, hq2⟩ := geo_b hg
  have hvb := ix_lt hv hb9
  refine lv_aload_n hx hb dX0_mapBlock_0 rfl (lv_at hl 0 rfl) ?_
  refine va_get (D := (dC, dI)) (ci := 0) (v := .ref hd) (C := RX0) (T := TX0) (N := 8) hx hb hts inX0 hown hK hP 0 rfl rfl 7 (by decide) (hts _ tb_53) (fun _ h9 => h9) rfl dX0_mapBlock_1 ?_
  refine lv_aload_n hx hb dX0_mapBlock_4 rfl (lv_at hl 0 rfl) ?_
  refine lv_iload_n hx hb dX0_mapBlock_5 rfl (lv_at hl 1 rfl) ?_
  refine lv_iload_n hx hb dX0_mapBlock_6 rfl (lv_at hl 2 rfl) ?_
  refine xr_i (D := (dC, dI)) (wf := (xo_w h0 hs hd hc a1 a2 gW gC gV gB gM gI)) (u0 := (st, d)) (wr := []) (va_runV (As := [.int (nI v), .int (nI b)]) (rest := [.ref hd]) ⟨hx, hb, hml, hown, hts⟩ (k_X0_mapCell l dC dI h0 hs hd hc a1 a2 gW gC gV gB gM gI hg s.heap.size st d v b) (cwV 2 hts gX0_113 rfl rfl rfl (by decide +kernel) ⟨Nat.le_of_ble_eq_true rfl, Nat.le_of_ble_eq_true rfl⟩) (xp_v nwL_ok hK hN hP hD [0, 1, 2, 3] rfl rfl (va_recv hK hP (ci := 0) (q0 := 0) rfl rfl)) rfl rfl hl.1 rfl (lv_room (Nat.le_of_ble_eq_true rfl)) dX0_mapBlock_7 ⟨Nat.zero_le _, Nat.zero_le _⟩) hP hD hS hA [0, 1, 2, 3] [] rfl rfl (by decide) (by decide) (fun r_1 u_2 H locs hw hP hD hS => ?_)
  obtain ⟨er_1, eu_2⟩ := hw
  rw [eu_2] at hP hD
  rw [er_1]
  have hP : va_P (dC, dI) vwCl [(h0, .inr (0, [.int (nI gW), .int (nI gC), .int (nI gV), .int (nI gB), .ref hs, .int (nI gM), .int (nI gI), .ref hd])), (hs, .inl (a1, gW, .inl st)), (hd, .inr (1, [.ref hc, .int d.2.1, .int d.2.2.1, .int d.2.2.2.1, .int d.2.2.2.2])), (hc, .inl (a2, (gI + 4), .inl d.1))] H := hP
  have hD : va_D A [(h0, .inr (0, [.int (nI gW), .int (nI gC), .int (nI gV), .int (nI gB), .ref hs, .int (nI gM), .int (nI gI), .ref hd])), (hs, .inl (a1, gW, .inl st)), (hd, .inr (1, [.ref hc, .int d.2.1, .int d.2.2.1, .int d.2.2.2.1, .int d.2.2.2.2])), (hc, .inl (a2, (gI + 4), .inl d.1))] := hD
  refine lv_iload_n hx hb dX0_mapBlock_10 rfl (lv_at hl 3 rfl) ?_
  refine lv_iconst (v := 1) hx hb dX0_mapBlock_11 (by decide) ?_
  refine lv_iadd hx hb dX0_mapBlock_12 ?_
  refine xr_v (D := (dC, dI)) (wf := (dk_w hd hc a2 (gI + 4))) (u0 := d) (wr := [(h0, .inr (0, [.int (nI gW), .int (nI gC), .int (nI gV), .int (nI gB), .ref hs, .int (nI gM), .int (nI gI), .ref hd])), (hs, .inl (a1, gW, .inl st))]) (va_runVN (As := [.int (nI (gM + v * gB + b)), .int (k + 1)]) (rest := []) ⟨hx, hb, hml, hown, hts⟩ (k_X1_write l dC dI hd hc a2 (gI + 4) (by omega) H.size d (gM + v * gB + b) (by omega) (k + 1)) ⟨va_cnB 2 hts gX0_116 rfl rfl rfl (hN _ nn_116) (hts _ tb_3) (by decide +kernel) ⟨Nat.le_of_ble_eq_true rfl, Nat.le_of_ble_eq_true rfl⟩, hts _ tb_161, hts _ ts_18⟩ (xp_v nwL_ok (hK.sub (tys' := [(a2, .int)]) [1] rfl) hN hP hD [2, 3] rfl rfl (va_recv hK hP (ci := 1) (q0 := 2) rfl rfl)) rfl rfl hl.1 rfl (lv_room (Nat.le_of_ble_eq_true rfl)) dX0_mapBlock_13 ⟨Nat.zero_le _, Nat.zero_le _⟩) hP hD hS hA [2, 3] [0, 1] rfl rfl (by decide) (by decide) (fun u_4 H locs hw hP hD hS => ?_)
  obtain ⟨d_5, ed_5⟩ : ∃ z, z = dk_write d (gM + v * gB + b) (k + 1) := ⟨_, rfl⟩
  rw [hw, ← ed_5] at hP hD
  have hP : va_P (dC, dI) vwCl [(h0, .inr (0, [.int (nI gW), .int (nI gC), .int (nI gV), .int (nI gB), .ref hs, .int (nI gM), .int (nI gI), .ref hd])), (hs, .inl (a1, gW, .inl st)), (hd, .inr (1, [.ref hc, .int d_5.2.1, .int d_5.2.2.1, .int d_5.2.2.2.1, .int d_5.2.2.2.2])), (hc, .inl (a2, (gI + 4), .inl d_5.1))] H := hP
  have hD : va_D A [(h0, .inr (0, [.int (nI gW), .int (nI gC), .int (nI gV), .int (nI gB), .ref hs, .int (nI gM), .int (nI gI), .ref hd])), (hs, .inl (a1, gW, .inl st)), (hd, .inr (1, [.ref hc, .int d_5.2.1, .int d_5.2.2.1, .int d_5.2.2.2.1, .int d_5.2.2.2.2])), (hc, .inl (a2, (gI + 4), .inl d_5.1))] := hD
  exact W.vret hx hb hr (fun t ht hW => ⟨⟨(st, d_5), rfl, by rw [ed_5], by rw [ht]; exact hP, hD⟩, hS.F ht⟩) hS.2.2 dX0_mapBlock_16
end
section
set_option maxHeartbeats 4000000 in
set_option maxRecDepth 100000 in
theorem lp_X0_blocksMappedTo_7 {p : Program} {l : Launch} {e : Env} {s : State} {m : MethodId} {args : Array Value} {below : List Frame} {meth : Method} {c : Code} {Q : State → Prop} {A : Nat → Prop} {dC : Nat → ClassId} {dI : Nat → Nat → Nat} (h0 hs hd hc : Nat) (a1 a2 : ClassId) (gW gC gV gB gM gI : Nat) (hg : geo gW gC gV gB gM gI) (st : Nat → Int32) (d : DS) (k : Int32) (hx : p.tables.exec = Jvm.exec) (hb : c.code = cX0_blocksMappedTo) (hml : c.maxLocals = 4) (hown : s.vm.findClass RX0 = some m.cls) (hts : ∀ w ∈ TBG, w.before args s = true) (hK : va_K (dC, dI) vwCl [(a1, .int), (a2, .int)] s) (hN : nwOk nwL s) (hA : ∀ q : Nat, s.heap.size ≤ q → A q)  (K : ∀  (H : Heap) (locs : List Loc) (ls : Array Slot), va_P (dC, dI) vwCl (xo_w h0 hs hd hc a1 a2 gW gC gV gB gM gI (st, d)) H → va_D A (xo_w h0 hs hd hc a1 a2 gW gC gV gB gM gI (st, d)) → va_S A s.heap H locs → lv_has ls 4 [(0, .ref h0), (1, .int k), (2, .int (nI (cntC d.1 gM (k + 1) (gV * gB))))] → W p l e ({ frames := 1, cells := 0, slots := 0, locals := 21 } : Room) s m args below meth c H locs 0 0 Q (F0 m 38 ls [])) : ∀ (n : Nat) (i : Nat) (H : Heap) (locs : List Loc) (ls : Array Slot), gV * gB - i < n → (i ≤ gV * gB) → va_P (dC, dI) vwCl (xo_w h0 hs hd hc a1 a2 gW gC gV gB gM gI (st, d)) H → va_D A (xo_w h0 hs hd hc a1 a2 gW gC gV gB gM gI (st, d)) → va_S A s.heap H locs → lv_has ls 4 [(0, .ref h0), (1, .int k), (2, .int (nI (cntC d.1 gM (k + 1) i))), (3, .int (nI (gM + i)))] → W p l e ({ frames := 1, cells := 0, slots := 0, locals := 21 } : Room) s m args below meth c H locs 0 0 Q (F0 m 7 ls []) := by
  obtain ⟨⟨hW1, hW2⟩, ⟨hC1, hC2⟩, ⟨hV1, hV2⟩, ⟨hB1, hB2⟩, eM, eI⟩ := id hg
  obtain ⟨hM2, hq2⟩ := geo_b hg
  intro n
  induction n with
  | zero => intro i H locs ls hfu; exact absurd hfu (by omega)
  | succ n ih =>
    intro i H locs ls hfu hi hP hD hS hl
    have hP : va_P (dC, dI) vwCl [(h0, .inr (0, [.int (nI gW), .int (nI gC), .int (nI gV), .int (nI gB), .ref hs, .int (nI gM), .int (nI gI), .ref hd])), (hs, .inl (a1, gW, .inl st)), (hd, .inr (1, [.ref hc, .int d.2.1, .int d.2.2.1, .int d.2.2.2.1, .int d.2.2.2.2])), (hc, .inl (a2, (gI + 4), .inl d.1))] H := hP
    have hD : va_D A [(h0, .inr (0, [.int (nI gW), .int (nI gC), .int (nI gV), .int (nI gB), .ref hs, .int (nI gM), .int (nI gI), .ref hd])), (hs, .inl (a1, gW, .inl st)), (hd, .inr (1, [.ref hc, .int d.2.1, .int d.2.2.1, .int d.2.2.2.1, .int d.2.2.2.2])), (hc, .inl (a2, (gI + 4), .inl d.1))] := hD
    refine lv_iload_n hx hb dX0_blocksMappedTo_7 rfl (lv_at hl 3 rfl) ?_
    refine lv_aload_n hx hb dX0_blocksMappedTo_8 rfl (lv_at hl 0 rfl) ?_
    refine va_get (D := (dC, dI)) (ci := 0) (v := .int (nI gI)) (C := RX0) (T := TX0) (N := 8) hx hb hts inX0 hown hK hP 0 rfl rfl 6 (by decide) (hts _ tb_52) (fun _ h9 => h9) rfl dX0_blocksMappedTo_9 ?_
    refine lv_icmp_ge (tgt := 38) hx hb dX0_blocksMappedTo_12 (by decide) (fun c_1 => ?_) (fun c_1 => ?_)
    · have c_1 : gI ≤ gM + i := (nI_leI (a := gI) (b := gM + i) (by omega) (by omega)).mp c_1
      have hie : i = gV * gB := by omega
      rw [hie] at hl
      exact K  _ _ _  hP hD hS (lv_sub hl [0, 1, 2] rfl)
    · have c_1 : ¬ (gI ≤ gM + i) := fun q9 => c_1 ((nI_leI (a := gI) (b := gM + i) (by omega) (by omega)).mpr q9)
      refine lv_aload_n hx hb dX0_blocksMappedTo_15 rfl (lv_at hl 0 rfl) ?_
      refine va_get (D := (dC, dI)) (ci := 0) (v := .ref hd) (C := RX0) (T := TX0) (N := 8) hx hb hts inX0 hown hK hP 0 rfl rfl 7 (by decide) (hts _ tb_53) (fun _ h9 => h9) rfl dX0_blocksMappedTo_16 ?_
      refine lv_iload_n hx hb dX0_blocksMappedTo_19 rfl (lv_at hl 3 rfl) ?_
      refine xr_i (D := (dC, dI)) (wf := (dk_w hd hc a2 (gI + 4))) (u0 := d) (wr := [(h0, .inr (0, [.int (nI gW), .int (nI gC), .int (nI gV), .int (nI gB), .ref hs, .int (nI gM), .int (nI gI), .ref hd])), (hs, .inl (a1, gW, .inl st))]) (va_runVN (As := [.int (nI (gM + i))]) (rest := []) ⟨hx, hb, hml, hown, hts⟩ (k_X1_read l dC dI hd hc a2 (gI + 4) (by omega) H.size d (gM + i) (by omega)) ⟨va_cnB 1 hts gX0_80 rfl rfl rfl (hN _ nn_80) (hts _ tb_3) (by decide +kernel) ⟨Nat.le_of_ble_eq_true rfl, Nat.le_of_ble_eq_true rfl⟩, hts _ tb_125, hts _ ts_9⟩ (xp_v nwL_ok (hK.sub (tys' := [(a2, .int)]) [1] rfl) hN hP hD [2, 3] rfl rfl (va_recv hK hP (ci := 1) (q0 := 2) rfl rfl)) rfl rfl hl.1 rfl (lv_room (Nat.le_of_ble_eq_true rfl)) dX0_blocksMappedTo_20 ⟨Nat.zero_le _, Nat.zero_le _⟩) hP hD hS hA [2, 3] [0, 1] rfl rfl (by decide) (by decide) (fun r_2 u_3 H locs hw hP hD hS => ?_)
      obtain ⟨er_2, eu_3⟩ := hw
      rw [eu_3] at hP hD
      rw [er_2]
      have hP : va_P (dC, dI) vwCl [(h0, .inr (0, [.int (nI gW), .int (nI gC), .int (nI gV), .int (nI gB), .ref hs, .int (nI gM), .int (nI gI), .ref hd])), (hs, .inl (a1, gW, .inl st)), (hd, .inr (1, [.ref hc, .int d.2.1, .int d.2.2.1, .int d.2.2.2.1, .int d.2.2.2.2])), (hc, .inl (a2, (gI + 4), .inl d.1))] H := hP
      have hD : va_D A [(h0, .inr (0, [.int (nI gW), .int (nI gC), .int (nI gV), .int (nI gB), .ref hs, .int (nI gM), .int (nI gI), .ref hd])), (hs, .inl (a1, gW, .inl st)), (hd, .inr (1, [.ref hc, .int d.2.1, .int d.2.2.1, .int d.2.2.2.1, .int d.2.2.2.2])), (hc, .inl (a2, (gI + 4), .inl d.1))] := hD
      refine lv_iload_n hx hb dX0_blocksMappedTo_23 rfl (lv_at hl 1 rfl) ?_
      refine lv_iconst (v := 1) hx hb dX0_blocksMappedTo_24 (by decide) ?_
      refine lv_iadd hx hb dX0_blocksMappedTo_25 ?_
      refine lv_icmp_ne (tgt := 32) hx hb dX0_blocksMappedTo_26 (by decide) (fun c_4 => ?_) (fun c_4 => ?_)
      · refine lv_iinc (v := nI (gM + i + 1)) (lv' := [(3, .int (nI (gM + i + 1))), (0, .ref h0), (1, .int k), (2, .int (nI (cntC d.1 gM (k + 1) i)))]) hx hb dX0_blocksMappedTo_32 hl (k := 3) rfl (nI_1 (gM + i)) (by decide) rfl (fun ls hl => ?_)
        have hl : lv_has ls 4 [(3, .int (nI (gM + i + 1))), (0, .ref h0), (1, .int k), (2, .int (nI (cntC d.1 gM (k + 1) (i + 1))))] := by have q9 := hl; rw [cntC_mis c_4] at q9; exact q9
        have hl : lv_has ls 4 [(3, .int (nI (gM + (i + 1)))), (0, .ref h0), (1, .int k), (2, .int (nI (cntC d.1 gM (k + 1) (i + 1))))] := by have q9 := hl; rw [show gM + i + 1 = gM + (i + 1) from by omega] at q9; exact q9
        refine lv_goto (tgt := 7) hx hb dX0_blocksMappedTo_35 (by decide) ?_
        exact ih (i + 1) _ _ _ (by omega) (by omega) hP hD hS (lv_sub hl [1, 2, 3, 0] rfl)
      · refine lv_iinc (v := nI (cntC d.1 gM (k + 1) i + 1)) (lv' := [(2, .int (nI (cntC d.1 gM (k + 1) i + 1))), (0, .ref h0), (1, .int k), (3, .int (nI (gM + i)))]) hx hb dX0_blocksMappedTo_29 hl (k := 2) rfl (nI_1 (cntC d.1 gM (k + 1) i)) (by decide) rfl (fun ls hl => ?_)
        refine lv_iinc (v := nI (gM + i + 1)) (lv' := [(3, .int (nI (gM + i + 1))), (2, .int (nI (cntC d.1 gM (k + 1) i + 1))), (0, .ref h0), (1, .int k)]) hx hb dX0_blocksMappedTo_32 hl (k := 3) rfl (nI_1 (gM + i)) (by decide) rfl (fun ls hl => ?_)
        have hl : lv_has ls 4 [(3, .int (nI (gM + i + 1))), (2, .int (nI (cntC d.1 gM (k + 1) (i + 1)))), (0, .ref h0), (1, .int k)] := by have q9 := hl; rw [cntC_hit c_4] at q9; exact q9
        have hl : lv_has ls 4 [(3, .int (nI (gM + (i + 1)))), (2, .int (nI (cntC d.1 gM (k + 1) (i + 1)))), (0, .ref h0), (1, .int k)] := by have q9 := hl; rw [show gM + i + 1 = gM + (i + 1) from by omega] at q9; exact q9
        refine lv_goto (tgt := 7) hx hb dX0_blocksMappedTo_35 (by decide) ?_
        exact ih (i + 1) _ _ _ (by omega) (by omega) hP hD hS (lv_sub hl [2, 3, 1, 0] rfl)
set_option maxHeartbeats 4000000 in
set_option maxRecDepth 100000 in
theorem k_X0_blocksMappedTo (l : Launch) (dC : Nat → ClassId) (dI : Nat → Nat → Nat) (h0 hs hd hc : Nat) (a1 a2 : ClassId) (gW gC gV gB gM gI : Nat) (hg : geo gW gC gV gB gM gI) (sz : Nat) (st : Nat → Int32) (d : DS) (k : Int32) : ctI nwL l yX0_blocksMappedTo wsX0_blocksMappedTo ({ frames := 1, cells := 0, slots := 0, locals := 21 } : Room) (dC, dI) [(a1, .int), (a2, .int)] (xo_w h0 hs hd hc a1 a2 gW gC gV gB gM gI) (st, d) sz [.ref h0, .int k] (fun (r : Int32) (u : XS) => r = nI (cntC d.1 gM (k + 1) (gV * gB)) ∧ u = (st, d)) := by
  refine Met.ofW (cc := cX0_blocksMappedTo) (maxL := 4) (ret := (some .int)) (by decide) rfl ?_
  intro p e s m args below meth c s₁ B hml hv
  obtain ⟨rfl, hsz, hP, hK, hD0, hN⟩ := hv
  have hx := B.exec
  have hb := B.bytes
  have hr := B.returns
  have hts := fun w h => atoms_spec (ws := wsX0_blocksMappedTo) B.pre w (List.mem_cons_of_mem _ h)
  have hown : s.vm.findClass RX0 = some m.cls := findClass_of_methodNamed B.named
  have hlocks := B.notSynchronized
  subst hsz
  have hD := hD0.self (sz := s.heap.size)
  generalize hAe : va_A ((xo_w h0 hs hd hc a1 a2 gW gC gV gB gM gI) (st, d)) s.heap.size = A at hD ⊢
  have hA : ∀ q : Nat, s.heap.size ≤ q → A q := fun q h => by rw [← hAe]; exact Or.inr h
  have hS : va_S A s.heap s.heap [] := va_S.rf
  have hl := lv_entry ([.ref h0, .int k]) (n := 4) (Nat.le_of_ble_eq_true rfl)
  rw [lg_entry_eq]
  generalize (lg_sl ([.ref h0, .int k]) ++ List.replicate (4 - (lg_sl ([.ref h0, .int k])).length) Slot.unset).toArray = ls at hl ⊢
  have hP : va_P (dC, dI) vwCl [(h0, .inr (0, [.int (nI gW), .int (nI gC), .int (nI gV), .int (nI gB), .ref hs, .int (nI gM), .int (nI gI), .ref hd])), (hs, .inl (a1, gW, .inl st)), (hd, .inr (1, [.ref hc, .int d.2.1, .int d.2.2.1, .int d.2.2.2.1, .int d.2.2.2.2])), (hc, .inl (a2, (gI + 4), .inl d.1))] s.heap := hP
  have hD : va_D A [(h0, .inr (0, [.int (nI gW), .int (nI gC), .int (nI gV), .int (nI gB), .ref hs, .int (nI gM), .int (nI gI), .ref hd])), (hs, .inl (a1, gW, .inl st)), (hd, .inr (1, [.ref hc, .int d.2.1, .int d.2.2.1, .int d.2.2.2.1, .int d.2.2.2.2])), (hc, .inl (a2, (gI + 4), .inl d.1))] := hD
  have hl : lv_has ls 4 [(0, .ref h0), (1, .int k)] := hl
  obtain ⟨⟨hW1, hW2⟩, ⟨hC1, hC2⟩, ⟨hV1, hV2⟩, ⟨hB1, hB2⟩, eM, eI⟩ := id hg
  obtain ⟨hM2, hq2⟩ := geo_b hg
  refine lv_iconst (v := 0) hx hb dX0_blocksMappedTo_0 (by decide) ?_
  refine lv_istore_n (lv' := [(2, .int 0), (0, .ref h0), (1, .int k)]) hx hb dX0_blocksMappedTo_1 rfl hl (by decide) rfl (fun ls hl => ?_)
  refine lv_aload_n hx hb dX0_blocksMappedTo_2 rfl (lv_at hl 1 rfl) ?_
  refine va_get (D := (dC, dI)) (ci := 0) (v := .int (nI gM)) (C := RX0) (T := TX0) (N := 8) hx hb hts inX0 hown hK hP 0 rfl rfl 5 (by decide) (hts _ tb_51) (fun _ h9 => h9) rfl dX0_blocksMappedTo_3 ?_
  refine lv_istore_n (lv' := [(3, .int (nI gM)), (2, .int 0), (0, .ref h0), (1, .int k)]) hx hb dX0_blocksMappedTo_6 rfl hl (by decide) rfl (fun ls hl => ?_)
  have hl : lv_has ls 4 [(3, .int (nI (gM + 0))), (2, .int (nI (cntC d.1 gM (k + 1) 0))), (0, .ref h0), (1, .int k)] := hl
  refine lp_X0_blocksMappedTo_7 h0 hs hd hc a1 a2 gW gC gV gB gM gI hg st d k hx hb hml hown hts hK hN hA  (fun  H locs ls  hP hD hS hl => ?_) (gV * gB + 1) 0 _ _ _ (by omega) (by omega) hP hD hS (lv_sub hl [2, 3, 1, 0] rfl)
  · have hP : va_P (dC, dI) vwCl [(h0, .inr (0, [.int (nI gW), .int (nI gC), .int (nI gV), .int (nI gB), .ref hs, .int (nI gM), .int (nI gI), .ref hd])), (hs, .inl (a1, gW, .inl st)), (hd, .inr (1, [.ref hc, .int d.2.1, .int d.2.2.1, .int d.2.2.2.1, .int d.2.2.2.2])), (hc, .inl (a2, (gI + 4), .inl d.1))] H := hP
    have hD : va_D A [(h0, .inr (0, [.int (nI gW), .int (nI gC), .int (nI gV), .int (nI gB), .ref hs, .int (nI gM), .int (nI gI), .ref hd])), (hs, .inl (a1, gW, .inl st)), (hd, .inr (1, [.ref hc, .int d.2.1, .int d.2.2.1, .int d.2.2.2.1, .int d.2.2.2.2])), (hc, .inl (a2, (gI + 4), .inl d.1))] := hD
    refine lv_iload_n hx hb dX0_blocksMappedTo_38 rfl (lv_at hl 2 rfl) ?_
    exact W.iret (v := nI (cntC d.1 gM (k + 1) (gV * gB))) hx hb hr (fun t ht hW => ⟨⟨nI (cntC d.1 gM (k + 1) (gV * gB)), (st, d), rfl, ⟨rfl, rfl⟩, by rw [ht]; exact hP, hD⟩, hS.F ht⟩) hS.2.2 dX0_blocksMappedTo_39
set_option maxHeartbeats 4000000 in
set_option maxRecDepth 100000 in
theorem k_X0_isUsed (l : Launch) (dC : Nat → ClassId) (dI : Nat → Nat → Nat) (h0 hs hd hc : Nat) (a1 a2 : ClassId) (gW gC gV gB gM gI : Nat) (hg : geo gW gC gV gB gM gI) (sz : Nat) (st : Nat → Int32) (d : DS) (k : Int32) : ctI nwL l yX0_isUsed wsX0_isUsed ({ frames := 2, cells := 0, slots := 0, locals := 44 } : Room) (dC, dI) [(a1, .int), (a2, .int)] (xo_w h0 hs hd hc a1 a2 gW gC gV gB gM gI) (st, d) sz [.ref h0, .int k] (fun (r : Int32) (u : XS) => r = usd d.1 gM (gV * gB) k ∧ u = (st, d)) := by
  refine Met.ofW (cc := cX0_isUsed) (maxL := 2) (ret := (some .boolean)) (by decide) rfl ?_
  intro p e s m args below meth c s₁ B hml hv
  obtain ⟨rfl, hsz, hP, hK, hD0, hN⟩ := hv
  have hx := B.exec
  have hb := B.bytes
  have hr := B.returns
  have hts := fun w h => atoms_spec (ws := wsX0_isUsed) B.pre w (List.mem_cons_of_mem _ h)
  have hown : s.vm.findClass RX0 = some m.cls := findClass_of_methodNamed B.named
  have hlocks := B.notSynchronized
  subst hsz
  have hD := hD0.self (sz := s.heap.size)
  generalize hAe : va_A ((xo_w h0 hs hd hc a1 a2 gW gC gV gB gM gI) (st, d)) s.heap.size = A at hD ⊢
  have hA : ∀ q : Nat, s.heap.size ≤ q → A q := fun q h => by rw [← hAe]; exact Or.inr h
  have hS : va_S A s.heap s.heap [] := va_S.rf
  have hl := lv_entry ([.ref h0, .int k]) (n := 2) (Nat.le_of_ble_eq_true rfl)
  rw [lg_entry_eq]
  generalize (lg_sl ([.ref h0, .int k]) ++ List.replicate (2 - (lg_sl ([.ref h0, .int k])).length) Slot.unset).toArray = ls at hl ⊢
  have hP : va_P (dC, dI) vwCl [(h0, .inr (0, [.int (nI gW), .int (nI gC), .int (nI gV), .int (nI gB), .ref hs, .int (nI gM), .int (nI gI), .ref hd])), (hs, .inl (a1, gW, .inl st)), (hd, .inr (1, [.ref hc, .int d.2.1, .int d.2.2.1, .int d.2.2.2.1, .int d.2.2.2.2])), (hc, .inl (a2, (gI + 4), .inl d.1))] s.heap := hP
  have hD : va_D A [(h0, .inr (0, [.int (nI gW), .int (nI gC), .int (nI gV), .int (nI gB), .ref hs, .int (nI gM), .int (nI gI), .ref hd])), (hs, .inl (a1, gW, .inl st)), (hd, .inr (1, [.ref hc, .int d.2.1, .int d.2.2.1, .int d.2.2.2.1, .int d.2.2.2.2])), (hc, .inl (a2, (gI + 4), .inl d.1))] := hD
  have hl : lv_has ls 2 [(0, .ref h0), (1, .int k)] := hl
  obtain ⟨⟨hW1, hW2⟩, ⟨hC1, hC2⟩, ⟨hV1, hV2⟩, ⟨hB1, hB2⟩, eM, eI⟩ := id hg
  obtain ⟨hM2, hq2⟩ := geo_b hg
  have hcl := cntC_le d.1 gM (k + 1) (gV * gB)
  refine lv_aload_n hx hb dX0_isUsed_0 rfl (lv_at hl 0 rfl) ?_
  refine lv_iload_n hx hb dX0_isUsed_1 rfl (lv_at hl 1 rfl) ?_
  refine xr_i (D := (dC, dI)) (wf := (xo_w h0 hs hd hc a1 a2 gW gC gV gB gM gI)) (u0 := (st, d)) (wr := []) (va_runV (As := [.int k]) (rest := []) ⟨hx, hb, hml, hown, hts⟩ (k_X0_blocksMappedTo l dC dI h0 hs hd hc a1 a2 gW gC gV gB gM gI hg s.heap.size st d k) (cwV 1 hts gX0_90 rfl rfl rfl (by decide +kernel) ⟨Nat.le_of_ble_eq_true rfl, Nat.le_of_ble_eq_true rfl⟩) (xp_v nwL_ok hK hN hP hD [0, 1, 2, 3] rfl rfl (va_recv hK hP (ci := 0) (q0 := 0) rfl rfl)) rfl rfl hl.1 rfl (lv_room (Nat.le_of_ble_eq_true rfl)) dX0_isUsed_2 ⟨Nat.zero_le _, Nat.zero_le _⟩) hP hD hS hA [0, 1, 2, 3] [] rfl rfl (by decide) (by decide) (fun r_1 u_2 H locs hw hP hD hS => ?_)
  obtain ⟨er_1, eu_2⟩ := hw
  rw [eu_2] at hP hD
  rw [er_1]
  have hP : va_P (dC, dI) vwCl [(h0, .inr (0, [.int (nI gW), .int (nI gC), .int (nI gV), .int (nI gB), .ref hs, .int (nI gM), .int (nI gI), .ref hd])), (hs, .inl (a1, gW, .inl st)), (hd, .inr (1, [.ref hc, .int d.2.1, .int d.2.2.1, .int d.2.2.2.1, .int d.2.2.2.2])), (hc, .inl (a2, (gI + 4), .inl d.1))] H := hP
  have hD : va_D A [(h0, .inr (0, [.int (nI gW), .int (nI gC), .int (nI gV), .int (nI gB), .ref hs, .int (nI gM), .int (nI gI), .ref hd])), (hs, .inl (a1, gW, .inl st)), (hd, .inr (1, [.ref hc, .int d.2.1, .int d.2.2.1, .int d.2.2.2.1, .int d.2.2.2.2])), (hc, .inl (a2, (gI + 4), .inl d.1))] := hD
  refine lv_if_le (tgt := 12) hx hb dX0_isUsed_5 (by decide) (fun c_3 => ?_) (fun c_3 => ?_)
  · have c_3 : cntC d.1 gM (k + 1) (gV * gB) ≤ 0 := (nI_leI (a := cntC d.1 gM (k + 1) (gV * gB)) (b := 0) (by omega) (by omega)).mp c_3
    refine lv_iconst (v := 0) hx hb dX0_isUsed_12 (by decide) ?_
    exact W.zret (v := 0) hx hb hr rfl (fun t ht hW => ⟨⟨0, (st, d), rfl, ⟨by unfold usd; rw [if_pos (by omega)], rfl⟩, by rw [ht]; exact hP, hD⟩, hS.F ht⟩) hS.2.2 dX0_isUsed_13
  · have c_3 : ¬ (cntC d.1 gM (k + 1) (gV * gB) ≤ 0) := fun q9 => c_3 ((nI_leI (a := cntC d.1 gM (k + 1) (gV * gB)) (b := 0) (by omega) (by omega)).mpr q9)
    refine lv_iconst (v := 1) hx hb dX0_isUsed_8 (by decide) ?_
    refine lv_goto (tgt := 13) hx hb dX0_isUsed_9 (by decide) ?_
    exact W.zret (v := 1) hx hb hr rfl (fun t ht hW => ⟨⟨1, (st, d), rfl, ⟨by unfold usd; rw [if_neg (by omega)], rfl⟩, by rw [ht]; exact hP, hD⟩, hS.F ht⟩) hS.2.2 dX0_isUsed_13
set_option maxHeartbeats 4000000 in
set_option maxRecDepth 100000 in
theorem lp_X0_usedSlots_4 {p : Program} {l : Launch} {e : Env} {s : State} {m : MethodId} {args : Array Value} {below : List Frame} {meth : Method} {c : Code} {Q : State → Prop} {A : Nat → Prop} {dC : Nat → ClassId} {dI : Nat → Nat → Nat} (h0 hs hd hc : Nat) (a1 a2 : ClassId) (gW gC gV gB gM gI : Nat) (hg : geo gW gC gV gB gM gI) (st : Nat → Int32) (d : DS) (hx : p.tables.exec = Jvm.exec) (hb : c.code = cX0_usedSlots) (hml : c.maxLocals = 3) (hown : s.vm.findClass RX0 = some m.cls) (hts : ∀ w ∈ TBG, w.before args s = true) (hK : va_K (dC, dI) vwCl [(a1, .int), (a2, .int)] s) (hN : nwOk nwL s) (hA : ∀ q : Nat, s.heap.size ≤ q → A q)  (K : ∀  (H : Heap) (locs : List Loc) (ls : Array Slot), va_P (dC, dI) vwCl (xo_w h0 hs hd hc a1 a2 gW gC gV gB gM gI (st, d)) H → va_D A (xo_w h0 hs hd hc a1 a2 gW gC gV gB gM gI (st, d)) → va_S A s.heap H locs → lv_has ls 3 [(0, .ref h0), (1, .int (nI (usN d.1 gM (gV * gB) (gC + 1))))] → W p l e ({ frames := 3, cells := 0, slots := 0, locals := 65 } : Room) s m args below meth c H locs 0 0 Q (F0 m 29 ls [])) : ∀ (n : Nat) (i : Nat) (H : Heap) (locs : List Loc) (ls : Array Slot), gC + 1 - i < n → (i ≤ gC + 1) → va_P (dC, dI) vwCl (xo_w h0 hs hd hc a1 a2 gW gC gV gB gM gI (st, d)) H → va_D A (xo_w h0 hs hd hc a1 a2 gW gC gV gB gM gI (st, d)) → va_S A s.heap H locs → lv_has ls 3 [(0, .ref h0), (1, .int (nI (usN d.1 gM (gV * gB) i))), (2, .int (nI i))] → W p l e ({ frames := 3, cells := 0, slots := 0, locals := 65 } : Room) s m args below meth c H locs 0 0 Q (F0 m 4 ls []) := by
  obtain ⟨⟨hW1, hW2⟩, ⟨hC1, hC2⟩, ⟨hV1, hV2⟩, ⟨hB1, hB2⟩, eM, eI⟩ := id hg
  obtain ⟨hM2, hq2⟩ := geo_b hg
  intro n
  induction n with
  | zero => intro i H locs ls hfu; exact absurd hfu (by omega)
  | succ n ih =>
    intro i H locs ls hfu hi hP hD hS hl
    have hP : va_P (dC, dI) vwCl [(h0, .inr (0, [.int (nI gW), .int (nI gC), .int (nI gV), .int (nI gB), .ref hs, .int (nI gM), .int (nI gI), .ref hd])), (hs, .inl (a1, gW, .inl st)), (hd, .inr (1, [.ref hc, .int d.2.1, .int d.2.2.1, .int d.2.2.2.1, .int d.2.2.2.2])), (hc, .inl (a2, (gI + 4), .inl d.1))] H := hP
    have hD : va_D A [(h0, .inr (0, [.int (nI gW), .int (nI gC), .int (nI gV), .int (nI gB), .ref hs, .int (nI gM), .int (nI gI), .ref hd])), (hs, .inl (a1, gW, .inl st)), (hd, .inr (1, [.ref hc, .int d.2.1, .int d.2.2.1, .int d.2.2.2.1, .int d.2.2.2.2])), (hc, .inl (a2, (gI + 4), .inl d.1))] := hD
    refine lv_iload_n hx hb dX0_usedSlots_4 rfl (lv_at hl 2 rfl) ?_
    refine lv_aload_n hx hb dX0_usedSlots_5 rfl (lv_at hl 0 rfl) ?_
    refine va_get (D := (dC, dI)) (ci := 0) (v := .int (nI gC)) (C := RX0) (T := TX0) (N := 8) hx hb hts inX0 hown hK hP 0 rfl rfl 1 (by decide) (hts _ tb_47) (fun _ h9 => h9) rfl dX0_usedSlots_6 ?_
    refine lv_icmp_gt (tgt := 29) hx hb dX0_usedSlots_9 (by decide) (fun c_1 => ?_) (fun c_1 => ?_)
    · have c_1 : gC < i := (nI_ltI (a := gC) (b := i) (by omega) (by omega)).mp c_1
      have hie : i = gC + 1 := by omega
      rw [hie] at hl
      exact K  _ _ _  hP hD hS (lv_sub hl [0, 1] rfl)
    · have c_1 : ¬ (gC < i) := fun q9 => c_1 ((nI_ltI (a := gC) (b := i) (by omega) (by omega)).mpr q9)
      refine lv_aload_n hx hb dX0_usedSlots_12 rfl (lv_at hl 0 rfl) ?_
      refine lv_iload_n hx hb dX0_usedSlots_13 rfl (lv_at hl 2 rfl) ?_
      refine xr_i (D := (dC, dI)) (wf := (xo_w h0 hs hd hc a1 a2 gW gC gV gB gM gI)) (u0 := (st, d)) (wr := []) (va_runV (As := [.int (nI i)]) (rest := []) ⟨hx, hb, hml, hown, hts⟩ (k_X0_isUsed l dC dI h0 hs hd hc a1 a2 gW gC gV gB gM gI hg H.size st d (nI i)) (cwV 1 hts gX0_120 rfl rfl rfl (by decide +kernel) ⟨Nat.le_of_ble_eq_true rfl, Nat.le_of_ble_eq_true rfl⟩) (xp_v nwL_ok hK hN hP hD [0, 1, 2, 3] rfl rfl (va_recv hK hP (ci := 0) (q0 := 0) rfl rfl)) rfl rfl hl.1 rfl (lv_room (Nat.le_of_ble_eq_true rfl)) dX0_usedSlots_14 ⟨Nat.zero_le _, Nat.zero_le _⟩) hP hD hS hA [0, 1, 2, 3] [] rfl rfl (by decide) (by decide) (fun r_2 u_3 H locs hw hP hD hS => ?_)
      obtain ⟨er_2, eu_3⟩ := hw
      rw [eu_3] at hP hD
      rw [er_2]
      have hP : va_P (dC, dI) vwCl [(h0, .inr (0, [.int (nI gW), .int (nI gC), .int (nI gV), .int (nI gB), .ref hs, .int (nI gM), .int (nI gI), .ref hd])), (hs, .inl (a1, gW, .inl st)), (hd, .inr (1, [.ref hc, .int d.2.1, .int d.2.2.1, .int d.2.2.2.1, .int d.2.2.2.2])), (hc, .inl (a2, (gI + 4), .inl d.1))] H := hP
      have hD : va_D A [(h0, .inr (0, [.int (nI gW), .int (nI gC), .int (nI gV), .int (nI gB), .ref hs, .int (nI gM), .int (nI gI), .ref hd])), (hs, .inl (a1, gW, .inl st)), (hd, .inr (1, [.ref hc, .int d.2.1, .int d.2.2.1, .int d.2.2.2.1, .int d.2.2.2.2])), (hc, .inl (a2, (gI + 4), .inl d.1))] := hD
      refine lv_if_eq (tgt := 23) hx hb dX0_usedSlots_17 (by decide) (fun c_4 => ?_) (fun c_4 => ?_)
      · refine lv_iinc (v := nI (i + 1)) (lv' := [(2, .int (nI (i + 1))), (0, .ref h0), (1, .int (nI (usN d.1 gM (gV * gB) i)))]) hx hb dX0_usedSlots_23 hl (k := 2) rfl (nI_1 i) (by decide) rfl (fun ls hl => ?_)
        have hl : lv_has ls 3 [(2, .int (nI (i + 1))), (0, .ref h0), (1, .int (nI (usN d.1 gM (gV * gB) (i + 1))))] := by have q9 := hl; rw [usN_mis c_4] at q9; exact q9
        refine lv_goto (tgt := 4) hx hb dX0_usedSlots_26 (by decide) ?_
        exact ih (i + 1) _ _ _ (by omega) (by omega) hP hD hS (lv_sub hl [1, 2, 0] rfl)
      · refine lv_iinc (v := nI (usN d.1 gM (gV * gB) i + 1)) (lv' := [(1, .int (nI (usN d.1 gM (gV * gB) i + 1))), (0, .ref h0), (2, .int (nI i))]) hx hb dX0_usedSlots_20 hl (k := 1) rfl (nI_1 (usN d.1 gM (gV * gB) i)) (by decide) rfl (fun ls hl => ?_)
        refine lv_iinc (v := nI (i + 1)) (lv' := [(2, .int (nI (i + 1))), (1, .int (nI (usN d.1 gM (gV * gB) i + 1))), (0, .ref h0)]) hx hb dX0_usedSlots_23 hl (k := 2) rfl (nI_1 i) (by decide) rfl (fun ls hl => ?_)
        have hl : lv_has ls 3 [(2, .int (nI (i + 1))), (1, .int (nI (usN d.1 gM (gV * gB) (i + 1)))), (0, .ref h0)] := by have q9 := hl; rw [usN_hit c_4] at q9; exact q9
        refine lv_goto (tgt := 4) hx hb dX0_usedSlots_26 (by decide) ?_
        exact ih (i + 1) _ _ _ (by omega) (by omega) hP hD hS (lv_sub hl [2, 1, 0] rfl)
set_option maxHeartbeats 4000000 in
set_option maxRecDepth 100000 in
theorem k_X0_usedSlots (l : Launch) (dC : Nat → ClassId) (dI : Nat → Nat → Nat) (h0 hs hd hc : Nat) (a1 a2 : ClassId) (gW gC gV gB gM gI : Nat) (hg : geo gW gC gV gB gM gI) (sz : Nat) (st : Nat → Int32) (d : DS)  : ctI nwL l yX0_usedSlots wsX0_usedSlots ({ frames := 3, cells := 0, slots := 0, locals := 65 } : Room) (dC, dI) [(a1, .int), (a2, .int)] (xo_w h0 hs hd hc a1 a2 gW gC gV gB gM gI) (st, d) sz [.ref h0] (fun (r : Int32) (u : XS) => r = nI (usN d.1 gM (gV * gB) (gC + 1)) ∧ u = (st, d)) := by
  refine Met.ofW (cc := cX0_usedSlots) (maxL := 3) (ret := (some .int)) (by decide) rfl ?_
  intro p e s m args below meth c s₁ B hml hv
  obtain ⟨rfl, hsz, hP, hK, hD0, hN⟩ := hv
  have hx := B.exec
  have hb := B.bytes
  have hr := B.returns
  have hts := fun w h => atoms_spec (ws := wsX0_usedSlots) B.pre w (List.mem_cons_of_mem _ h)
  have hown : s.vm.findClass RX0 = some m.cls := findClass_of_methodNamed B.named
  have hlocks := B.notSynchronized
  subst hsz
  have hD := hD0.self (sz := s.heap.size)
  generalize hAe : va_A ((xo_w h0 hs hd hc a1 a2 gW gC gV gB gM gI) (st, d)) s.heap.size = A at hD ⊢
  have hA : ∀ q : Nat, s.heap.size ≤ q → A q := fun q h => by rw [← hAe]; exact Or.inr h
  have hS : va_S A s.heap s.heap [] := va_S.rf
  have hl := lv_entry ([.ref h0]) (n := 3) (Nat.le_of_ble_eq_true rfl)
  rw [lg_entry_eq]
  generalize (lg_sl ([.ref h0]) ++ List.replicate (3 - (lg_sl ([.ref h0])).length) Slot.unset).toArray = ls at hl ⊢
  have hP : va_P (dC, dI) vwCl [(h0, .inr (0, [.int (nI gW), .int (nI gC), .int (nI gV), .int (nI gB), .ref hs, .int (nI gM), .int (nI gI), .ref hd])), (hs, .inl (a1, gW, .inl st)), (hd, .inr (1, [.ref hc, .int d.2.1, .int d.2.2.1, .int d.2.2.2.1, .int d.2.2.2.2])), (hc, .inl (a2, (gI + 4), .inl d.1))] s.heap := hP
  have hD : va_D A [(h0, .inr (0, [.int (nI gW), .int (nI gC), .int (nI gV), .int (nI gB), .ref hs, .int (nI gM), .int (nI gI), .ref hd])), (hs, .inl (a1, gW, .inl st)), (hd, .inr (1, [.ref hc, .int d.2.1, .int d.2.2.1, .int d.2.2.2.1, .int d.2.2.2.2])), (hc, .inl (a2, (gI + 4), .inl d.1))] := hD
  have hl : lv_has ls 3 [(0, .ref h0)] := hl
  obtain ⟨⟨hW1, hW2⟩, ⟨hC1, hC2⟩, ⟨hV1, hV2⟩, ⟨hB1, hB2⟩, eM, eI⟩ := id hg
  obtain ⟨hM2, hq2⟩ := geo_b hg
  refine lv_iconst (v := 0) hx hb dX0_usedSlots_0 (by decide) ?_
  refine lv_istore_n (lv' := [(1, .int 0), (0, .ref h0)]) hx hb dX0_usedSlots_1 rfl hl (by decide) rfl (fun ls hl => ?_)
  refine lv_iconst (v := 0) hx hb dX0_usedSlots_2 (by decide) ?_
  refine lv_istore_n (lv' := [(2, .int 0), (1, .int 0), (0, .ref h0)]) hx hb dX0_usedSlots_3 rfl hl (by decide) rfl (fun ls hl => ?_)
  have hl : lv_has ls 3 [(2, .int (nI 0)), (1, .int (nI (usN d.1 gM (gV * gB) 0))), (0, .ref h0)] := hl
  refine lp_X0_usedSlots_4 h0 hs hd hc a1 a2 gW gC gV gB gM gI hg st d hx hb hml hown hts hK hN hA  (fun  H locs ls  hP hD hS hl => ?_) (gC + 2) 0 _ _ _ (by omega) (by omega) hP hD hS (lv_sub hl [2, 1, 0] rfl)
  · have hP : va_P (dC, dI) vwCl [(h0, .inr (0, [.int (nI gW), .int (nI gC), .int (nI gV), .int (nI gB), .ref hs, .int (nI gM), .int (nI gI), .ref hd])), (hs, .inl (a1, gW, .inl st)), (hd, .inr (1, [.ref hc, .int d.2.1, .int d.2.2.1, .int d.2.2.2.1, .int d.2.2.2.2])), (hc, .inl (a2, (gI + 4), .inl d.1))] H := hP
    have hD : va_D A [(h0, .inr (0, [.int (nI gW), .int (nI gC), .int (nI gV), .int (nI gB), .ref hs, .int (nI gM), .int (nI gI), .ref hd])), (hs, .inl (a1, gW, .inl st)), (hd, .inr (1, [.ref hc, .int d.2.1, .int d.2.2.1, .int d.2.2.2.1, .int d.2.2.2.2])), (hc, .inl (a2, (gI + 4), .inl d.1))] := hD
    refine lv_iload_n hx hb dX0_usedSlots_29 rfl (lv_at hl 1 rfl) ?_
    exact W.iret (v := nI (usN d.1 gM (gV * gB) (gC + 1))) hx hb hr (fun t ht hW => ⟨⟨nI (usN d.1 gM (gV * gB) (gC + 1)), (st, d), rfl, ⟨rfl, rfl⟩, by rw [ht]; exact hP, hD⟩, hS.F ht⟩) hS.2.2 dX0_usedSlots_30
set_option maxHeartbeats 4000000 in
set_option maxRecDepth 100000 in
theorem lp_X0_lowestUnusedSlot_2 {p : Program} {l : Launch} {e : Env} {s : State} {m : MethodId} {args : Array Value} {below : List Frame} {meth : Method} {c : Code} {Q : State → Prop} {A : Nat → Prop} {dC : Nat → ClassId} {dI : Nat → Nat → Nat} (h0 hs hd hc : Nat) (a1 a2 : ClassId) (gW gC gV gB gM gI : Nat) (hg : geo gW gC gV gB gM gI) (st : Nat → Int32) (d : DS) (hx : p.tables.exec = Jvm.exec) (hb : c.code = cX0_lowestUnusedSlot) (hml : c.maxLocals = 2) (hown : s.vm.findClass RX0 = some m.cls) (hts : ∀ w ∈ TBG, w.before args s = true) (hK : va_K (dC, dI) vwCl [(a1, .int), (a2, .int)] s) (hN : nwOk nwL s) (hA : ∀ q : Nat, s.heap.size ≤ q → A q)  (K : ∀ (i : Nat) (H : Heap) (locs : List Loc) (ls : Array Slot), (i ≤ gC) → (∀ j, j < i → ¬ usd d.1 gM (gV * gB) (nI j) = 0) → (i < gC → usd d.1 gM (gV * gB) (nI i) = 0) → va_P (dC, dI) vwCl (xo_w h0 hs hd hc a1 a2 gW gC gV gB gM gI (st, d)) H → va_D A (xo_w h0 hs hd hc a1 a2 gW gC gV gB gM gI (st, d)) → va_S A s.heap H locs → lv_has ls 2 [(0, .ref h0), (1, .int (nI i))] → W p l e ({ frames := 3, cells := 0, slots := 0, locals := 65 } : Room) s m args below meth c H locs 0 0 Q (F0 m 24 ls [])) : ∀ (n : Nat) (i : Nat) (H : Heap) (locs : List Loc) (ls : Array Slot), gC - i < n → (i ≤ gC) → (∀ j, j < i → ¬ usd d.1 gM (gV * gB) (nI j) = 0) → va_P (dC, dI) vwCl (xo_w h0 hs hd hc a1 a2 gW gC gV gB gM gI (st, d)) H → va_D A (xo_w h0 hs hd hc a1 a2 gW gC gV gB gM gI (st, d)) → va_S A s.heap H locs → lv_has ls 2 [(0, .ref h0), (1, .int (nI i))] → W p l e ({ frames := 3, cells := 0, slots := 0, locals := 65 } : Room) s m args below meth c H locs 0 0 Q (F0 m 2 ls []) := by
  obtain ⟨⟨hW1, hW2⟩, ⟨hC1, hC2⟩, ⟨hV1, hV2⟩, ⟨hB1, hB2⟩, eM, eI⟩ := id hg
  obtain ⟨hM2, hq2⟩ := geo_b hg
  intro n
  induction n with
  | zero => intro i H locs ls hfu; exact absurd hfu (by omega)
  | succ n ih =>
    intro i H locs ls hfu hi hj hP hD hS hl
    have hP : va_P (dC, dI) vwCl [(h0, .inr (0, [.int (nI gW), .int (nI gC), .int (nI gV), .int (nI gB), .ref hs, .int (nI gM), .int (nI gI), .ref hd])), (hs, .inl (a1, gW, .inl st)), (hd, .inr (1, [.ref hc, .int d.2.1, .int d.2.2.1, .int d.2.2.2.1, .int d.2.2.2.2])), (hc, .inl (a2, (gI + 4), .inl d.1))] H := hP
    have hD : va_D A [(h0, .inr (0, [.int (nI gW), .int (nI gC), .int (nI gV), .int (nI gB), .ref hs, .int (nI gM), .int (nI gI), .ref hd])), (hs, .inl (a1, gW, .inl st)), (hd, .inr (1, [.ref hc, .int d.2.1, .int d.2.2.1, .int d.2.2.2.1, .int d.2.2.2.2])), (hc, .inl (a2, (gI + 4), .inl d.1))] := hD
    refine lv_iload_n hx hb dX0_lowestUnusedSlot_2 rfl (lv_at hl 1 rfl) ?_
    refine lv_aload_n hx hb dX0_lowestUnusedSlot_3 rfl (lv_at hl 0 rfl) ?_
    refine va_get (D := (dC, dI)) (ci := 0) (v := .int (nI gC)) (C := RX0) (T := TX0) (N := 8) hx hb hts inX0 hown hK hP 0 rfl rfl 1 (by decide) (hts _ tb_47) (fun _ h9 => h9) rfl dX0_lowestUnusedSlot_4 ?_
    refine lv_icmp_ge (tgt := 24) hx hb dX0_lowestUnusedSlot_7 (by decide) (fun c_1 => ?_) (fun c_1 => ?_)
    · have c_1 : gC ≤ i := (nI_leI (a := gC) (b := i) (by omega) (by omega)).mp c_1
      exact K i _ _ _ (by omega) (hj) (fun q => absurd q (by omega)) hP hD hS (lv_sub hl [0, 1] rfl)
    · have c_1 : ¬ (gC ≤ i) := fun q9 => c_1 ((nI_leI (a := gC) (b := i) (by omega) (by omega)).mpr q9)
      refine lv_aload_n hx hb dX0_lowestUnusedSlot_10 rfl (lv_at hl 0 rfl) ?_
      refine lv_iload_n hx hb dX0_lowestUnusedSlot_11 rfl (lv_at hl 1 rfl) ?_
      refine xr_i (D := (dC, dI)) (wf := (xo_w h0 hs hd hc a1 a2 gW gC gV gB gM gI)) (u0 := (st, d)) (wr := []) (va_runV (As := [.int (nI i)]) (rest := []) ⟨hx, hb, hml, hown, hts⟩ (k_X0_isUsed l dC dI h0 hs hd hc a1 a2 gW gC gV gB gM gI hg H.size st d (nI i)) (cwV 1 hts gX0_120 rfl rfl rfl (by decide +kernel) ⟨Nat.le_of_ble_eq_true rfl, Nat.le_of_ble_eq_true rfl⟩) (xp_v nwL_ok hK hN hP hD [0, 1, 2, 3] rfl rfl (va_recv hK hP (ci := 0) (q0 := 0) rfl rfl)) rfl rfl hl.1 rfl (lv_room (Nat.le_of_ble_eq_true rfl)) dX0_lowestUnusedSlot_12 ⟨Nat.zero_le _, Nat.zero_le _⟩) hP hD hS hA [0, 1, 2, 3] [] rfl rfl (by decide) (by decide) (fun r_2 u_3 H locs hw hP hD hS => ?_)
      obtain ⟨er_2, eu_3⟩ := hw
      rw [eu_3] at hP hD
      rw [er_2]
      have hP : va_P (dC, dI) vwCl [(h0, .inr (0, [.int (nI gW), .int (nI gC), .int (nI gV), .int (nI gB), .ref hs, .int (nI gM), .int (nI gI), .ref hd])), (hs, .inl (a1, gW, .inl st)), (hd, .inr (1, [.ref hc, .int d.2.1, .int d.2.2.1, .int d.2.2.2.1, .int d.2.2.2.2])), (hc, .inl (a2, (gI + 4), .inl d.1))] H := hP
      have hD : va_D A [(h0, .inr (0, [.int (nI gW), .int (nI gC), .int (nI gV), .int (nI gB), .ref hs, .int (nI gM), .int (nI gI), .ref hd])), (hs, .inl (a1, gW, .inl st)), (hd, .inr (1, [.ref hc, .int d.2.1, .int d.2.2.1, .int d.2.2.2.1, .int d.2.2.2.2])), (hc, .inl (a2, (gI + 4), .inl d.1))] := hD
      refine lv_if_eq (tgt := 24) hx hb dX0_lowestUnusedSlot_15 (by decide) (fun c_4 => ?_) (fun c_4 => ?_)
      · exact K i _ _ _ (by omega) (hj) (fun _ => c_4) hP hD hS (lv_sub hl [0, 1] rfl)
      · refine lv_iinc (v := nI (i + 1)) (lv' := [(1, .int (nI (i + 1))), (0, .ref h0)]) hx hb dX0_lowestUnusedSlot_18 hl (k := 1) rfl (nI_1 i) (by decide) rfl (fun ls hl => ?_)
        refine lv_goto (tgt := 2) hx hb dX0_lowestUnusedSlot_21 (by decide) ?_
        exact ih (i + 1) _ _ _ (by omega) (by omega) (lt_s hj c_4) hP hD hS (lv_sub hl [1, 0] rfl)
set_option maxHeartbeats 4000000 in
set_option maxRecDepth 100000 in
theorem k_X0_lowestUnusedSlot (l : Launch) (dC : Nat → ClassId) (dI : Nat → Nat → Nat) (h0 hs hd hc : Nat) (a1 a2 : ClassId) (gW gC gV gB gM gI : Nat) (hg : geo gW gC gV gB gM gI) (sz : Nat) (st : Nat → Int32) (d : DS)  : ctI nwL l yX0_lowestUnusedSlot wsX0_lowestUnusedSlot ({ frames := 3, cells := 0, slots := 0, locals := 65 } : Room) (dC, dI) [(a1, .int), (a2, .int)] (xo_w h0 hs hd hc a1 a2 gW gC gV gB gM gI) (st, d) sz [.ref h0] (fun (r : Int32) (u : XS) => (∃ i : Nat, r = nI i ∧ i ≤ gC ∧ (∀ j, j < i → ¬ usd d.1 gM (gV * gB) (nI j) = 0) ∧ (i < gC → usd d.1 gM (gV * gB) (nI i) = 0)) ∧ u = (st, d)) := by
  refine Met.ofW (cc := cX0_lowestUnusedSlot) (maxL := 2) (ret := (some .int)) (by decide) rfl ?_
  intro p e s m args below meth c s₁ B hml hv
  obtain ⟨rfl, hsz, hP, hK, hD0, hN⟩ := hv
  have hx := B.exec
  have hb := B.bytes
  have hr := B.returns
  have hts := fun w h => atoms_spec (ws := wsX0_lowestUnusedSlot) B.pre w (List.mem_cons_of_mem _ h)
  have hown : s.vm.findClass RX0 = some m.cls := findClass_of_methodNamed B.named
  have hlocks := B.notSynchronized
  subst hsz
  have hD := hD0.self (sz := s.heap.size)
  generalize hAe : va_A ((xo_w h0 hs hd hc a1 a2 gW gC gV gB gM gI) (st, d)) s.heap.size = A at hD ⊢
  have hA : ∀ q : Nat, s.heap.size ≤ q → A q := fun q h => by rw [← hAe]; exact Or.inr h
  have hS : va_S A s.heap s.heap [] := va_S.rf
  have hl := lv_entry ([.ref h0]) (n := 2) (Nat.le_of_ble_eq_true rfl)
  rw [lg_entry_eq]
  generalize (lg_sl ([.ref h0]) ++ List.replicate (2 - (lg_sl ([.ref h0])).length) Slot.unset).toArray = ls at hl ⊢
  have hP : va_P (dC, dI) vwCl [(h0, .inr (0, [.int (nI gW), .int (nI gC), .int (nI gV), .int (nI gB), .ref hs, .int (nI gM), .int (nI gI), .ref hd])), (hs, .inl (a1, gW, .inl st)), (hd, .inr (1, [.ref hc, .int d.2.1, .int d.2.2.1, .int d.2.2.2.1, .int d.2.2.2.2])), (hc, .inl (a2, (gI + 4), .inl d.1))] s.heap := hP
  have hD : va_D A [(h0, .inr (0, [.int (nI gW), .int (nI gC), .int (nI gV), .int (nI gB), .ref hs, .int (nI gM), .int (nI gI), .ref hd])), (hs, .inl (a1, gW, .inl st)), (hd, .inr (1, [.ref hc, .int d.2.1, .int d.2.2.1, .int d.2.2.2.1, .int d.2.2.2.2])), (hc, .inl (a2, (gI + 4), .inl d.1))] := hD
  have hl : lv_has ls 2 [(0, .ref h0)] := hl
  obtain ⟨⟨hW1, hW2⟩, ⟨hC1, hC2⟩, ⟨hV1, hV2⟩, ⟨hB1, hB2⟩, eM, eI⟩ := id hg
  obtain ⟨hM2, hq2⟩ := geo_b hg
  refine lv_iconst (v := 0) hx hb dX0_lowestUnusedSlot_0 (by decide) ?_
  refine lv_istore_n (lv' := [(1, .int 0), (0, .ref h0)]) hx hb dX0_lowestUnusedSlot_1 rfl hl (by decide) rfl (fun ls hl => ?_)
  have hl : lv_has ls 2 [(1, .int (nI 0)), (0, .ref h0)] := hl
  refine lp_X0_lowestUnusedSlot_2 h0 hs hd hc a1 a2 gW gC gV gB gM gI hg st d hx hb hml hown hts hK hN hA  (fun i H locs ls hi hj hk hP hD hS hl => ?_) (gC + 1) 0 _ _ _ (by omega) (by omega) (lt_0) hP hD hS (lv_sub hl [1, 0] rfl)
  · have hP : va_P (dC, dI) vwCl [(h0, .inr (0, [.int (nI gW), .int (nI gC), .int (nI gV), .int (nI gB), .ref hs, .int (nI gM), .int (nI gI), .ref hd])), (hs, .inl (a1, gW, .inl st)), (hd, .inr (1, [.ref hc, .int d.2.1, .int d.2.2.1, .int d.2.2.2.1, .int d.2.2.2.2])), (hc, .inl (a2, (gI + 4), .inl d.1))] H := hP
    have hD : va_D A [(h0, .inr (0, [.int (nI gW), .int (nI gC), .int (nI gV), .int (nI gB), .ref hs, .int (nI gM), .int (nI gI), .ref hd])), (hs, .inl (a1, gW, .inl st)), (hd, .inr (1, [.ref hc, .int d.2.1, .int d.2.2.1, .int d.2.2.2.1, .int d.2.2.2.2])), (hc, .inl (a2, (gI + 4), .inl d.1))] := hD
    refine lv_iload_n hx hb dX0_lowestUnusedSlot_24 rfl (lv_at hl 1 rfl) ?_
    exact W.iret (v := nI i) hx hb hr (fun t ht hW => ⟨⟨nI i, (st, d), rfl, ⟨⟨i, rfl, hi, hj, hk⟩, rfl⟩, by rw [ht]; exact hP, hD⟩, hS.F ht⟩) hS.2.2 dX0_lowestUnusedSlot_25
end
section
set_option maxHeartbeats 4000000 in
set_option maxRecDepth 100000 in
theorem lp_X0_hasStagedWords_2 {p : Program} {l : Launch} {e : Env} {s : State} {m : MethodId} {args : Array Value} {below : List Frame} {meth : Method} {c : Code} {Q : State → Prop} {A : Nat → Prop} {dC : Nat → ClassId} {dI : Nat → Nat → Nat} (h0 hs hd hc : Nat) (a1 a2 : ClassId) (gW gC gV gB gM gI : Nat) (hg : geo gW gC gV gB gM gI) (st : Nat → Int32) (d : DS) (k : Nat) (hk : k ≤ gC) (hx : p.tables.exec = Jvm.exec) (hb : c.code = cX0_hasStagedWords) (hml : c.maxLocals = 3) (hown : s.vm.findClass RX0 = some m.cls) (hts : ∀ w ∈ TBG, w.before args s = true) (hK : va_K (dC, dI) vwCl [(a1, .int), (a2, .int)] s) (hN : nwOk nwL s) (hA : ∀ q : Nat, s.heap.size ≤ q → A q)  (K1 : ∀  (H : Heap) (locs : List Loc) (ls : Array Slot), (samN d.1 st (k * gW) gW = 0) → va_P (dC, dI) vwCl (xo_w h0 hs hd hc a1 a2 gW gC gV gB gM gI (st, d)) H → va_D A (xo_w h0 hs hd hc a1 a2 gW gC gV gB gM gI (st, d)) → va_S A s.heap H locs → lv_has ls 3 [(0, .ref h0), (1, .int (nI k))] → W p l e ({ frames := 1, cells := 0, slots := 0, locals := 22 } : Room) s m args below meth c H locs 0 0 Q (F0 m 32 ls [])) (K2 : ∀  (H : Heap) (locs : List Loc) (ls : Array Slot), (samN d.1 st (k * gW) gW = 1) → va_P (dC, dI) vwCl (xo_w h0 hs hd hc a1 a2 gW gC gV gB gM gI (st, d)) H → va_D A (xo_w h0 hs hd hc a1 a2 gW gC gV gB gM gI (st, d)) → va_S A s.heap H locs → lv_has ls 3 [(0, .ref h0), (1, .int (nI k))] → W p l e ({ frames := 1, cells := 0, slots := 0, locals := 22 } : Room) s m args below meth c H locs 0 0 Q (F0 m 40 ls [])) : ∀ (n : Nat) (i : Nat) (H : Heap) (locs : List Loc) (ls : Array Slot), gW - i < n → (i ≤ gW) → (samN d.1 st (k * gW) i = 1) → va_P (dC, dI) vwCl (xo_w h0 hs hd hc a1 a2 gW gC gV gB gM gI (st, d)) H → va_D A (xo_w h0 hs hd hc a1 a2 gW gC gV gB gM gI (st, d)) → va_S A s.heap H locs → lv_has ls 3 [(0, .ref h0), (1, .int (nI k)), (2, .int (nI i))] → W p l e ({ frames := 1, cells := 0, slots := 0, locals := 22 } : Room) s m args below meth c H locs 0 0 Q (F0 m 2 ls []) := by
  obtain ⟨⟨hW1, hW2⟩, ⟨hC1, hC2⟩, ⟨hV1, hV2⟩, ⟨hB1, hB2⟩, eM, eI⟩ := id hg
  obtain ⟨hM2, hq2⟩ := geo_b hg
  intro n
  induction n with
  | zero => intro i H locs ls hfu; exact absurd hfu (by omega)
  | succ n ih =>
    intro i H locs ls hfu hi hj hP hD hS hl
    have hP : va_P (dC, dI) vwCl [(h0, .inr (0, [.int (nI gW), .int (nI gC), .int (nI gV), .int (nI gB), .ref hs, .int (nI gM), .int (nI gI), .ref hd])), (hs, .inl (a1, gW, .inl st)), (hd, .inr (1, [.ref hc, .int d.2.1, .int d.2.2.1, .int d.2.2.2.1, .int d.2.2.2.2])), (hc, .inl (a2, (gI + 4), .inl d.1))] H := hP
    have hD : va_D A [(h0, .inr (0, [.int (nI gW), .int (nI gC), .int (nI gV), .int (nI gB), .ref hs, .int (nI gM), .int (nI gI), .ref hd])), (hs, .inl (a1, gW, .inl st)), (hd, .inr (1, [.ref hc, .int d.2.1, .int d.2.2.1, .int d.2.2.2.1, .int d.2.2.2.2])), (hc, .inl (a2, (gI + 4), .inl d.1))] := hD
    refine lv_iload_n hx hb dX0_hasStagedWords_2 rfl (lv_at hl 2 rfl) ?_
    refine lv_aload_n hx hb dX0_hasStagedWords_3 rfl (lv_at hl 0 rfl) ?_
    refine va_get (D := (dC, dI)) (ci := 0) (v := .int (nI gW)) (C := RX0) (T := TX0) (N := 8) hx hb hts inX0 hown hK hP 0 rfl rfl 0 (by decide) (hts _ tb_46) (fun _ h9 => h9) rfl dX0_hasStagedWords_4 ?_
    refine lv_icmp_ge (tgt := 40) hx hb dX0_hasStagedWords_7 (by decide) (fun c_1 => ?_) (fun c_1 => ?_)
    · have c_1 : gW ≤ i := (nI_leI (a := gW) (b := i) (by omega) (by omega)).mp c_1
      have hie : i = gW := by omega
      rw [hie] at hj
      exact K2  _ _ _ (hj) hP hD hS (lv_sub hl [0, 1] rfl)
    · have c_1 : ¬ (gW ≤ i) := fun q9 => c_1 ((nI_leI (a := gW) (b := i) (by omega) (by omega)).mpr q9)
      refine lv_aload_n hx hb dX0_hasStagedWords_10 rfl (lv_at hl 0 rfl) ?_
      refine va_get (D := (dC, dI)) (ci := 0) (v := .ref hd) (C := RX0) (T := TX0) (N := 8) hx hb hts inX0 hown hK hP 0 rfl rfl 7 (by decide) (hts _ tb_53) (fun _ h9 => h9) rfl dX0_hasStagedWords_11 ?_
      refine lv_aload_n hx hb dX0_hasStagedWords_14 rfl (lv_at hl 0 rfl) ?_
      refine lv_iload_n hx hb dX0_hasStagedWords_15 rfl (lv_at hl 1 rfl) ?_
      refine lv_iload_n hx hb dX0_hasStagedWords_16 rfl (lv_at hl 2 rfl) ?_
      have hki := geo_slot hg hk (show i < gW by omega)
      refine xr_i (D := (dC, dI)) (wf := (xo_w h0 hs hd hc a1 a2 gW gC gV gB gM gI)) (u0 := (st, d)) (wr := []) (va_runV (As := [.int (nI k), .int (nI i)]) (rest := [.ref hd]) ⟨hx, hb, hml, hown, hts⟩ (k_X0_slotCell l dC dI h0 hs hd hc a1 a2 gW gC gV gB gM gI hg H.size st d k i) (cwV 2 hts gX0_77 rfl rfl rfl (by decide +kernel) ⟨Nat.le_of_ble_eq_true rfl, Nat.le_of_ble_eq_true rfl⟩) (xp_v nwL_ok hK hN hP hD [0, 1, 2, 3] rfl rfl (va_recv hK hP (ci := 0) (q0 := 0) rfl rfl)) rfl rfl hl.1 rfl (lv_room (Nat.le_of_ble_eq_true rfl)) dX0_hasStagedWords_17 ⟨Nat.zero_le _, Nat.zero_le _⟩) hP hD hS hA [0, 1, 2, 3] [] rfl rfl (by decide) (by decide) (fun r_2 u_3 H locs hw hP hD hS => ?_)
      obtain ⟨er_2, eu_3⟩ := hw
      rw [eu_3] at hP hD
      rw [er_2]
      have hP : va_P (dC, dI) vwCl [(h0, .inr (0, [.int (nI gW), .int (nI gC), .int (nI gV), .int (nI gB), .ref hs, .int (nI gM), .int (nI gI), .ref hd])), (hs, .inl (a1, gW, .inl st)), (hd, .inr (1, [.ref hc, .int d.2.1, .int d.2.2.1, .int d.2.2.2.1, .int d.2.2.2.2])), (hc, .inl (a2, (gI + 4), .inl d.1))] H := hP
      have hD : va_D A [(h0, .inr (0, [.int (nI gW), .int (nI gC), .int (nI gV), .int (nI gB), .ref hs, .int (nI gM), .int (nI gI), .ref hd])), (hs, .inl (a1, gW, .inl st)), (hd, .inr (1, [.ref hc, .int d.2.1, .int d.2.2.1, .int d.2.2.2.1, .int d.2.2.2.2])), (hc, .inl (a2, (gI + 4), .inl d.1))] := hD
      refine xr_i (D := (dC, dI)) (wf := (dk_w hd hc a2 (gI + 4))) (u0 := d) (wr := [(h0, .inr (0, [.int (nI gW), .int (nI gC), .int (nI gV), .int (nI gB), .ref hs, .int (nI gM), .int (nI gI), .ref hd])), (hs, .inl (a1, gW, .inl st))]) (va_runVN (As := [.int (nI (k * gW + i))]) (rest := []) ⟨hx, hb, hml, hown, hts⟩ (k_X1_read l dC dI hd hc a2 (gI + 4) (by omega) H.size d (k * gW + i) (by omega)) ⟨va_cnB 1 hts gX0_80 rfl rfl rfl (hN _ nn_80) (hts _ tb_3) (by decide +kernel) ⟨Nat.le_of_ble_eq_true rfl, Nat.le_of_ble_eq_true rfl⟩, hts _ tb_125, hts _ ts_9⟩ (xp_v nwL_ok (hK.sub (tys' := [(a2, .int)]) [1] rfl) hN hP hD [2, 3] rfl rfl (va_recv hK hP (ci := 1) (q0 := 2) rfl rfl)) rfl rfl hl.1 rfl (lv_room (Nat.le_of_ble_eq_true rfl)) dX0_hasStagedWords_20 ⟨Nat.zero_le _, Nat.zero_le _⟩) hP hD hS hA [2, 3] [0, 1] rfl rfl (by decide) (by decide) (fun r_4 u_5 H locs hw hP hD hS => ?_)
      obtain ⟨er_4, eu_5⟩ := hw
      rw [eu_5] at hP hD
      rw [er_4]
      have hP : va_P (dC, dI) vwCl [(h0, .inr (0, [.int (nI gW), .int (nI gC), .int (nI gV), .int (nI gB), .ref hs, .int (nI gM), .int (nI gI), .ref hd])), (hs, .inl (a1, gW, .inl st)), (hd, .inr (1, [.ref hc, .int d.2.1, .int d.2.2.1, .int d.2.2.2.1, .int d.2.2.2.2])), (hc, .inl (a2, (gI + 4), .inl d.1))] H := hP
      have hD : va_D A [(h0, .inr (0, [.int (nI gW), .int (nI gC), .int (nI gV), .int (nI gB), .ref hs, .int (nI gM), .int (nI gI), .ref hd])), (hs, .inl (a1, gW, .inl st)), (hd, .inr (1, [.ref hc, .int d.2.1, .int d.2.2.1, .int d.2.2.2.1, .int d.2.2.2.2])), (hc, .inl (a2, (gI + 4), .inl d.1))] := hD
      refine lv_aload_n hx hb dX0_hasStagedWords_23 rfl (lv_at hl 0 rfl) ?_
      refine va_get (D := (dC, dI)) (ci := 0) (v := .ref hs) (C := RX0) (T := TX0) (N := 8) hx hb hts inX0 hown hK hP 0 rfl rfl 4 (by decide) (hts _ tb_50) (fun _ h9 => h9) rfl dX0_hasStagedWords_24 ?_
      refine lv_iload_n hx hb dX0_hasStagedWords_27 rfl (lv_at hl 2 rfl) ?_
      refine va_iald hx hb hK hP 1 0 rfl rfl (vp_in_nI (n := i) (by omega) (by omega)) dX0_hasStagedWords_28 ?_
      refine lv_topi (fun z_6 ez_6 => ?_)
      obtain rfl : z_6 = st i := ez_6.trans (by rw [nI_clamp (n := i) (by omega)])
      refine lv_icmp_eq (tgt := 34) hx hb dX0_hasStagedWords_29 (by decide) (fun c_7 => ?_) (fun c_7 => ?_)
      · refine lv_iinc (v := nI (i + 1)) (lv' := [(2, .int (nI (i + 1))), (0, .ref h0), (1, .int (nI k))]) hx hb dX0_hasStagedWords_34 hl (k := 2) rfl (nI_1 i) (by decide) rfl (fun ls hl => ?_)
        refine lv_goto (tgt := 2) hx hb dX0_hasStagedWords_37 (by decide) ?_
        exact ih (i + 1) _ _ _ (by omega) (by omega) (samN_go hj c_7) hP hD hS (lv_sub hl [1, 2, 0] rfl)
      · exact K1  _ _ _ (samN_no (show i < gW by omega) c_7) hP hD hS (lv_sub hl [0, 1] rfl)
set_option maxHeartbeats 4000000 in
set_option maxRecDepth 100000 in
theorem k_X0_hasStagedWords (l : Launch) (dC : Nat → ClassId) (dI : Nat → Nat → Nat) (h0 hs hd hc : Nat) (a1 a2 : ClassId) (gW gC gV gB gM gI : Nat) (hg : geo gW gC gV gB gM gI) (sz : Nat) (st : Nat → Int32) (d : DS) (k : Nat) (hk : k ≤ gC) : ctI nwL l yX0_hasStagedWords wsX0_hasStagedWords ({ frames := 1, cells := 0, slots := 0, locals := 22 } : Room) (dC, dI) [(a1, .int), (a2, .int)] (xo_w h0 hs hd hc a1 a2 gW gC gV gB gM gI) (st, d) sz [.ref h0, .int (nI k)] (fun (r : Int32) (u : XS) => r = samN d.1 st (k * gW) gW ∧ u = (st, d)) := by
  refine Met.ofW (cc := cX0_hasStagedWords) (maxL := 3) (ret := (some .boolean)) (by decide) rfl ?_
  intro p e s m args below meth c s₁ B hml hv
  obtain ⟨rfl, hsz, hP, hK, hD0, hN⟩ := hv
  have hx := B.exec
  have hb := B.bytes
  have hr := B.returns
  have hts := fun w h => atoms_spec (ws := wsX0_hasStagedWords) B.pre w (List.mem_cons_of_mem _ h)
  have hown : s.vm.findClass RX0 = some m.cls := findClass_of_methodNamed B.named
  have hlocks := B.notSynchronized
  subst hsz
  have hD := hD0.self (sz := s.heap.size)
  generalize hAe : va_A ((xo_w h0 hs hd hc a1 a2 gW gC gV gB gM gI) (st, d)) s.heap.size = A at hD ⊢
  have hA : ∀ q : Nat, s.heap.size ≤ q → A q := fun q h => by rw [← hAe]; exact Or.inr h
  have hS : va_S A s.heap s.heap [] := va_S.rf
  have hl := lv_entry ([.ref h0, .int (nI k)]) (n := 3) (Nat.le_of_ble_eq_true rfl)
  rw [lg_entry_eq]
  generalize (lg_sl ([.ref h0, .int (nI k)]) ++ List.replicate (3 - (lg_sl ([.ref h0, .int (nI k)])).length) Slot.unset).toArray = ls at hl ⊢
  have hP : va_P (dC, dI) vwCl [(h0, .inr (0, [.int (nI gW), .int (nI gC), .int (nI gV), .int (nI gB), .ref hs, .int (nI gM), .int (nI gI), .ref hd])), (hs, .inl (a1, gW, .inl st)), (hd, .inr (1, [.ref hc, .int d.2.1, .int d.2.2.1, .int d.2.2.2.1, .int d.2.2.2.2])), (hc, .inl (a2, (gI + 4), .inl d.1))] s.heap := hP
  have hD : va_D A [(h0, .inr (0, [.int (nI gW), .int (nI gC), .int (nI gV), .int (nI gB), .ref hs, .int (nI gM), .int (nI gI), .ref hd])), (hs, .inl (a1, gW, .inl st)), (hd, .inr (1, [.ref hc, .int d.2.1, .int d.2.2.1, .int d.2.2.2.1, .int d.2.2.2.2])), (hc, .inl (a2, (gI + 4), .inl d.1))] := hD
  have hl : lv_has ls 3 [(0, .ref h0), (1, .int (nI k))] := hl
  obtain ⟨⟨hW1, hW2⟩, ⟨hC1, hC2⟩, ⟨hV1, hV2⟩, ⟨hB1, hB2⟩, eM, eI⟩ := id hg
  obtain ⟨hM2, hq2⟩ := geo_b hg
  refine lv_iconst (v := 0) hx hb dX0_hasStagedWords_0 (by decide) ?_
  refine lv_istore_n (lv' := [(2, .int 0), (0, .ref h0), (1, .int (nI k))]) hx hb dX0_hasStagedWords_1 rfl hl (by decide) rfl (fun ls hl => ?_)
  have hl : lv_has ls 3 [(2, .int (nI 0)), (0, .ref h0), (1, .int (nI k))] := hl
  refine lp_X0_hasStagedWords_2 h0 hs hd hc a1 a2 gW gC gV gB gM gI hg st d k hk hx hb hml hown hts hK hN hA  (fun  H locs ls h9 hP hD hS hl => ?_) (fun  H locs ls h9 hP hD hS hl => ?_) (gW + 1) 0 _ _ _ (by omega) (by omega) (rfl) hP hD hS (lv_sub hl [1, 2, 0] rfl)
  · have hP : va_P (dC, dI) vwCl [(h0, .inr (0, [.int (nI gW), .int (nI gC), .int (nI gV), .int (nI gB), .ref hs, .int (nI gM), .int (nI gI), .ref hd])), (hs, .inl (a1, gW, .inl st)), (hd, .inr (1, [.ref hc, .int d.2.1, .int d.2.2.1, .int d.2.2.2.1, .int d.2.2.2.2])), (hc, .inl (a2, (gI + 4), .inl d.1))] H := hP
    have hD : va_D A [(h0, .inr (0, [.int (nI gW), .int (nI gC), .int (nI gV), .int (nI gB), .ref hs, .int (nI gM), .int (nI gI), .ref hd])), (hs, .inl (a1, gW, .inl st)), (hd, .inr (1, [.ref hc, .int d.2.1, .int d.2.2.1, .int d.2.2.2.1, .int d.2.2.2.2])), (hc, .inl (a2, (gI + 4), .inl d.1))] := hD
    refine lv_iconst (v := 0) hx hb dX0_hasStagedWords_32 (by decide) ?_
    exact W.zret (v := 0) hx hb hr rfl (fun t ht hW => ⟨⟨0, (st, d), rfl, ⟨h9.symm, rfl⟩, by rw [ht]; exact hP, hD⟩, hS.F ht⟩) hS.2.2 dX0_hasStagedWords_33
  · have hP : va_P (dC, dI) vwCl [(h0, .inr (0, [.int (nI gW), .int (nI gC), .int (nI gV), .int (nI gB), .ref hs, .int (nI gM), .int (nI gI), .ref hd])), (hs, .inl (a1, gW, .inl st)), (hd, .inr (1, [.ref hc, .int d.2.1, .int d.2.2.1, .int d.2.2.2.1, .int d.2.2.2.2])), (hc, .inl (a2, (gI + 4), .inl d.1))] H := hP
    have hD : va_D A [(h0, .inr (0, [.int (nI gW), .int (nI gC), .int (nI gV), .int (nI gB), .ref hs, .int (nI gM), .int (nI gI), .ref hd])), (hs, .inl (a1, gW, .inl st)), (hd, .inr (1, [.ref hc, .int d.2.1, .int d.2.2.1, .int d.2.2.2.1, .int d.2.2.2.2])), (hc, .inl (a2, (gI + 4), .inl d.1))] := hD
    refine lv_iconst (v := 1) hx hb dX0_hasStagedWords_40 (by decide) ?_
    exact W.zret (v := 1) hx hb hr rfl (fun t ht hW => ⟨⟨1, (st, d), rfl, ⟨h9.symm, rfl⟩, by rw [ht]; exact hP, hD⟩, hS.F ht⟩) hS.2.2 dX0_hasStagedWords_41
set_option maxHeartbeats 4000000 in
set_option maxRecDepth 100000 in
theorem lp_X0_usedSlotWithStaged_2 {p : Program} {l : Launch} {e : Env} {s : State} {m : MethodId} {args : Array Value} {below : List Frame} {meth : Method} {c : Code} {Q : State → Prop} {A : Nat → Prop} {dC : Nat → ClassId} {dI : Nat → Nat → Nat} (h0 hs hd hc : Nat) (a1 a2 : ClassId) (gW gC gV gB gM gI : Nat) (hg : geo gW gC gV gB gM gI) (st : Nat → Int32) (d : DS) (hx : p.tables.exec = Jvm.exec) (hb : c.code = cX0_usedSlotWithStaged) (hml : c.maxLocals = 2) (hown : s.vm.findClass RX0 = some m.cls) (hts : ∀ w ∈ TBG, w.before args s = true) (hK : va_K (dC, dI) vwCl [(a1, .int), (a2, .int)] s) (hN : nwOk nwL s) (hA : ∀ q : Nat, s.heap.size ≤ q → A q)  (K1 : ∀ (i : Nat) (H : Heap) (locs : List Loc) (ls : Array Slot), (i ≤ gC) → (¬ samN d.1 st (i * gW) gW = 0) → (¬ usd d.1 gM (gV * gB) (nI i) = 0) → va_P (dC, dI) vwCl (xo_w h0 hs hd hc a1 a2 gW gC gV gB gM gI (st, d)) H → va_D A (xo_w h0 hs hd hc a1 a2 gW gC gV gB gM gI (st, d)) → va_S A s.heap H locs → lv_has ls 2 [(0, .ref h0), (1, .int (nI i))] → W p l e ({ frames := 3, cells := 0, slots := 0, locals := 65 } : Room) s m args below meth c H locs 0 0 Q (F0 m 26 ls [])) (K2 : ∀  (H : Heap) (locs : List Loc) (ls : Array Slot), (∀ j, j < gC + 1 → ¬ (¬ samN d.1 st (j * gW) gW = 0 ∧ ¬ usd d.1 gM (gV * gB) (nI j) = 0)) → va_P (dC, dI) vwCl (xo_w h0 hs hd hc a1 a2 gW gC gV gB gM gI (st, d)) H → va_D A (xo_w h0 hs hd hc a1 a2 gW gC gV gB gM gI (st, d)) → va_S A s.heap H locs → lv_has ls 2 [(0, .ref h0)] → W p l e ({ frames := 3, cells := 0, slots := 0, locals := 65 } : Room) s m args below meth c H locs 0 0 Q (F0 m 34 ls [])) : ∀ (n : Nat) (i : Nat) (H : Heap) (locs : List Loc) (ls : Array Slot), gC + 1 - i < n → (i ≤ gC + 1) → (∀ j, j < i → ¬ (¬ samN d.1 st (j * gW) gW = 0 ∧ ¬ usd d.1 gM (gV * gB) (nI j) = 0)) → va_P (dC, dI) vwCl (xo_w h0 hs hd hc a1 a2 gW gC gV gB gM gI (st, d)) H → va_D A (xo_w h0 hs hd hc a1 a2 gW gC gV gB gM gI (st, d)) → va_S A s.heap H locs → lv_has ls 2 [(0, .ref h0), (1, .int (nI i))] → W p l e ({ frames := 3, cells := 0, slots := 0, locals := 65 } : Room) s m args below meth c H locs 0 0 Q (F0 m 2 ls []) := by
  obtain ⟨⟨hW1, hW2⟩, ⟨hC1, hC2⟩, ⟨hV1, hV2⟩, ⟨hB1, hB2⟩, eM, eI⟩ := id hg
  obtain ⟨hM2, hq2⟩ := geo_b hg
  intro n
  induction n with
  | zero => intro i H locs ls hfu; exact absurd hfu (by omega)
  | succ n ih =>
    intro i H locs ls hfu hi hj hP hD hS hl
    have hP : va_P (dC, dI) vwCl [(h0, .inr (0, [.int (nI gW), .int (nI gC), .int (nI gV), .int (nI gB), .ref hs, .int (nI gM), .int (nI gI), .ref hd])), (hs, .inl (a1, gW, .inl st)), (hd, .inr (1, [.ref hc, .int d.2.1, .int d.2.2.1, .int d.2.2.2.1, .int d.2.2.2.2])), (hc, .inl (a2, (gI + 4), .inl d.1))] H := hP
    have hD : va_D A [(h0, .inr (0, [.int (nI gW), .int (nI gC), .int (nI gV), .int (nI gB), .ref hs, .int (nI gM), .int (nI gI), .ref hd])), (hs, .inl (a1, gW, .inl st)), (hd, .inr (1, [.ref hc, .int d.2.1, .int d.2.2.1, .int d.2.2.2.1, .int d.2.2.2.2])), (hc, .inl (a2, (gI + 4), .inl d.1))] := hD
    refine lv_iload_n hx hb dX0_usedSlotWithStaged_2 rfl (lv_at hl 1 rfl) ?_
    refine lv_aload_n hx hb dX0_usedSlotWithStaged_3 rfl (lv_at hl 0 rfl) ?_
    refine va_get (D := (dC, dI)) (ci := 0) (v := .int (nI gC)) (C := RX0) (T := TX0) (N := 8) hx hb hts inX0 hown hK hP 0 rfl rfl 1 (by decide) (hts _ tb_47) (fun _ h9 => h9) rfl dX0_usedSlotWithStaged_4 ?_
    refine lv_icmp_gt (tgt := 34) hx hb dX0_usedSlotWithStaged_7 (by decide) (fun c_1 => ?_) (fun c_1 => ?_)
    · have c_1 : gC < i := (nI_ltI (a := gC) (b := i) (by omega) (by omega)).mp c_1
      have hie : i = gC + 1 := by omega
      rw [hie] at hj
      exact K2  _ _ _ (hj) hP hD hS (lv_sub hl [0] rfl)
    · have c_1 : ¬ (gC < i) := fun q9 => c_1 ((nI_ltI (a := gC) (b := i) (by omega) (by omega)).mpr q9)
      refine lv_aload_n hx hb dX0_usedSlotWithStaged_10 rfl (lv_at hl 0 rfl) ?_
      refine lv_iload_n hx hb dX0_usedSlotWithStaged_11 rfl (lv_at hl 1 rfl) ?_
      refine xr_i (D := (dC, dI)) (wf := (xo_w h0 hs hd hc a1 a2 gW gC gV gB gM gI)) (u0 := (st, d)) (wr := []) (va_runV (As := [.int (nI i)]) (rest := []) ⟨hx, hb, hml, hown, hts⟩ (k_X0_hasStagedWords l dC dI h0 hs hd hc a1 a2 gW gC gV gB gM gI hg H.size st d i (by omega)) (cwV 1 hts gX0_123 rfl rfl rfl (by decide +kernel) ⟨Nat.le_of_ble_eq_true rfl, Nat.le_of_ble_eq_true rfl⟩) (xp_v nwL_ok hK hN hP hD [0, 1, 2, 3] rfl rfl (va_recv hK hP (ci := 0) (q0 := 0) rfl rfl)) rfl rfl hl.1 rfl (lv_room (Nat.le_of_ble_eq_true rfl)) dX0_usedSlotWithStaged_12 ⟨Nat.zero_le _, Nat.zero_le _⟩) hP hD hS hA [0, 1, 2, 3] [] rfl rfl (by decide) (by decide) (fun r_2 u_3 H locs hw hP hD hS => ?_)
      obtain ⟨er_2, eu_3⟩ := hw
      rw [eu_3] at hP hD
      rw [er_2]
      have hP : va_P (dC, dI) vwCl [(h0, .inr (0, [.int (nI gW), .int (nI gC), .int (nI gV), .int (nI gB), .ref hs, .int (nI gM), .int (nI gI), .ref hd])), (hs, .inl (a1, gW, .inl st)), (hd, .inr (1, [.ref hc, .int d.2.1, .int d.2.2.1, .int d.2.2.2.1, .int d.2.2.2.2])), (hc, .inl (a2, (gI + 4), .inl d.1))] H := hP
      have hD : va_D A [(h0, .inr (0, [.int (nI gW), .int (nI gC), .int (nI gV), .int (nI gB), .ref hs, .int (nI gM), .int (nI gI), .ref hd])), (hs, .inl (a1, gW, .inl st)), (hd, .inr (1, [.ref hc, .int d.2.1, .int d.2.2.1, .int d.2.2.2.1, .int d.2.2.2.2])), (hc, .inl (a2, (gI + 4), .inl d.1))] := hD
      refine lv_if_eq (tgt := 28) hx hb dX0_usedSlotWithStaged_15 (by decide) (fun c_4 => ?_) (fun c_4 => ?_)
      · refine lv_iinc (v := nI (i + 1)) (lv' := [(1, .int (nI (i + 1))), (0, .ref h0)]) hx hb dX0_usedSlotWithStaged_28 hl (k := 1) rfl (nI_1 i) (by decide) rfl (fun ls hl => ?_)
        refine lv_goto (tgt := 2) hx hb dX0_usedSlotWithStaged_31 (by decide) ?_
        exact ih (i + 1) _ _ _ (by omega) (by omega) (lt_s hj (fun q => q.1 c_4)) hP hD hS (lv_sub hl [1, 0] rfl)
      · refine lv_aload_n hx hb dX0_usedSlotWithStaged_18 rfl (lv_at hl 0 rfl) ?_
        refine lv_iload_n hx hb dX0_usedSlotWithStaged_19 rfl (lv_at hl 1 rfl) ?_
        refine xr_i (D := (dC, dI)) (wf := (xo_w h0 hs hd hc a1 a2 gW gC gV gB gM gI)) (u0 := (st, d)) (wr := []) (va_runV (As := [.int (nI i)]) (rest := []) ⟨hx, hb, hml, hown, hts⟩ (k_X0_isUsed l dC dI h0 hs hd hc a1 a2 gW gC gV gB gM gI hg H.size st d (nI i)) (cwV 1 hts gX0_120 rfl rfl rfl (by decide +kernel) ⟨Nat.le_of_ble_eq_true rfl, Nat.le_of_ble_eq_true rfl⟩) (xp_v nwL_ok hK hN hP hD [0, 1, 2, 3] rfl rfl (va_recv hK hP (ci := 0) (q0 := 0) rfl rfl)) rfl rfl hl.1 rfl (lv_room (Nat.le_of_ble_eq_true rfl)) dX0_usedSlotWithStaged_20 ⟨Nat.zero_le _, Nat.zero_le _⟩) hP hD hS hA [0, 1, 2, 3] [] rfl rfl (by decide) (by decide) (fun r_5 u_6 H locs hw hP hD hS => ?_)
        obtain ⟨er_5, eu_6⟩ := hw
        rw [eu_6] at hP hD
        rw [er_5]
        have hP : va_P (dC, dI) vwCl [(h0, .inr (0, [.int (nI gW), .int (nI gC), .int (nI gV), .int (nI gB), .ref hs, .int (nI gM), .int (nI gI), .ref hd])), (hs, .inl (a1, gW, .inl st)), (hd, .inr (1, [.ref hc, .int d.2.1, .int d.2.2.1, .int d.2.2.2.1, .int d.2.2.2.2])), (hc, .inl (a2, (gI + 4), .inl d.1))] H := hP
        have hD : va_D A [(h0, .inr (0, [.int (nI gW), .int (nI gC), .int (nI gV), .int (nI gB), .ref hs, .int (nI gM), .int (nI gI), .ref hd])), (hs, .inl (a1, gW, .inl st)), (hd, .inr (1, [.ref hc, .int d.2.1, .int d.2.2.1, .int d.2.2.2.1, .int d.2.2.2.2])), (hc, .inl (a2, (gI + 4), .inl d.1))] := hD
        refine lv_if_eq (tgt := 28) hx hb dX0_usedSlotWithStaged_23 (by decide) (fun c_7 => ?_) (fun c_7 => ?_)
        · refine lv_iinc (v := nI (i + 1)) (lv' := [(1, .int (nI (i + 1))), (0, .ref h0)]) hx hb dX0_usedSlotWithStaged_28 hl (k := 1) rfl (nI_1 i) (by decide) rfl (fun ls hl => ?_)
          refine lv_goto (tgt := 2) hx hb dX0_usedSlotWithStaged_31 (by decide) ?_
          exact ih (i + 1) _ _ _ (by omega) (by omega) (lt_s hj (fun q => q.2 c_7)) hP hD hS (lv_sub hl [1, 0] rfl)
        · exact K1 i _ _ _ (by omega) (c_4) (c_7) hP hD hS (lv_sub hl [0, 1] rfl)
set_option maxHeartbeats 4000000 in
set_option maxRecDepth 100000 in
theorem k_X0_usedSlotWithStaged (l : Launch) (dC : Nat → ClassId) (dI : Nat → Nat → Nat) (h0 hs hd hc : Nat) (a1 a2 : ClassId) (gW gC gV gB gM gI : Nat) (hg : geo gW gC gV gB gM gI) (sz : Nat) (st : Nat → Int32) (d : DS)  : ctI nwL l yX0_usedSlotWithStaged wsX0_usedSlotWithStaged ({ frames := 3, cells := 0, slots := 0, locals := 65 } : Room) (dC, dI) [(a1, .int), (a2, .int)] (xo_w h0 hs hd hc a1 a2 gW gC gV gB gM gI) (st, d) sz [.ref h0] (fun (r : Int32) (u : XS) => ((r = -1 ∧ ∀ j, j < gC + 1 → ¬ (¬ samN d.1 st (j * gW) gW = 0 ∧ ¬ usd d.1 gM (gV * gB) (nI j) = 0)) ∨ (∃ i : Nat, r = nI i ∧ i ≤ gC ∧ ¬ samN d.1 st (i * gW) gW = 0 ∧ ¬ usd d.1 gM (gV * gB) (nI i) = 0)) ∧ u = (st, d)) := by
  refine Met.ofW (cc := cX0_usedSlotWithStaged) (maxL := 2) (ret := (some .int)) (by decide) rfl ?_
  intro p e s m args below meth c s₁ B hml hv
  obtain ⟨rfl, hsz, hP, hK, hD0, hN⟩ := hv
  have hx := B.exec
  have hb := B.bytes
  have hr := B.returns
  have hts := fun w h => atoms_spec (ws := wsX0_usedSlotWithStaged) B.pre w (List.mem_cons_of_mem _ h)
  have hown : s.vm.findClass RX0 = some m.cls := findClass_of_methodNamed B.named
  have hlocks := B.notSynchronized
  subst hsz
  have hD := hD0.self (sz := s.heap.size)
  generalize hAe : va_A ((xo_w h0 hs hd hc a1 a2 gW gC gV gB gM gI) (st, d)) s.heap.size = A at hD ⊢
  have hA : ∀ q : Nat, s.heap.size ≤ q → A q := fun q h => by rw [← hAe]; exact Or.inr h
  have hS : va_S A s.heap s.heap [] := va_S.rf
  have hl := lv_entry ([.ref h0]) (n := 2) (Nat.le_of_ble_eq_true rfl)
  rw [lg_entry_eq]
  generalize (lg_sl ([.ref h0]) ++ List.replicate (2 - (lg_sl ([.ref h0])).length) Slot.unset).toArray = ls at hl ⊢
  have hP : va_P (dC, dI) vwCl [(h0, .inr (0, [.int (nI gW), .int (nI gC), .int (nI gV), .int (nI gB), .ref hs, .int (nI gM), .int (nI gI), .ref hd])), (hs, .inl (a1, gW, .inl st)), (hd, .inr (1, [.ref hc, .int d.2.1, .int d.2.2.1, .int d.2.2.2.1, .int d.2.2.2.2])), (hc, .inl (a2, (gI + 4), .inl d.1))] s.heap := hP
  have hD : va_D A [(h0, .inr (0, [.int (nI gW), .int (nI gC), .int (nI gV), .int (nI gB), .ref hs, .int (nI gM), .int (nI gI), .ref hd])), (hs, .inl (a1, gW, .inl st)), (hd, .inr (1, [.ref hc, .int d.2.1, .int d.2.2.1, .int d.2.2.2.1, .int d.2.2.2.2])), (hc, .inl (a2, (gI + 4), .inl d.1))] := hD
  have hl : lv_has ls 2 [(0, .ref h0)] := hl
  obtain ⟨⟨hW1, hW2⟩, ⟨hC1, hC2⟩, ⟨hV1, hV2⟩, ⟨hB1, hB2⟩, eM, eI⟩ := id hg
  obtain ⟨hM2, hq2⟩ := geo_b hg
  refine lv_iconst (v := 0) hx hb dX0_usedSlotWithStaged_0 (by decide) ?_
  refine lv_istore_n (lv' := [(1, .int 0), (0, .ref h0)]) hx hb dX0_usedSlotWithStaged_1 rfl hl (by decide) rfl (fun ls hl => ?_)
  have hl : lv_has ls 2 [(1, .int (nI 0)), (0, .ref h0)] := hl
  refine lp_X0_usedSlotWithStaged_2 h0 hs hd hc a1 a2 gW gC gV gB gM gI hg st d hx hb hml hown hts hK hN hA  (fun i H locs ls q1 q2 q3 hP hD hS hl => ?_) (fun  H locs ls q4 hP hD hS hl => ?_) (gC + 2) 0 _ _ _ (by omega) (by omega) (lt_0) hP hD hS (lv_sub hl [1, 0] rfl)
  · have hP : va_P (dC, dI) vwCl [(h0, .inr (0, [.int (nI gW), .int (nI gC), .int (nI gV), .int (nI gB), .ref hs, .int (nI gM), .int (nI gI), .ref hd])), (hs, .inl (a1, gW, .inl st)), (hd, .inr (1, [.ref hc, .int d.2.1, .int d.2.2.1, .int d.2.2.2.1, .int d.2.2.2.2])), (hc, .inl (a2, (gI + 4), .inl d.1))] H := hP
    have hD : va_D A [(h0, .inr (0, [.int (nI gW), .int (nI gC), .int (nI gV), .int (nI gB), .ref hs, .int (nI gM), .int (nI gI), .ref hd])), (hs, .inl (a1, gW, .inl st)), (hd, .inr (1, [.ref hc, .int d.2.1, .int d.2.2.1, .int d.2.2.2.1, .int d.2.2.2.2])), (hc, .inl (a2, (gI + 4), .inl d.1))] := hD
    refine lv_iload_n hx hb dX0_usedSlotWithStaged_26 rfl (lv_at hl 1 rfl) ?_
    exact W.iret (v := nI i) hx hb hr (fun t ht hW => ⟨⟨nI i, (st, d), rfl, ⟨Or.inr ⟨i, rfl, q1, q2, q3⟩, rfl⟩, by rw [ht]; exact hP, hD⟩, hS.F ht⟩) hS.2.2 dX0_usedSlotWithStaged_27
  · have hP : va_P (dC, dI) vwCl [(h0, .inr (0, [.int (nI gW), .int (nI gC), .int (nI gV), .int (nI gB), .ref hs, .int (nI gM), .int (nI gI), .ref hd])), (hs, .inl (a1, gW, .inl st)), (hd, .inr (1, [.ref hc, .int d.2.1, .int d.2.2.1, .int d.2.2.2.1, .int d.2.2.2.2])), (hc, .inl (a2, (gI + 4), .inl d.1))] H := hP
    have hD : va_D A [(h0, .inr (0, [.int (nI gW), .int (nI gC), .int (nI gV), .int (nI gB), .ref hs, .int (nI gM), .int (nI gI), .ref hd])), (hs, .inl (a1, gW, .inl st)), (hd, .inr (1, [.ref hc, .int d.2.1, .int d.2.2.1, .int d.2.2.2.1, .int d.2.2.2.2])), (hc, .inl (a2, (gI + 4), .inl d.1))] := hD
    refine lv_iconst (v := (-1)) hx hb dX0_usedSlotWithStaged_34 (by decide) ?_
    exact W.iret (v := (-1)) hx hb hr (fun t ht hW => ⟨⟨(-1), (st, d), rfl, ⟨Or.inl ⟨rfl, q4⟩, rfl⟩, by rw [ht]; exact hP, hD⟩, hS.F ht⟩) hS.2.2 dX0_usedSlotWithStaged_35
end
section
set_option maxHeartbeats 4000000 in
set_option maxRecDepth 100000 in
theorem lp_X0_mapVolumeAs_2 {p : Program} {l : Launch} {e : Env} {s : State} {m : MethodId} {args : Array Value} {below : List Frame} {meth : Method} {c : Code} {Q : State → Prop} {A : Nat → Prop} {dC : Nat → ClassId} {dI : Nat → Nat → Nat} (h0 hs hd hc : Nat) (a1 a2 : ClassId) (gW gC gV gB gM gI : Nat) (hg : geo gW gC gV gB gM gI) (st : Nat → Int32) (d : DS) (v q : Nat) (hv : v < gV) (hq : q < gV) (hx : p.tables.exec = Jvm.exec) (hb : c.code = cX0_mapVolumeAs) (hml : c.maxLocals = 4) (hown : s.vm.findClass RX0 = some m.cls) (hts : ∀ w ∈ TBG, w.before args s = true) (hK : va_K (dC, dI) vwCl [(a1, .int), (a2, .int)] s) (hN : nwOk nwL s) (hA : ∀ q : Nat, s.heap.size ≤ q → A q)  (K : ∀  (H : Heap) (locs : List Loc) (ls : Array Slot), va_P (dC, dI) vwCl (xo_w h0 hs hd hc a1 a2 gW gC gV gB gM gI (st, (dk_as gM gB v q d gB))) H → va_D A (xo_w h0 hs hd hc a1 a2 gW gC gV gB gM gI (st, (dk_as gM gB v q d gB))) → va_S A s.heap H locs → lv_has ls 4 [(0, .ref h0)] → W p l e ({ frames := 2, cells := 0, slots := 0, locals := 45 } : Room) s m args below meth c H locs 0 0 Q (F0 m 28 ls [])) : ∀ (n : Nat) (i : Nat) (H : Heap) (locs : List Loc) (ls : Array Slot), gB - i < n → (i ≤ gB) → va_P (dC, dI) vwCl (xo_w h0 hs hd hc a1 a2 gW gC gV gB gM gI (st, (dk_as gM gB v q d i))) H → va_D A (xo_w h0 hs hd hc a1 a2 gW gC gV gB gM gI (st, (dk_as gM gB v q d i))) → va_S A s.heap H locs → lv_has ls 4 [(0, .ref h0), (1, .int (nI v)), (2, .int (nI q)), (3, .int (nI i))] → W p l e ({ frames := 2, cells := 0, slots := 0, locals := 45 } : Room) s m args below meth c H locs 0 0 Q (F0 m 2 ls []) := by
  obtain ⟨⟨hW1, hW2⟩, ⟨hC1, hC2⟩, ⟨hV1, hV2⟩, ⟨hB1, hB2⟩, eM, eI⟩ := id hg
  obtain ⟨hM2, hq2⟩ := geo_b hg
  intro n
  induction n with
  | zero => intro i H locs ls hfu; exact absurd hfu (by omega)
  | succ n ih =>
    intro i H locs ls hfu hi hP hD hS hl
    have hP : va_P (dC, dI) vwCl [(h0, .inr (0, [.int (nI gW), .int (nI gC), .int (nI gV), .int (nI gB), .ref hs, .int (nI gM), .int (nI gI), .ref hd])), (hs, .inl (a1, gW, .inl st)), (hd, .inr (1, [.ref hc, .int ((dk_as gM gB v q d i).2.1), .int ((dk_as gM gB v q d i).2.2.1), .int ((dk_as gM gB v q d i).2.2.2.1), .int ((dk_as gM gB v q d i).2.2.2.2)])), (hc, .inl (a2, (gI + 4), .inl ((dk_as gM gB v q d i).1)))] H := hP
    have hD : va_D A [(h0, .inr (0, [.int (nI gW), .int (nI gC), .int (nI gV), .int (nI gB), .ref hs, .int (nI gM), .int (nI gI), .ref hd])), (hs, .inl (a1, gW, .inl st)), (hd, .inr (1, [.ref hc, .int ((dk_as gM gB v q d i).2.1), .int ((dk_as gM gB v q d i).2.2.1), .int ((dk_as gM gB v q d i).2.2.2.1), .int ((dk_as gM gB v q d i).2.2.2.2)])), (hc, .inl (a2, (gI + 4), .inl ((dk_as gM gB v q d i).1)))] := hD
    refine lv_iload_n hx hb dX0_mapVolumeAs_2 rfl (lv_at hl 3 rfl) ?_
    refine lv_aload_n hx hb dX0_mapVolumeAs_3 rfl (lv_at hl 0 rfl) ?_
    refine va_get (D := (dC, dI)) (ci := 0) (v := .int (nI gB)) (C := RX0) (T := TX0) (N := 8) hx hb hts inX0 hown hK hP 0 rfl rfl 3 (by decide) (hts _ tb_49) (fun _ h9 => h9) rfl dX0_mapVolumeAs_4 ?_
    refine lv_icmp_ge (tgt := 28) hx hb dX0_mapVolumeAs_7 (by decide) (fun c_1 => ?_) (fun c_1 => ?_)
    · have c_1 : gB ≤ i := (nI_leI (a := gB) (b := i) (by omega) (by omega)).mp c_1
      have hie : i = gB := by omega
      rw [hie] at hP hD
      exact K  _ _ _  hP hD hS (lv_sub hl [0] rfl)
    · have c_1 : ¬ (gB ≤ i) := fun q9 => c_1 ((nI_leI (a := gB) (b := i) (by omega) (by omega)).mpr q9)
      refine lv_aload_n hx hb dX0_mapVolumeAs_10 rfl (lv_at hl 0 rfl) ?_
      refine lv_iload_n hx hb dX0_mapVolumeAs_11 rfl (lv_at hl 1 rfl) ?_
      refine lv_iload_n hx hb dX0_mapVolumeAs_12 rfl (lv_at hl 3 rfl) ?_
      refine lv_aload_n hx hb dX0_mapVolumeAs_13 rfl (lv_at hl 0 rfl) ?_
      refine lv_iload_n hx hb dX0_mapVolumeAs_14 rfl (lv_at hl 2 rfl) ?_
      refine lv_iload_n hx hb dX0_mapVolumeAs_15 rfl (lv_at hl 3 rfl) ?_
      refine xr_i (D := (dC, dI)) (wf := (xo_w h0 hs hd hc a1 a2 gW gC gV gB gM gI)) (u0 := (st, (dk_as gM gB v q d i))) (wr := []) (va_runV (As := [.int (nI q), .int (nI i)]) (rest := [.int (nI i), .int (nI v), .ref h0]) ⟨hx, hb, hml, hown, hts⟩ (k_X0_mappedSlot l dC dI h0 hs hd hc a1 a2 gW gC gV gB gM gI hg H.size st (dk_as gM gB v q d i) q i (by omega) (by omega)) (cwV 2 hts gX0_70 rfl rfl rfl (by decide +kernel) ⟨Nat.le_of_ble_eq_true rfl, Nat.le_of_ble_eq_true rfl⟩) (xp_v nwL_ok hK hN hP hD [0, 1, 2, 3] rfl rfl (va_recv hK hP (ci := 0) (q0 := 0) rfl rfl)) rfl rfl hl.1 rfl (lv_room (Nat.le_of_ble_eq_true rfl)) dX0_mapVolumeAs_16 ⟨Nat.zero_le _, Nat.zero_le _⟩) hP hD hS hA [0, 1, 2, 3] [] rfl rfl (by decide) (by decide) (fun r_2 u_3 H locs hw hP hD hS => ?_)
      obtain ⟨er_2, eu_3⟩ := hw
      rw [eu_3] at hP hD
      rw [er_2]
      have hP : va_P (dC, dI) vwCl [(h0, .inr (0, [.int (nI gW), .int (nI gC), .int (nI gV), .int (nI gB), .ref hs, .int (nI gM), .int (nI gI), .ref hd])), (hs, .inl (a1, gW, .inl st)), (hd, .inr (1, [.ref hc, .int ((dk_as gM gB v q d i).2.1), .int ((dk_as gM gB v q d i).2.2.1), .int ((dk_as gM gB v q d i).2.2.2.1), .int ((dk_as gM gB v q d i).2.2.2.2)])), (hc, .inl (a2, (gI + 4), .inl ((dk_as gM gB v q d i).1)))] H := hP
      have hD : va_D A [(h0, .inr (0, [.int (nI gW), .int (nI gC), .int (nI gV), .int (nI gB), .ref hs, .int (nI gM), .int (nI gI), .ref hd])), (hs, .inl (a1, gW, .inl st)), (hd, .inr (1, [.ref hc, .int ((dk_as gM gB v q d i).2.1), .int ((dk_as gM gB v q d i).2.2.1), .int ((dk_as gM gB v q d i).2.2.2.1), .int ((dk_as gM gB v q d i).2.2.2.2)])), (hc, .inl (a2, (gI + 4), .inl ((dk_as gM gB v q d i).1)))] := hD
      refine xr_v (D := (dC, dI)) (wf := (xo_w h0 hs hd hc a1 a2 gW gC gV gB gM gI)) (u0 := (st, (dk_as gM gB v q d i))) (wr := []) (va_runV (As := [.int (nI v), .int (nI i), .int ((dk_as gM gB v q d i).1 (gM + q * gB + i) - 1)]) (rest := []) ⟨hx, hb, hml, hown, hts⟩ (k_X0_mapBlock l dC dI h0 hs hd hc a1 a2 gW gC gV gB gM gI hg H.size st (dk_as gM gB v q d i) v i (by omega) (by omega) ((dk_as gM gB v q d i).1 (gM + q * gB + i) - 1)) (cwV 3 hts gX0_138 rfl rfl rfl (by decide +kernel) ⟨Nat.le_of_ble_eq_true rfl, Nat.le_of_ble_eq_true rfl⟩) (xp_v nwL_ok hK hN hP hD [0, 1, 2, 3] rfl rfl (va_recv hK hP (ci := 0) (q0 := 0) rfl rfl)) rfl rfl hl.1 rfl (lv_room (Nat.le_of_ble_eq_true rfl)) dX0_mapVolumeAs_19 ⟨Nat.zero_le _, Nat.zero_le _⟩) hP hD hS hA [0, 1, 2, 3] [] rfl rfl (by decide) (by decide) (fun u_5 H locs hw hP hD hS => ?_)
      obtain ⟨d_6, ed_6⟩ : ∃ z, z = dk_write (dk_as gM gB v q d i) (gM + v * gB + i) (((dk_as gM gB v q d i).1 (gM + q * gB + i) - 1) + 1) := ⟨_, rfl⟩
      rw [hw, ← ed_6] at hP hD
      have hP : va_P (dC, dI) vwCl [(h0, .inr (0, [.int (nI gW), .int (nI gC), .int (nI gV), .int (nI gB), .ref hs, .int (nI gM), .int (nI gI), .ref hd])), (hs, .inl (a1, gW, .inl st)), (hd, .inr (1, [.ref hc, .int d_6.2.1, .int d_6.2.2.1, .int d_6.2.2.2.1, .int d_6.2.2.2.2])), (hc, .inl (a2, (gI + 4), .inl d_6.1))] H := hP
      have hD : va_D A [(h0, .inr (0, [.int (nI gW), .int (nI gC), .int (nI gV), .int (nI gB), .ref hs, .int (nI gM), .int (nI gI), .ref hd])), (hs, .inl (a1, gW, .inl st)), (hd, .inr (1, [.ref hc, .int d_6.2.1, .int d_6.2.2.1, .int d_6.2.2.2.1, .int d_6.2.2.2.2])), (hc, .inl (a2, (gI + 4), .inl d_6.1))] := hD
      refine lv_iinc (v := nI (i + 1)) (lv' := [(3, .int (nI (i + 1))), (0, .ref h0), (1, .int (nI v)), (2, .int (nI q))]) hx hb dX0_mapVolumeAs_22 hl (k := 3) rfl (nI_1 i) (by decide) rfl (fun ls hl => ?_)
      have e9 : d_6 = dk_as gM gB v q d (i + 1) := ed_6
      rw [e9] at hP hD
      refine lv_goto (tgt := 2) hx hb dX0_mapVolumeAs_25 (by decide) ?_
      exact ih (i + 1) _ _ _ (by omega) (by omega) hP hD hS (lv_sub hl [1, 2, 3, 0] rfl)
set_option maxHeartbeats 4000000 in
set_option maxRecDepth 100000 in
theorem k_X0_mapVolumeAs (l : Launch) (dC : Nat → ClassId) (dI : Nat → Nat → Nat) (h0 hs hd hc : Nat) (a1 a2 : ClassId) (gW gC gV gB gM gI : Nat) (hg : geo gW gC gV gB gM gI) (sz : Nat) (st : Nat → Int32) (d : DS) (v q : Nat) (hv : v < gV) (hq : q < gV) : ctV nwL l yX0_mapVolumeAs wsX0_mapVolumeAs ({ frames := 2, cells := 0, slots := 0, locals := 45 } : Room) (dC, dI) [(a1, .int), (a2, .int)] (xo_w h0 hs hd hc a1 a2 gW gC gV gB gM gI) (st, d) sz [.ref h0, .int (nI v), .int (nI q)] (fun (u : XS) => u = (st, dk_as gM gB v q d gB)) := by
  refine Met.ofW (cc := cX0_mapVolumeAs) (maxL := 4) (ret := none) (by decide) rfl ?_
  intro p e s m args below meth c s₁ B hml hv
  obtain ⟨rfl, hsz, hP, hK, hD0, hN⟩ := hv
  have hx := B.exec
  have hb := B.bytes
  have hr := B.returns
  have hts := fun w h => atoms_spec (ws := wsX0_mapVolumeAs) B.pre w (List.mem_cons_of_mem _ h)
  have hown : s.vm.findClass RX0 = some m.cls := findClass_of_methodNamed B.named
  have hlocks := B.notSynchronized
  subst hsz
  have hD := hD0.self (sz := s.heap.size)
  generalize hAe : va_A ((xo_w h0 hs hd hc a1 a2 gW gC gV gB gM gI) (st, d)) s.heap.size = A at hD ⊢
  have hA : ∀ q : Nat, s.heap.size ≤ q → A q := fun q h => by rw [← hAe]; exact Or.inr h
  have hS : va_S A s.heap s.heap [] := va_S.rf
  have hl := lv_entry ([.ref h0, .int (nI v), .int (nI q)]) (n := 4) (Nat.le_of_ble_eq_true rfl)
  rw [lg_entry_eq]
  generalize (lg_sl ([.ref h0, .int (nI v), .int (nI q)]) ++ List.replicate (4 - (lg_sl ([.ref h0, .int (nI v), .int (nI q)])).length) Slot.unset).toArray = ls at hl ⊢
  have hP : va_P (dC, dI) vwCl [(h0, .inr (0, [.int (nI gW), .int (nI gC), .int (nI gV), .int (nI gB), .ref hs, .int (nI gM), .int (nI gI), .ref hd])), (hs, .inl (a1, gW, .inl st)), (hd, .inr (1, [.ref hc, .int d.2.1, .int d.2.2.1, .int d.2.2.2.1, .int d.2.2.2.2])), (hc, .inl (a2, (gI + 4), .inl d.1))] s.heap := hP
  have hD : va_D A [(h0, .inr (0, [.int (nI gW), .int (nI gC), .int (nI gV), .int (nI gB), .ref hs, .int (nI gM), .int (nI gI), .ref hd])), (hs, .inl (a1, gW, .inl st)), (hd, .inr (1, [.ref hc, .int d.2.1, .int d.2.2.1, .int d.2.2.2.1, .int d.2.2.2.2])), (hc, .inl (a2, (gI + 4), .inl d.1))] := hD
  have hl : lv_has ls 4 [(0, .ref h0), (1, .int (nI v)), (2, .int (nI q))] := hl
  obtain ⟨⟨hW1, hW2⟩, ⟨hC1, hC2⟩, ⟨hV1, hV2⟩, ⟨hB1, hB2⟩, eM, eI⟩ := id hg
  obtain ⟨hM2, hq2⟩ := geo_b hg
  refine lv_iconst (v := 0) hx hb dX0_mapVolumeAs_0 (by decide) ?_
  refine lv_istore_n (lv' := [(3, .int 0), (0, .ref h0), (1, .int (nI v)), (2, .int (nI q))]) hx hb dX0_mapVolumeAs_1 rfl hl (by decide) rfl (fun ls hl => ?_)
  have hl : lv_has ls 4 [(3, .int (nI 0)), (0, .ref h0), (1, .int (nI v)), (2, .int (nI q))] := hl
  refine lp_X0_mapVolumeAs_2 h0 hs hd hc a1 a2 gW gC gV gB gM gI hg st d v q hv hq hx hb hml hown hts hK hN hA  (fun  H locs ls  hP hD hS hl => ?_) (gB + 1) 0 _ _ _ (by omega) (by omega) hP hD hS (lv_sub hl [1, 2, 3, 0] rfl)
  · have hP : va_P (dC, dI) vwCl [(h0, .inr (0, [.int (nI gW), .int (nI gC), .int (nI gV), .int (nI gB), .ref hs, .int (nI gM), .int (nI gI), .ref hd])), (hs, .inl (a1, gW, .inl st)), (hd, .inr (1, [.ref hc, .int ((dk_as gM gB v q d gB).2.1), .int ((dk_as gM gB v q d gB).2.2.1), .int ((dk_as gM gB v q d gB).2.2.2.1), .int ((dk_as gM gB v q d gB).2.2.2.2)])), (hc, .inl (a2, (gI + 4), .inl ((dk_as gM gB v q d gB).1)))] H := hP
    have hD : va_D A [(h0, .inr (0, [.int (nI gW), .int (nI gC), .int (nI gV), .int (nI gB), .ref hs, .int (nI gM), .int (nI gI), .ref hd])), (hs, .inl (a1, gW, .inl st)), (hd, .inr (1, [.ref hc, .int ((dk_as gM gB v q d gB).2.1), .int ((dk_as gM gB v q d gB).2.2.1), .int ((dk_as gM gB v q d gB).2.2.2.1), .int ((dk_as gM gB v q d gB).2.2.2.2)])), (hc, .inl (a2, (gI + 4), .inl ((dk_as gM gB v q d gB).1)))] := hD
    exact W.vret hx hb hr (fun t ht hW => ⟨⟨(st, (dk_as gM gB v q d gB)), rfl, rfl, by rw [ht]; exact hP, hD⟩, hS.F ht⟩) hS.2.2 dX0_mapVolumeAs_28
set_option maxHeartbeats 4000000 in
set_option maxRecDepth 100000 in
theorem lp_X0_unmapVolume_2 {p : Program} {l : Launch} {e : Env} {s : State} {m : MethodId} {args : Array Value} {below : List Frame} {meth : Method} {c : Code} {Q : State → Prop} {A : Nat → Prop} {dC : Nat → ClassId} {dI : Nat → Nat → Nat} (h0 hs hd hc : Nat) (a1 a2 : ClassId) (gW gC gV gB gM gI : Nat) (hg : geo gW gC gV gB gM gI) (st : Nat → Int32) (d : DS) (v : Nat) (hv : v < gV) (hx : p.tables.exec = Jvm.exec) (hb : c.code = cX0_unmapVolume) (hml : c.maxLocals = 3) (hown : s.vm.findClass RX0 = some m.cls) (hts : ∀ w ∈ TBG, w.before args s = true) (hK : va_K (dC, dI) vwCl [(a1, .int), (a2, .int)] s) (hN : nwOk nwL s) (hA : ∀ q : Nat, s.heap.size ≤ q → A q)  (K : ∀  (H : Heap) (locs : List Loc) (ls : Array Slot), va_P (dC, dI) vwCl (xo_w h0 hs hd hc a1 a2 gW gC gV gB gM gI (st, (dk_un gM gB v d gB))) H → va_D A (xo_w h0 hs hd hc a1 a2 gW gC gV gB gM gI (st, (dk_un gM gB v d gB))) → va_S A s.heap H locs → lv_has ls 3 [(0, .ref h0)] → W p l e ({ frames := 2, cells := 0, slots := 0, locals := 45 } : Room) s m args below meth c H locs 0 0 Q (F0 m 23 ls [])) : ∀ (n : Nat) (i : Nat) (H : Heap) (locs : List Loc) (ls : Array Slot), gB - i < n → (i ≤ gB) → va_P (dC, dI) vwCl (xo_w h0 hs hd hc a1 a2 gW gC gV gB gM gI (st, (dk_un gM gB v d i))) H → va_D A (xo_w h0 hs hd hc a1 a2 gW gC gV gB gM gI (st, (dk_un gM gB v d i))) → va_S A s.heap H locs → lv_has ls 3 [(0, .ref h0), (1, .int (nI v)), (2, .int (nI i))] → W p l e ({ frames := 2, cells := 0, slots := 0, locals := 45 } : Room) s m args below meth c H locs 0 0 Q (F0 m 2 ls []) := by
  obtain ⟨⟨hW1, hW2⟩, ⟨hC1, hC2⟩, ⟨hV1, hV2⟩, ⟨hB1, hB2⟩, eM, eI⟩ := id hg
  obtain ⟨hM2, hq2⟩ := geo_b hg
  intro n
  induction n with
  | zero => intro i H locs ls hfu; exact absurd hfu (by omega)
  | succ n ih =>
    intro i H locs ls hfu hi hP hD hS hl
    have hP : va_P (dC, dI) vwCl [(h0, .inr (0, [.int (nI gW), .int (nI gC), .int (nI gV), .int (nI gB), .ref hs, .int (nI gM), .int (nI gI), .ref hd])), (hs, .inl (a1, gW, .inl st)), (hd, .inr (1, [.ref hc, .int ((dk_un gM gB v d i).2.1), .int ((dk_un gM gB v d i).2.2.1), .int ((dk_un gM gB v d i).2.2.2.1), .int ((dk_un gM gB v d i).2.2.2.2)])), (hc, .inl (a2, (gI + 4), .inl ((dk_un gM gB v d i).1)))] H := hP
    have hD : va_D A [(h0, .inr (0, [.int (nI gW), .int (nI gC), .int (nI gV), .int (nI gB), .ref hs, .int (nI gM), .int (nI gI), .ref hd])), (hs, .inl (a1, gW, .inl st)), (hd, .inr (1, [.ref hc, .int ((dk_un gM gB v d i).2.1), .int ((dk_un gM gB v d i).2.2.1), .int ((dk_un gM gB v d i).2.2.2.1), .int ((dk_un gM gB v d i).2.2.2.2)])), (hc, .inl (a2, (gI + 4), .inl ((dk_un gM gB v d i).1)))] := hD
    refine lv_iload_n hx hb dX0_unmapVolume_2 rfl (lv_at hl 2 rfl) ?_
    refine lv_aload_n hx hb dX0_unmapVolume_3 rfl (lv_at hl 0 rfl) ?_
    refine va_get (D := (dC, dI)) (ci := 0) (v := .int (nI gB)) (C := RX0) (T := TX0) (N := 8) hx hb hts inX0 hown hK hP 0 rfl rfl 3 (by decide) (hts _ tb_49) (fun _ h9 => h9) rfl dX0_unmapVolume_4 ?_
    refine lv_icmp_ge (tgt := 23) hx hb dX0_unmapVolume_7 (by decide) (fun c_1 => ?_) (fun c_1 => ?_)
    · have c_1 : gB ≤ i := (nI_leI (a := gB) (b := i) (by omega) (by omega)).mp c_1
      have hie : i = gB := by omega
      rw [hie] at hP hD
      exact K  _ _ _  hP hD hS (lv_sub hl [0] rfl)
    · have c_1 : ¬ (gB ≤ i) := fun q9 => c_1 ((nI_leI (a := gB) (b := i) (by omega) (by omega)).mpr q9)
      refine lv_aload_n hx hb dX0_unmapVolume_10 rfl (lv_at hl 0 rfl) ?_
      refine lv_iload_n hx hb dX0_unmapVolume_11 rfl (lv_at hl 1 rfl) ?_
      refine lv_iload_n hx hb dX0_unmapVolume_12 rfl (lv_at hl 2 rfl) ?_
      refine lv_iconst (v := (-1)) hx hb dX0_unmapVolume_13 (by decide) ?_
      refine xr_v (D := (dC, dI)) (wf := (xo_w h0 hs hd hc a1 a2 gW gC gV gB gM gI)) (u0 := (st, (dk_un gM gB v d i))) (wr := []) (va_runV (As := [.int (nI v), .int (nI i), .int (-1)]) (rest := []) ⟨hx, hb, hml, hown, hts⟩ (k_X0_mapBlock l dC dI h0 hs hd hc a1 a2 gW gC gV gB gM gI hg H.size st (dk_un gM gB v d i) v i (by omega) (by omega) (-1)) (cwV 3 hts gX0_138 rfl rfl rfl (by decide +kernel) ⟨Nat.le_of_ble_eq_true rfl, Nat.le_of_ble_eq_true rfl⟩) (xp_v nwL_ok hK hN hP hD [0, 1, 2, 3] rfl rfl (va_recv hK hP (ci := 0) (q0 := 0) rfl rfl)) rfl rfl hl.1 rfl (lv_room (Nat.le_of_ble_eq_true rfl)) dX0_unmapVolume_14 ⟨Nat.zero_le _, Nat.zero_le _⟩) hP hD hS hA [0, 1, 2, 3] [] rfl rfl (by decide) (by decide) (fun u_3 H locs hw hP hD hS => ?_)
      obtain ⟨d_4, ed_4⟩ : ∃ z, z = dk_write (dk_un gM gB v d i) (gM + v * gB + i) ((-1) + 1) := ⟨_, rfl⟩
      rw [hw, ← ed_4] at hP hD
      have hP : va_P (dC, dI) vwCl [(h0, .inr (0, [.int (nI gW), .int (nI gC), .int (nI gV), .int (nI gB), .ref hs, .int (nI gM), .int (nI gI), .ref hd])), (hs, .inl (a1, gW, .inl st)), (hd, .inr (1, [.ref hc, .int d_4.2.1, .int d_4.2.2.1, .int d_4.2.2.2.1, .int d_4.2.2.2.2])), (hc, .inl (a2, (gI + 4), .inl d_4.1))] H := hP
      have hD : va_D A [(h0, .inr (0, [.int (nI gW), .int (nI gC), .int (nI gV), .int (nI gB), .ref hs, .int (nI gM), .int (nI gI), .ref hd])), (hs, .inl (a1, gW, .inl st)), (hd, .inr (1, [.ref hc, .int d_4.2.1, .int d_4.2.2.1, .int d_4.2.2.2.1, .int d_4.2.2.2.2])), (hc, .inl (a2, (gI + 4), .inl d_4.1))] := hD
      refine lv_iinc (v := nI (i + 1)) (lv' := [(2, .int (nI (i + 1))), (0, .ref h0), (1, .int (nI v))]) hx hb dX0_unmapVolume_17 hl (k := 2) rfl (nI_1 i) (by decide) rfl (fun ls hl => ?_)
      have e9 : d_4 = dk_un gM gB v d (i + 1) := ed_4
      rw [e9] at hP hD
      refine lv_goto (tgt := 2) hx hb dX0_unmapVolume_20 (by decide) ?_
      exact ih (i + 1) _ _ _ (by omega) (by omega) hP hD hS (lv_sub hl [1, 2, 0] rfl)
set_option maxHeartbeats 4000000 in
set_option maxRecDepth 100000 in
theorem k_X0_unmapVolume (l : Launch) (dC : Nat → ClassId) (dI : Nat → Nat → Nat) (h0 hs hd hc : Nat) (a1 a2 : ClassId) (gW gC gV gB gM gI : Nat) (hg : geo gW gC gV gB gM gI) (sz : Nat) (st : Nat → Int32) (d : DS) (v : Nat) (hv : v < gV) : ctV nwL l yX0_unmapVolume wsX0_unmapVolume ({ frames := 2, cells := 0, slots := 0, locals := 45 } : Room) (dC, dI) [(a1, .int), (a2, .int)] (xo_w h0 hs hd hc a1 a2 gW gC gV gB gM gI) (st, d) sz [.ref h0, .int (nI v)] (fun (u : XS) => u = (st, dk_un gM gB v d gB)) := by
  refine Met.ofW (cc := cX0_unmapVolume) (maxL := 3) (ret := none) (by decide) rfl ?_
  intro p e s m args below meth c s₁ B hml hv
  obtain ⟨rfl, hsz, hP, hK, hD0, hN⟩ := hv
  have hx := B.exec
  have hb := B.bytes
  have hr := B.returns
  have hts := fun w h => atoms_spec (ws := wsX0_unmapVolume) B.pre w (List.mem_cons_of_mem _ h)
  have hown : s.vm.findClass RX0 = some m.cls := findClass_of_methodNamed B.named
  have hlocks := B.notSynchronized
  subst hsz
  have hD := hD0.self (sz := s.heap.size)
  generalize hAe : va_A ((xo_w h0 hs hd hc a1 a2 gW gC gV gB gM gI) (st, d)) s.heap.size = A at hD ⊢
  have hA : ∀ q : Nat, s.heap.size ≤ q → A q := fun q h => by rw [← hAe]; exact Or.inr h
  have hS : va_S A s.heap s.heap [] := va_S.rf
  have hl := lv_entry ([.ref h0, .int (nI v)]) (n := 3) (Nat.le_of_ble_eq_true rfl)
  rw [lg_entry_eq]
  generalize (lg_sl ([.ref h0, .int (nI v)]) ++ List.replicate (3 - (lg_sl ([.ref h0, .int (nI v)])).length) Slot.unset).toArray = ls at hl ⊢
  have hP : va_P (dC, dI) vwCl [(h0, .inr (0, [.int (nI gW), .int (nI gC), .int (nI gV), .int (nI gB), .ref hs, .int (nI gM), .int (nI gI), .ref hd])), (hs, .inl (a1, gW, .inl st)), (hd, .inr (1, [.ref hc, .int d.2.1, .int d.2.2.1, .int d.2.2.2.1, .int d.2.2.2.2])), (hc, .inl (a2, (gI + 4), .inl d.1))] s.heap := hP
  have hD : va_D A [(h0, .inr (0, [.int (nI gW), .int (nI gC), .int (nI gV), .int (nI gB), .ref hs, .int (nI gM), .int (nI gI), .ref hd])), (hs, .inl (a1, gW, .inl st)), (hd, .inr (1, [.ref hc, .int d.2.1, .int d.2.2.1, .int d.2.2.2.1, .int d.2.2.2.2])), (hc, .inl (a2, (gI + 4), .inl d.1))] := hD
  have hl : lv_has ls 3 [(0, .ref h0), (1, .int (nI v))] := hl
  obtain ⟨⟨hW1, hW2⟩, ⟨hC1, hC2⟩, ⟨hV1, hV2⟩, ⟨hB1, hB2⟩, eM, eI⟩ := id hg
  obtain ⟨hM2, hq2⟩ := geo_b hg
  refine lv_iconst (v := 0) hx hb dX0_unmapVolume_0 (by decide) ?_
  refine lv_istore_n (lv' := [(2, .int 0), (0, .ref h0), (1, .int (nI v))]) hx hb dX0_unmapVolume_1 rfl hl (by decide) rfl (fun ls hl => ?_)
  have hl : lv_has ls 3 [(2, .int (nI 0)), (0, .ref h0), (1, .int (nI v))] := hl
  refine lp_X0_unmapVolume_2 h0 hs hd hc a1 a2 gW gC gV gB gM gI hg st d v hv hx hb hml hown hts hK hN hA  (fun  H locs ls  hP hD hS hl => ?_) (gB + 1) 0 _ _ _ (by omega) (by omega) hP hD hS (lv_sub hl [1, 2, 0] rfl)
  · have hP : va_P (dC, dI) vwCl [(h0, .inr (0, [.int (nI gW), .int (nI gC), .int (nI gV), .int (nI gB), .ref hs, .int (nI gM), .int (nI gI), .ref hd])), (hs, .inl (a1, gW, .inl st)), (hd, .inr (1, [.ref hc, .int ((dk_un gM gB v d gB).2.1), .int ((dk_un gM gB v d gB).2.2.1), .int ((dk_un gM gB v d gB).2.2.2.1), .int ((dk_un gM gB v d gB).2.2.2.2)])), (hc, .inl (a2, (gI + 4), .inl ((dk_un gM gB v d gB).1)))] H := hP
    have hD : va_D A [(h0, .inr (0, [.int (nI gW), .int (nI gC), .int (nI gV), .int (nI gB), .ref hs, .int (nI gM), .int (nI gI), .ref hd])), (hs, .inl (a1, gW, .inl st)), (hd, .inr (1, [.ref hc, .int ((dk_un gM gB v d gB).2.1), .int ((dk_un gM gB v d gB).2.2.1), .int ((dk_un gM gB v d gB).2.2.2.1), .int ((dk_un gM gB v d gB).2.2.2.2)])), (hc, .inl (a2, (gI + 4), .inl ((dk_un gM gB v d gB).1)))] := hD
    exact W.vret hx hb hr (fun t ht hW => ⟨⟨(st, (dk_un gM gB v d gB)), rfl, rfl, by rw [ht]; exact hP, hD⟩, hS.F ht⟩) hS.2.2 dX0_unmapVolume_23
set_option maxHeartbeats 4000000 in
set_option maxRecDepth 100000 in
theorem k_X0_carryOutIntent (l : Launch) (dC : Nat → ClassId) (dI : Nat → Nat → Nat) (h0 hs hd hc : Nat) (a1 a2 : ClassId) (gW gC gV gB gM gI : Nat) (hg : geo gW gC gV gB gM gI) (sz : Nat) (st : Nat → Int32) (d : DS) (hok : okI d gV gB gI) : ctV nwL l yX0_carryOutIntent wsX0_carryOutIntent ({ frames := 3, cells := 0, slots := 0, locals := 68 } : Room) (dC, dI) [(a1, .int), (a2, .int)] (xo_w h0 hs hd hc a1 a2 gW gC gV gB gM gI) (st, d) sz [.ref h0] (fun (u : XS) => u = (st, carry d gM gB gI)) := by
  refine Met.ofW (cc := cX0_carryOutIntent) (maxL := 4) (ret := none) (by decide) rfl ?_
  intro p e s m args below meth c s₁ B hml hv
  obtain ⟨rfl, hsz, hP, hK, hD0, hN⟩ := hv
  have hx := B.exec
  have hb := B.bytes
  have hr := B.returns
  have hts := fun w h => atoms_spec (ws := wsX0_carryOutIntent) B.pre w (List.mem_cons_of_mem _ h)
  have hown : s.vm.findClass RX0 = some m.cls := findClass_of_methodNamed B.named
  have hlocks := B.notSynchronized
  subst hsz
  have hD := hD0.self (sz := s.heap.size)
  generalize hAe : va_A ((xo_w h0 hs hd hc a1 a2 gW gC gV gB gM gI) (st, d)) s.heap.size = A at hD ⊢
  have hA : ∀ q : Nat, s.heap.size ≤ q → A q := fun q h => by rw [← hAe]; exact Or.inr h
  have hS : va_S A s.heap s.heap [] := va_S.rf
  have hl := lv_entry ([.ref h0]) (n := 4) (Nat.le_of_ble_eq_true rfl)
  rw [lg_entry_eq]
  generalize (lg_sl ([.ref h0]) ++ List.replicate (4 - (lg_sl ([.ref h0])).length) Slot.unset).toArray = ls at hl ⊢
  have hP : va_P (dC, dI) vwCl [(h0, .inr (0, [.int (nI gW), .int (nI gC), .int (nI gV), .int (nI gB), .ref hs, .int (nI gM), .int (nI gI), .ref hd])), (hs, .inl (a1, gW, .inl st)), (hd, .inr (1, [.ref hc, .int d.2.1, .int d.2.2.1, .int d.2.2.2.1, .int d.2.2.2.2])), (hc, .inl (a2, (gI + 4), .inl d.1))] s.heap := hP
  have hD : va_D A [(h0, .inr (0, [.int (nI gW), .int (nI gC), .int (nI gV), .int (nI gB), .ref hs, .int (nI gM), .int (nI gI), .ref hd])), (hs, .inl (a1, gW, .inl st)), (hd, .inr (1, [.ref hc, .int d.2.1, .int d.2.2.1, .int d.2.2.2.1, .int d.2.2.2.2])), (hc, .inl (a2, (gI + 4), .inl d.1))] := hD
  have hl : lv_has ls 4 [(0, .ref h0)] := hl
  obtain ⟨⟨hW1, hW2⟩, ⟨hC1, hC2⟩, ⟨hV1, hV2⟩, ⟨hB1, hB2⟩, eM, eI⟩ := id hg
  obtain ⟨hM2, hq2⟩ := geo_b hg
  refine lv_aload_n hx hb dX0_carryOutIntent_0 rfl (lv_at hl 0 rfl) ?_
  refine va_get (D := (dC, dI)) (ci := 0) (v := .ref hd) (C := RX0) (T := TX0) (N := 8) hx hb hts inX0 hown hK hP 0 rfl rfl 7 (by decide) (hts _ tb_53) (fun _ h9 => h9) rfl dX0_carryOutIntent_1 ?_
  refine lv_aload_n hx hb dX0_carryOutIntent_4 rfl (lv_at hl 0 rfl) ?_
  refine va_get (D := (dC, dI)) (ci := 0) (v := .int (nI gI)) (C := RX0) (T := TX0) (N := 8) hx hb hts inX0 hown hK hP 0 rfl rfl 6 (by decide) (hts _ tb_52) (fun _ h9 => h9) rfl dX0_carryOutIntent_5 ?_
  refine lv_iconst (v := 3) hx hb dX0_carryOutIntent_8 (by decide) ?_
  refine lv_iadd hx hb dX0_carryOutIntent_9 ?_
  refine lv_topi (fun z_1 ez_1 => ?_)
  obtain rfl : z_1 = nI (gI + 3) := ez_1.trans (nI_add gI 3)
  refine xr_i (D := (dC, dI)) (wf := (dk_w hd hc a2 (gI + 4))) (u0 := d) (wr := [(h0, .inr (0, [.int (nI gW), .int (nI gC), .int (nI gV), .int (nI gB), .ref hs, .int (nI gM), .int (nI gI), .ref hd])), (hs, .inl (a1, gW, .inl st))]) (va_runVN (As := [.int (nI (gI + 3))]) (rest := []) ⟨hx, hb, hml, hown, hts⟩ (k_X1_read l dC dI hd hc a2 (gI + 4) (by omega) s.heap.size d (gI + 3) (by omega)) ⟨va_cnB 1 hts gX0_80 rfl rfl rfl (hN _ nn_80) (hts _ tb_3) (by decide +kernel) ⟨Nat.le_of_ble_eq_true rfl, Nat.le_of_ble_eq_true rfl⟩, hts _ tb_125, hts _ ts_9⟩ (xp_v nwL_ok (hK.sub (tys' := [(a2, .int)]) [1] rfl) hN hP hD [2, 3] rfl rfl (va_recv hK hP (ci := 1) (q0 := 2) rfl rfl)) rfl rfl hl.1 rfl (lv_room (Nat.le_of_ble_eq_true rfl)) dX0_carryOutIntent_10 ⟨Nat.zero_le _, Nat.zero_le _⟩) hP hD hS hA [2, 3] [0, 1] rfl rfl (by decide) (by decide) (fun r_2 u_3 H locs hw hP hD hS => ?_)
  obtain ⟨er_2, eu_3⟩ := hw
  rw [eu_3] at hP hD
  rw [er_2]
  have hP : va_P (dC, dI) vwCl [(h0, .inr (0, [.int (nI gW), .int (nI gC), .int (nI gV), .int (nI gB), .ref hs, .int (nI gM), .int (nI gI), .ref hd])), (hs, .inl (a1, gW, .inl st)), (hd, .inr (1, [.ref hc, .int d.2.1, .int d.2.2.1, .int d.2.2.2.1, .int d.2.2.2.2])), (hc, .inl (a2, (gI + 4), .inl d.1))] H := hP
  have hD : va_D A [(h0, .inr (0, [.int (nI gW), .int (nI gC), .int (nI gV), .int (nI gB), .ref hs, .int (nI gM), .int (nI gI), .ref hd])), (hs, .inl (a1, gW, .inl st)), (hd, .inr (1, [.ref hc, .int d.2.1, .int d.2.2.1, .int d.2.2.2.1, .int d.2.2.2.2])), (hc, .inl (a2, (gI + 4), .inl d.1))] := hD
  refine lv_istore_n (lv' := [(1, .int (d.1 (gI + 3))), (0, .ref h0)]) hx hb dX0_carryOutIntent_13 rfl hl (by decide) rfl (fun ls hl => ?_)
  refine lv_iload_n hx hb dX0_carryOutIntent_14 rfl (lv_at hl 0 rfl) ?_
  refine lv_if_ne (tgt := 19) hx hb dX0_carryOutIntent_15 (by decide) (fun c_4 => ?_) (fun c_4 => ?_)
  · refine lv_aload_n hx hb dX0_carryOutIntent_19 rfl (lv_at hl 1 rfl) ?_
    refine va_get (D := (dC, dI)) (ci := 0) (v := .ref hd) (C := RX0) (T := TX0) (N := 8) hx hb hts inX0 hown hK hP 0 rfl rfl 7 (by decide) (hts _ tb_53) (fun _ h9 => h9) rfl dX0_carryOutIntent_20 ?_
    refine lv_aload_n hx hb dX0_carryOutIntent_23 rfl (lv_at hl 1 rfl) ?_
    refine va_get (D := (dC, dI)) (ci := 0) (v := .int (nI gI)) (C := RX0) (T := TX0) (N := 8) hx hb hts inX0 hown hK hP 0 rfl rfl 6 (by decide) (hts _ tb_52) (fun _ h9 => h9) rfl dX0_carryOutIntent_24 ?_
    refine xr_i (D := (dC, dI)) (wf := (dk_w hd hc a2 (gI + 4))) (u0 := d) (wr := [(h0, .inr (0, [.int (nI gW), .int (nI gC), .int (nI gV), .int (nI gB), .ref hs, .int (nI gM), .int (nI gI), .ref hd])), (hs, .inl (a1, gW, .inl st))]) (va_runVN (As := [.int (nI gI)]) (rest := []) ⟨hx, hb, hml, hown, hts⟩ (k_X1_read l dC dI hd hc a2 (gI + 4) (by omega) H.size d (gI) (by omega)) ⟨va_cnB 1 hts gX0_80 rfl rfl rfl (hN _ nn_80) (hts _ tb_3) (by decide +kernel) ⟨Nat.le_of_ble_eq_true rfl, Nat.le_of_ble_eq_true rfl⟩, hts _ tb_125, hts _ ts_9⟩ (xp_v nwL_ok (hK.sub (tys' := [(a2, .int)]) [1] rfl) hN hP hD [2, 3] rfl rfl (va_recv hK hP (ci := 1) (q0 := 2) rfl rfl)) rfl rfl hl.1 rfl (lv_room (Nat.le_of_ble_eq_true rfl)) dX0_carryOutIntent_27 ⟨Nat.zero_le _, Nat.zero_le _⟩) hP hD hS hA [2, 3] [0, 1] rfl rfl (by decide) (by decide) (fun r_5 u_6 H locs hw hP hD hS => ?_)
    obtain ⟨er_5, eu_6⟩ := hw
    rw [eu_6] at hP hD
    rw [er_5]
    have hP : va_P (dC, dI) vwCl [(h0, .inr (0, [.int (nI gW), .int (nI gC), .int (nI gV), .int (nI gB), .ref hs, .int (nI gM), .int (nI gI), .ref hd])), (hs, .inl (a1, gW, .inl st)), (hd, .inr (1, [.ref hc, .int d.2.1, .int d.2.2.1, .int d.2.2.2.1, .int d.2.2.2.2])), (hc, .inl (a2, (gI + 4), .inl d.1))] H := hP
    have hD : va_D A [(h0, .inr (0, [.int (nI gW), .int (nI gC), .int (nI gV), .int (nI gB), .ref hs, .int (nI gM), .int (nI gI), .ref hd])), (hs, .inl (a1, gW, .inl st)), (hd, .inr (1, [.ref hc, .int d.2.1, .int d.2.2.1, .int d.2.2.2.1, .int d.2.2.2.2])), (hc, .inl (a2, (gI + 4), .inl d.1))] := hD
    refine lv_istore_n (lv' := [(2, .int (d.1 (gI))), (1, .int (d.1 (gI + 3))), (0, .ref h0)]) hx hb dX0_carryOutIntent_30 rfl hl (by decide) rfl (fun ls hl => ?_)
    refine lv_aload_n hx hb dX0_carryOutIntent_31 rfl (lv_at hl 2 rfl) ?_
    refine va_get (D := (dC, dI)) (ci := 0) (v := .ref hd) (C := RX0) (T := TX0) (N := 8) hx hb hts inX0 hown hK hP 0 rfl rfl 7 (by decide) (hts _ tb_53) (fun _ h9 => h9) rfl dX0_carryOutIntent_32 ?_
    refine lv_aload_n hx hb dX0_carryOutIntent_35 rfl (lv_at hl 2 rfl) ?_
    refine va_get (D := (dC, dI)) (ci := 0) (v := .int (nI gI)) (C := RX0) (T := TX0) (N := 8) hx hb hts inX0 hown hK hP 0 rfl rfl 6 (by decide) (hts _ tb_52) (fun _ h9 => h9) rfl dX0_carryOutIntent_36 ?_
    refine lv_iconst (v := 1) hx hb dX0_carryOutIntent_39 (by decide) ?_
    refine lv_iadd hx hb dX0_carryOutIntent_40 ?_
    refine lv_topi (fun z_7 ez_7 => ?_)
    obtain rfl : z_7 = nI (gI + 1) := ez_7.trans (nI_1 gI)
    refine xr_i (D := (dC, dI)) (wf := (dk_w hd hc a2 (gI + 4))) (u0 := d) (wr := [(h0, .inr (0, [.int (nI gW), .int (nI gC), .int (nI gV), .int (nI gB), .ref hs, .int (nI gM), .int (nI gI), .ref hd])), (hs, .inl (a1, gW, .inl st))]) (va_runVN (As := [.int (nI (gI + 1))]) (rest := []) ⟨hx, hb, hml, hown, hts⟩ (k_X1_read l dC dI hd hc a2 (gI + 4) (by omega) H.size d (gI + 1) (by omega)) ⟨va_cnB 1 hts gX0_80 rfl rfl rfl (hN _ nn_80) (hts _ tb_3) (by decide +kernel) ⟨Nat.le_of_ble_eq_true rfl, Nat.le_of_ble_eq_true rfl⟩, hts _ tb_125, hts _ ts_9⟩ (xp_v nwL_ok (hK.sub (tys' := [(a2, .int)]) [1] rfl) hN hP hD [2, 3] rfl rfl (va_recv hK hP (ci := 1) (q0 := 2) rfl rfl)) rfl rfl hl.1 rfl (lv_room (Nat.le_of_ble_eq_true rfl)) dX0_carryOutIntent_41 ⟨Nat.zero_le _, Nat.zero_le _⟩) hP hD hS hA [2, 3] [0, 1] rfl rfl (by decide) (by decide) (fun r_8 u_9 H locs hw hP hD hS => ?_)
    obtain ⟨er_8, eu_9⟩ := hw
    rw [eu_9] at hP hD
    rw [er_8]
    have hP : va_P (dC, dI) vwCl [(h0, .inr (0, [.int (nI gW), .int (nI gC), .int (nI gV), .int (nI gB), .ref hs, .int (nI gM), .int (nI gI), .ref hd])), (hs, .inl (a1, gW, .inl st)), (hd, .inr (1, [.ref hc, .int d.2.1, .int d.2.2.1, .int d.2.2.2.1, .int d.2.2.2.2])), (hc, .inl (a2, (gI + 4), .inl d.1))] H := hP
    have hD : va_D A [(h0, .inr (0, [.int (nI gW), .int (nI gC), .int (nI gV), .int (nI gB), .ref hs, .int (nI gM), .int (nI gI), .ref hd])), (hs, .inl (a1, gW, .inl st)), (hd, .inr (1, [.ref hc, .int d.2.1, .int d.2.2.1, .int d.2.2.2.1, .int d.2.2.2.2])), (hc, .inl (a2, (gI + 4), .inl d.1))] := hD
    refine lv_istore_n (lv' := [(3, .int (d.1 (gI + 1))), (2, .int (d.1 (gI))), (1, .int (d.1 (gI + 3))), (0, .ref h0)]) hx hb dX0_carryOutIntent_44 rfl hl (by decide) rfl (fun ls hl => ?_)
    obtain ⟨v, hv, ev⟩ := (hok c_4).1
    have hl : lv_has ls 4 [(3, .int (d.1 (gI + 1))), (2, .int (nI v)), (1, .int (d.1 (gI + 3))), (0, .ref h0)] := by have q9 := hl; rw [ev] at q9; exact q9
    refine lv_iload_n hx hb dX0_carryOutIntent_45 rfl (lv_at hl 2 rfl) ?_
    refine lv_iconst (v := 1) hx hb dX0_carryOutIntent_46 (by decide) ?_
    refine lv_icmp_ne (tgt := 72) hx hb dX0_carryOutIntent_47 (by decide) (fun c_10 => ?_) (fun c_10 => ?_)
    · refine lv_iload_n hx hb dX0_carryOutIntent_72 rfl (lv_at hl 2 rfl) ?_
      refine lv_iconst (v := 2) hx hb dX0_carryOutIntent_73 (by decide) ?_
      refine lv_icmp_ne (tgt := 86) hx hb dX0_carryOutIntent_74 (by decide) (fun c_11 => ?_) (fun c_11 => ?_)
      · refine lv_aload_n hx hb dX0_carryOutIntent_86 rfl (lv_at hl 3 rfl) ?_
        refine lv_iload_n hx hb dX0_carryOutIntent_87 rfl (lv_at hl 1 rfl) ?_
        refine xr_v (D := (dC, dI)) (wf := (xo_w h0 hs hd hc a1 a2 gW gC gV gB gM gI)) (u0 := (st, d)) (wr := []) (va_runV (As := [.int (nI v)]) (rest := []) ⟨hx, hb, hml, hown, hts⟩ (k_X0_unmapVolume l dC dI h0 hs hd hc a1 a2 gW gC gV gB gM gI hg H.size st d v hv) (cwV 1 hts gX0_145 rfl rfl rfl (by decide +kernel) ⟨Nat.le_of_ble_eq_true rfl, Nat.le_of_ble_eq_true rfl⟩) (xp_v nwL_ok hK hN hP hD [0, 1, 2, 3] rfl rfl (va_recv hK hP (ci := 0) (q0 := 0) rfl rfl)) rfl rfl hl.1 rfl (lv_room (Nat.le_of_ble_eq_true rfl)) dX0_carryOutIntent_88 ⟨Nat.zero_le _, Nat.zero_le _⟩) hP hD hS hA [0, 1, 2, 3] [] rfl rfl (by decide) (by decide) (fun u_13 H locs hw hP hD hS => ?_)
        obtain ⟨d_14, ed_14⟩ : ∃ z, z = dk_un gM gB v d gB := ⟨_, rfl⟩
        rw [hw, ← ed_14] at hP hD
        have hP : va_P (dC, dI) vwCl [(h0, .inr (0, [.int (nI gW), .int (nI gC), .int (nI gV), .int (nI gB), .ref hs, .int (nI gM), .int (nI gI), .ref hd])), (hs, .inl (a1, gW, .inl st)), (hd, .inr (1, [.ref hc, .int d_14.2.1, .int d_14.2.2.1, .int d_14.2.2.2.1, .int d_14.2.2.2.2])), (hc, .inl (a2, (gI + 4), .inl d_14.1))] H := hP
        have hD : va_D A [(h0, .inr (0, [.int (nI gW), .int (nI gC), .int (nI gV), .int (nI gB), .ref hs, .int (nI gM), .int (nI gI), .ref hd])), (hs, .inl (a1, gW, .inl st)), (hd, .inr (1, [.ref hc, .int d_14.2.1, .int d_14.2.2.1, .int d_14.2.2.2.1, .int d_14.2.2.2.2])), (hc, .inl (a2, (gI + 4), .inl d_14.1))] := hD
        refine lv_aload_n hx hb dX0_carryOutIntent_91 rfl (lv_at hl 3 rfl) ?_
        refine va_get (D := (dC, dI)) (ci := 0) (v := .ref hd) (C := RX0) (T := TX0) (N := 8) hx hb hts inX0 hown hK hP 0 rfl rfl 7 (by decide) (hts _ tb_53) (fun _ h9 => h9) rfl dX0_carryOutIntent_92 ?_
        refine lv_aload_n hx hb dX0_carryOutIntent_95 rfl (lv_at hl 3 rfl) ?_
        refine va_get (D := (dC, dI)) (ci := 0) (v := .int (nI gI)) (C := RX0) (T := TX0) (N := 8) hx hb hts inX0 hown hK hP 0 rfl rfl 6 (by decide) (hts _ tb_52) (fun _ h9 => h9) rfl dX0_carryOutIntent_96 ?_
        refine lv_iconst (v := 3) hx hb dX0_carryOutIntent_99 (by decide) ?_
        refine lv_iadd hx hb dX0_carryOutIntent_100 ?_
        refine lv_topi (fun z_15 ez_15 => ?_)
        obtain rfl : z_15 = nI (gI + 3) := ez_15.trans (nI_add gI 3)
        refine lv_iconst (v := 0) hx hb dX0_carryOutIntent_101 (by decide) ?_
        refine xr_v (D := (dC, dI)) (wf := (dk_w hd hc a2 (gI + 4))) (u0 := d_14) (wr := [(h0, .inr (0, [.int (nI gW), .int (nI gC), .int (nI gV), .int (nI gB), .ref hs, .int (nI gM), .int (nI gI), .ref hd])), (hs, .inl (a1, gW, .inl st))]) (va_runVN (As := [.int (nI (gI + 3)), .int 0]) (rest := []) ⟨hx, hb, hml, hown, hts⟩ (k_X1_write l dC dI hd hc a2 (gI + 4) (by omega) H.size d_14 (gI + 3) (by omega) 0) ⟨va_cnB 2 hts gX0_116 rfl rfl rfl (hN _ nn_116) (hts _ tb_3) (by decide +kernel) ⟨Nat.le_of_ble_eq_true rfl, Nat.le_of_ble_eq_true rfl⟩, hts _ tb_161, hts _ ts_18⟩ (xp_v nwL_ok (hK.sub (tys' := [(a2, .int)]) [1] rfl) hN hP hD [2, 3] rfl rfl (va_recv hK hP (ci := 1) (q0 := 2) rfl rfl)) rfl rfl hl.1 rfl (lv_room (Nat.le_of_ble_eq_true rfl)) dX0_carryOutIntent_102 ⟨Nat.zero_le _, Nat.zero_le _⟩) hP hD hS hA [2, 3] [0, 1] rfl rfl (by decide) (by decide) (fun u_17 H locs hw hP hD hS => ?_)
        obtain ⟨d_18, ed_18⟩ : ∃ z, z = dk_write d_14 (gI + 3) 0 := ⟨_, rfl⟩
        rw [hw, ← ed_18] at hP hD
        have hP : va_P (dC, dI) vwCl [(h0, .inr (0, [.int (nI gW), .int (nI gC), .int (nI gV), .int (nI gB), .ref hs, .int (nI gM), .int (nI gI), .ref hd])), (hs, .inl (a1, gW, .inl st)), (hd, .inr (1, [.ref hc, .int d_18.2.1, .int d_18.2.2.1, .int d_18.2.2.2.1, .int d_18.2.2.2.2])), (hc, .inl (a2, (gI + 4), .inl d_18.1))] H := hP
        have hD : va_D A [(h0, .inr (0, [.int (nI gW), .int (nI gC), .int (nI gV), .int (nI gB), .ref hs, .int (nI gM), .int (nI gI), .ref hd])), (hs, .inl (a1, gW, .inl st)), (hd, .inr (1, [.ref hc, .int d_18.2.1, .int d_18.2.2.1, .int d_18.2.2.2.1, .int d_18.2.2.2.2])), (hc, .inl (a2, (gI + 4), .inl d_18.1))] := hD
        exact W.vret hx hb hr (fun t ht hW => ⟨⟨(st, d_18), rfl, by unfold carry; rw [if_neg c_4, if_neg c_10, if_neg c_11, ev, nI_clamp (n := v) (by omega), ed_18, ed_14], by rw [ht]; exact hP, hD⟩, hS.F ht⟩) hS.2.2 dX0_carryOutIntent_105
      · obtain ⟨q, hq, eq9⟩ := (hok c_4).2.2 c_11
        have hl : lv_has ls 4 [(3, .int (nI q)), (2, .int (nI v)), (1, .int (d.1 (gI + 3))), (0, .ref h0)] := by have q9 := hl; rw [eq9] at q9; exact q9
        refine lv_aload_n hx hb dX0_carryOutIntent_77 rfl (lv_at hl 3 rfl) ?_
        refine lv_iload_n hx hb dX0_carryOutIntent_78 rfl (lv_at hl 1 rfl) ?_
        refine lv_iload_n hx hb dX0_carryOutIntent_79 rfl (lv_at hl 0 rfl) ?_
        refine xr_v (D := (dC, dI)) (wf := (xo_w h0 hs hd hc a1 a2 gW gC gV gB gM gI)) (u0 := (st, d)) (wr := []) (va_runV (As := [.int (nI v), .int (nI q)]) (rest := []) ⟨hx, hb, hml, hown, hts⟩ (k_X0_mapVolumeAs l dC dI h0 hs hd hc a1 a2 gW gC gV gB gM gI hg H.size st d v q hv hq) (cwV 2 hts gX0_142 rfl rfl rfl (by decide +kernel) ⟨Nat.le_of_ble_eq_true rfl, Nat.le_of_ble_eq_true rfl⟩) (xp_v nwL_ok hK hN hP hD [0, 1, 2, 3] rfl rfl (va_recv hK hP (ci := 0) (q0 := 0) rfl rfl)) rfl rfl hl.1 rfl (lv_room (Nat.le_of_ble_eq_true rfl)) dX0_carryOutIntent_80 ⟨Nat.zero_le _, Nat.zero_le _⟩) hP hD hS hA [0, 1, 2, 3] [] rfl rfl (by decide) (by decide) (fun u_20 H locs hw hP hD hS => ?_)
        obtain ⟨d_21, ed_21⟩ : ∃ z, z = dk_as gM gB v q d gB := ⟨_, rfl⟩
        rw [hw, ← ed_21] at hP hD
        have hP : va_P (dC, dI) vwCl [(h0, .inr (0, [.int (nI gW), .int (nI gC), .int (nI gV), .int (nI gB), .ref hs, .int (nI gM), .int (nI gI), .ref hd])), (hs, .inl (a1, gW, .inl st)), (hd, .inr (1, [.ref hc, .int d_21.2.1, .int d_21.2.2.1, .int d_21.2.2.2.1, .int d_21.2.2.2.2])), (hc, .inl (a2, (gI + 4), .inl d_21.1))] H := hP
        have hD : va_D A [(h0, .inr (0, [.int (nI gW), .int (nI gC), .int (nI gV), .int (nI gB), .ref hs, .int (nI gM), .int (nI gI), .ref hd])), (hs, .inl (a1, gW, .inl st)), (hd, .inr (1, [.ref hc, .int d_21.2.1, .int d_21.2.2.1, .int d_21.2.2.2.1, .int d_21.2.2.2.2])), (hc, .inl (a2, (gI + 4), .inl d_21.1))] := hD
        refine lv_goto (tgt := 91) hx hb dX0_carryOutIntent_83 (by decide) ?_
        refine lv_aload_n hx hb dX0_carryOutIntent_91 rfl (lv_at hl 3 rfl) ?_
        refine va_get (D := (dC, dI)) (ci := 0) (v := .ref hd) (C := RX0) (T := TX0) (N := 8) hx hb hts inX0 hown hK hP 0 rfl rfl 7 (by decide) (hts _ tb_53) (fun _ h9 => h9) rfl dX0_carryOutIntent_92 ?_
        refine lv_aload_n hx hb dX0_carryOutIntent_95 rfl (lv_at hl 3 rfl) ?_
        refine va_get (D := (dC, dI)) (ci := 0) (v := .int (nI gI)) (C := RX0) (T := TX0) (N := 8) hx hb hts inX0 hown hK hP 0 rfl rfl 6 (by decide) (hts _ tb_52) (fun _ h9 => h9) rfl dX0_carryOutIntent_96 ?_
        refine lv_iconst (v := 3) hx hb dX0_carryOutIntent_99 (by decide) ?_
        refine lv_iadd hx hb dX0_carryOutIntent_100 ?_
        refine lv_topi (fun z_22 ez_22 => ?_)
        obtain rfl : z_22 = nI (gI + 3) := ez_22.trans (nI_add gI 3)
        refine lv_iconst (v := 0) hx hb dX0_carryOutIntent_101 (by decide) ?_
        refine xr_v (D := (dC, dI)) (wf := (dk_w hd hc a2 (gI + 4))) (u0 := d_21) (wr := [(h0, .inr (0, [.int (nI gW), .int (nI gC), .int (nI gV), .int (nI gB), .ref hs, .int (nI gM), .int (nI gI), .ref hd])), (hs, .inl (a1, gW, .inl st))]) (va_runVN (As := [.int (nI (gI + 3)), .int 0]) (rest := []) ⟨hx, hb, hml, hown, hts⟩ (k_X1_write l dC dI hd hc a2 (gI + 4) (by omega) H.size d_21 (gI + 3) (by omega) 0) ⟨va_cnB 2 hts gX0_116 rfl rfl rfl (hN _ nn_116) (hts _ tb_3) (by decide +kernel) ⟨Nat.le_of_ble_eq_true rfl, Nat.le_of_ble_eq_true rfl⟩, hts _ tb_161, hts _ ts_18⟩ (xp_v nwL_ok (hK.sub (tys' := [(a2, .int)]) [1] rfl) hN hP hD [2, 3] rfl rfl (va_recv hK hP (ci := 1) (q0 := 2) rfl rfl)) rfl rfl hl.1 rfl (lv_room (Nat.le_of_ble_eq_true rfl)) dX0_carryOutIntent_102 ⟨Nat.zero_le _, Nat.zero_le _⟩) hP hD hS hA [2, 3] [0, 1] rfl rfl (by decide) (by decide) (fun u_24 H locs hw hP hD hS => ?_)
        obtain ⟨d_25, ed_25⟩ : ∃ z, z = dk_write d_21 (gI + 3) 0 := ⟨_, rfl⟩
        rw [hw, ← ed_25] at hP hD
        have hP : va_P (dC, dI) vwCl [(h0, .inr (0, [.int (nI gW), .int (nI gC), .int (nI gV), .int (nI gB), .ref hs, .int (nI gM), .int (nI gI), .ref hd])), (hs, .inl (a1, gW, .inl st)), (hd, .inr (1, [.ref hc, .int d_25.2.1, .int d_25.2.2.1, .int d_25.2.2.2.1, .int d_25.2.2.2.2])), (hc, .inl (a2, (gI + 4), .inl d_25.1))] H := hP
        have hD : va_D A [(h0, .inr (0, [.int (nI gW), .int (nI gC), .int (nI gV), .int (nI gB), .ref hs, .int (nI gM), .int (nI gI), .ref hd])), (hs, .inl (a1, gW, .inl st)), (hd, .inr (1, [.ref hc, .int d_25.2.1, .int d_25.2.2.1, .int d_25.2.2.2.1, .int d_25.2.2.2.2])), (hc, .inl (a2, (gI + 4), .inl d_25.1))] := hD
        exact W.vret hx hb hr (fun t ht hW => ⟨⟨(st, d_25), rfl, by unfold carry; rw [if_neg c_4, if_neg c_10, if_pos c_11, ev, eq9, nI_clamp (n := v) (by omega), nI_clamp (n := q) (by omega), ed_25, ed_21], by rw [ht]; exact hP, hD⟩, hS.F ht⟩) hS.2.2 dX0_carryOutIntent_105
    · obtain ⟨b, hb9, eb⟩ := (hok c_4).2.1 c_10
      have hl : lv_has ls 4 [(3, .int (nI b)), (2, .int (nI v)), (1, .int (d.1 (gI + 3))), (0, .ref h0)] := by have q9 := hl; rw [eb] at q9; exact q9
      refine lv_aload_n hx hb dX0_carryOutIntent_50 rfl (lv_at hl 3 rfl) ?_
      refine lv_iload_n hx hb dX0_carryOutIntent_51 rfl (lv_at hl 1 rfl) ?_
      refine lv_iload_n hx hb dX0_carryOutIntent_52 rfl (lv_at hl 0 rfl) ?_
      refine lv_aload_n hx hb dX0_carryOutIntent_53 rfl (lv_at hl 3 rfl) ?_
      refine va_get (D := (dC, dI)) (ci := 0) (v := .ref hd) (C := RX0) (T := TX0) (N := 8) hx hb hts inX0 hown hK hP 0 rfl rfl 7 (by decide) (hts _ tb_53) (fun _ h9 => h9) rfl dX0_carryOutIntent_54 ?_
      refine lv_aload_n hx hb dX0_carryOutIntent_57 rfl (lv_at hl 3 rfl) ?_
      refine va_get (D := (dC, dI)) (ci := 0) (v := .int (nI gI)) (C := RX0) (T := TX0) (N := 8) hx hb hts inX0 hown hK hP 0 rfl rfl 6 (by decide) (hts _ tb_52) (fun _ h9 => h9) rfl dX0_carryOutIntent_58 ?_
      refine lv_iconst (v := 2) hx hb dX0_carryOutIntent_61 (by decide) ?_
      refine lv_iadd hx hb dX0_carryOutIntent_62 ?_
      refine lv_topi (fun z_26 ez_26 => ?_)
      obtain rfl : z_26 = nI (gI + 2) := ez_26.trans (nI_add gI 2)
      refine xr_i (D := (dC, dI)) (wf := (dk_w hd hc a2 (gI + 4))) (u0 := d) (wr := [(h0, .inr (0, [.int (nI gW), .int (nI gC), .int (nI gV), .int (nI gB), .ref hs, .int (nI gM), .int (nI gI), .ref hd])), (hs, .inl (a1, gW, .inl st))]) (va_runVN (As := [.int (nI (gI + 2))]) (rest := [.int (nI b), .int (nI v), .ref h0]) ⟨hx, hb, hml, hown, hts⟩ (k_X1_read l dC dI hd hc a2 (gI + 4) (by omega) H.size d (gI + 2) (by omega)) ⟨va_cnB 1 hts gX0_80 rfl rfl rfl (hN _ nn_80) (hts _ tb_3) (by decide +kernel) ⟨Nat.le_of_ble_eq_true rfl, Nat.le_of_ble_eq_true rfl⟩, hts _ tb_125, hts _ ts_9⟩ (xp_v nwL_ok (hK.sub (tys' := [(a2, .int)]) [1] rfl) hN hP hD [2, 3] rfl rfl (va_recv hK hP (ci := 1) (q0 := 2) rfl rfl)) rfl rfl hl.1 rfl (lv_room (Nat.le_of_ble_eq_true rfl)) dX0_carryOutIntent_63 ⟨Nat.zero_le _, Nat.zero_le _⟩) hP hD hS hA [2, 3] [0, 1] rfl rfl (by decide) (by decide) (fun r_27 u_28 H locs hw hP hD hS => ?_)
      obtain ⟨er_27, eu_28⟩ := hw
      rw [eu_28] at hP hD
      rw [er_27]
      have hP : va_P (dC, dI) vwCl [(h0, .inr (0, [.int (nI gW), .int (nI gC), .int (nI gV), .int (nI gB), .ref hs, .int (nI gM), .int (nI gI), .ref hd])), (hs, .inl (a1, gW, .inl st)), (hd, .inr (1, [.ref hc, .int d.2.1, .int d.2.2.1, .int d.2.2.2.1, .int d.2.2.2.2])), (hc, .inl (a2, (gI + 4), .inl d.1))] H := hP
      have hD : va_D A [(h0, .inr (0, [.int (nI gW), .int (nI gC), .int (nI gV), .int (nI gB), .ref hs, .int (nI gM), .int (nI gI), .ref hd])), (hs, .inl (a1, gW, .inl st)), (hd, .inr (1, [.ref hc, .int d.2.1, .int d.2.2.1, .int d.2.2.2.1, .int d.2.2.2.2])), (hc, .inl (a2, (gI + 4), .inl d.1))] := hD
      refine xr_v (D := (dC, dI)) (wf := (xo_w h0 hs hd hc a1 a2 gW gC gV gB gM gI)) (u0 := (st, d)) (wr := []) (va_runV (As := [.int (nI v), .int (nI b), .int (d.1 (gI + 2))]) (rest := []) ⟨hx, hb, hml, hown, hts⟩ (k_X0_mapBlock l dC dI h0 hs hd hc a1 a2 gW gC gV gB gM gI hg H.size st d v b hv hb9 (d.1 (gI + 2))) (cwV 3 hts gX0_138 rfl rfl rfl (by decide +kernel) ⟨Nat.le_of_ble_eq_true rfl, Nat.le_of_ble_eq_true rfl⟩) (xp_v nwL_ok hK hN hP hD [0, 1, 2, 3] rfl rfl (va_recv hK hP (ci := 0) (q0 := 0) rfl rfl)) rfl rfl hl.1 rfl (lv_room (Nat.le_of_ble_eq_true rfl)) dX0_carryOutIntent_66 ⟨Nat.zero_le _, Nat.zero_le _⟩) hP hD hS hA [0, 1, 2, 3] [] rfl rfl (by decide) (by decide) (fun u_30 H locs hw hP hD hS => ?_)
      obtain ⟨d_31, ed_31⟩ : ∃ z, z = dk_write d (gM + v * gB + b) (d.1 (gI + 2) + 1) := ⟨_, rfl⟩
      rw [hw, ← ed_31] at hP hD
      have hP : va_P (dC, dI) vwCl [(h0, .inr (0, [.int (nI gW), .int (nI gC), .int (nI gV), .int (nI gB), .ref hs, .int (nI gM), .int (nI gI), .ref hd])), (hs, .inl (a1, gW, .inl st)), (hd, .inr (1, [.ref hc, .int d_31.2.1, .int d_31.2.2.1, .int d_31.2.2.2.1, .int d_31.2.2.2.2])), (hc, .inl (a2, (gI + 4), .inl d_31.1))] H := hP
      have hD : va_D A [(h0, .inr (0, [.int (nI gW), .int (nI gC), .int (nI gV), .int (nI gB), .ref hs, .int (nI gM), .int (nI gI), .ref hd])), (hs, .inl (a1, gW, .inl st)), (hd, .inr (1, [.ref hc, .int d_31.2.1, .int d_31.2.2.1, .int d_31.2.2.2.1, .int d_31.2.2.2.2])), (hc, .inl (a2, (gI + 4), .inl d_31.1))] := hD
      refine lv_goto (tgt := 91) hx hb dX0_carryOutIntent_69 (by decide) ?_
      refine lv_aload_n hx hb dX0_carryOutIntent_91 rfl (lv_at hl 3 rfl) ?_
      refine va_get (D := (dC, dI)) (ci := 0) (v := .ref hd) (C := RX0) (T := TX0) (N := 8) hx hb hts inX0 hown hK hP 0 rfl rfl 7 (by decide) (hts _ tb_53) (fun _ h9 => h9) rfl dX0_carryOutIntent_92 ?_
      refine lv_aload_n hx hb dX0_carryOutIntent_95 rfl (lv_at hl 3 rfl) ?_
      refine va_get (D := (dC, dI)) (ci := 0) (v := .int (nI gI)) (C := RX0) (T := TX0) (N := 8) hx hb hts inX0 hown hK hP 0 rfl rfl 6 (by decide) (hts _ tb_52) (fun _ h9 => h9) rfl dX0_carryOutIntent_96 ?_
      refine lv_iconst (v := 3) hx hb dX0_carryOutIntent_99 (by decide) ?_
      refine lv_iadd hx hb dX0_carryOutIntent_100 ?_
      refine lv_topi (fun z_32 ez_32 => ?_)
      obtain rfl : z_32 = nI (gI + 3) := ez_32.trans (nI_add gI 3)
      refine lv_iconst (v := 0) hx hb dX0_carryOutIntent_101 (by decide) ?_
      refine xr_v (D := (dC, dI)) (wf := (dk_w hd hc a2 (gI + 4))) (u0 := d_31) (wr := [(h0, .inr (0, [.int (nI gW), .int (nI gC), .int (nI gV), .int (nI gB), .ref hs, .int (nI gM), .int (nI gI), .ref hd])), (hs, .inl (a1, gW, .inl st))]) (va_runVN (As := [.int (nI (gI + 3)), .int 0]) (rest := []) ⟨hx, hb, hml, hown, hts⟩ (k_X1_write l dC dI hd hc a2 (gI + 4) (by omega) H.size d_31 (gI + 3) (by omega) 0) ⟨va_cnB 2 hts gX0_116 rfl rfl rfl (hN _ nn_116) (hts _ tb_3) (by decide +kernel) ⟨Nat.le_of_ble_eq_true rfl, Nat.le_of_ble_eq_true rfl⟩, hts _ tb_161, hts _ ts_18⟩ (xp_v nwL_ok (hK.sub (tys' := [(a2, .int)]) [1] rfl) hN hP hD [2, 3] rfl rfl (va_recv hK hP (ci := 1) (q0 := 2) rfl rfl)) rfl rfl hl.1 rfl (lv_room (Nat.le_of_ble_eq_true rfl)) dX0_carryOutIntent_102 ⟨Nat.zero_le _, Nat.zero_le _⟩) hP hD hS hA [2, 3] [0, 1] rfl rfl (by decide) (by decide) (fun u_34 H locs hw hP hD hS => ?_)
      obtain ⟨d_35, ed_35⟩ : ∃ z, z = dk_write d_31 (gI + 3) 0 := ⟨_, rfl⟩
      rw [hw, ← ed_35] at hP hD
      have hP : va_P (dC, dI) vwCl [(h0, .inr (0, [.int (nI gW), .int (nI gC), .int (nI gV), .int (nI gB), .ref hs, .int (nI gM), .int (nI gI), .ref hd])), (hs, .inl (a1, gW, .inl st)), (hd, .inr (1, [.ref hc, .int d_35.2.1, .int d_35.2.2.1, .int d_35.2.2.2.1, .int d_35.2.2.2.2])), (hc, .inl (a2, (gI + 4), .inl d_35.1))] H := hP
      have hD : va_D A [(h0, .inr (0, [.int (nI gW), .int (nI gC), .int (nI gV), .int (nI gB), .ref hs, .int (nI gM), .int (nI gI), .ref hd])), (hs, .inl (a1, gW, .inl st)), (hd, .inr (1, [.ref hc, .int d_35.2.1, .int d_35.2.2.1, .int d_35.2.2.2.1, .int d_35.2.2.2.2])), (hc, .inl (a2, (gI + 4), .inl d_35.1))] := hD
      exact W.vret hx hb hr (fun t ht hW => ⟨⟨(st, d_35), rfl, by unfold carry; rw [if_neg c_4, if_pos c_10, ev, eb, nI_clamp (n := v) (by omega), nI_clamp (n := b) (by omega), ed_35, ed_31], by rw [ht]; exact hP, hD⟩, hS.F ht⟩) hS.2.2 dX0_carryOutIntent_105
  · exact W.vret hx hb hr (fun t ht hW => ⟨⟨(st, d), rfl, by unfold carry; rw [if_pos c_4], by rw [ht]; exact hP, hD⟩, hS.F ht⟩) hS.2.2 dX0_carryOutIntent_18
set_option maxHeartbeats 4000000 in
set_option maxRecDepth 100000 in
theorem k_X0_change (l : Launch) (dC : Nat → ClassId) (dI : Nat → Nat → Nat) (h0 hs hd hc : Nat) (a1 a2 : ClassId) (gW gC gV gB gM gI : Nat) (hg : geo gW gC gV gB gM gI) (sz : Nat) (st : Nat → Int32) (d : DS) (hz : d.2.2.2.2 = 0 ∨ d.2.2.2.2 = 1) (hk0 : d.1 (gI + 3) = 0) (kd : Int32) (v o : Nat) (hv : v < gV) (ho : okO kd o gV gB) (sl : Int32) : ctI nwL l yX0_change wsX0_change ({ frames := 4, cells := 0, slots := 0, locals := 91 } : Room) (dC, dI) [(a1, .int), (a2, .int)] (xo_w h0 hs hd hc a1 a2 gW gC gV gB gM gI) (st, d) sz [.ref h0, .int kd, .int (nI v), .int (nI o), .int sl] (fun (r : Int32) (u : XS) => r = ans (chg d gM gB gI kd v o sl) ∧ u = (st, chg d gM gB gI kd v o sl)) := by
  refine Met.ofW (cc := cX0_change) (maxL := 5) (ret := (some .int)) (by decide) rfl ?_
  intro p e s m args below meth c s₁ B hml hv
  obtain ⟨rfl, hsz, hP, hK, hD0, hN⟩ := hv
  have hx := B.exec
  have hb := B.bytes
  have hr := B.returns
  have hts := fun w h => atoms_spec (ws := wsX0_change) B.pre w (List.mem_cons_of_mem _ h)
  have hown : s.vm.findClass RX0 = some m.cls := findClass_of_methodNamed B.named
  have hlocks := B.notSynchronized
  subst hsz
  have hD := hD0.self (sz := s.heap.size)
  generalize hAe : va_A ((xo_w h0 hs hd hc a1 a2 gW gC gV gB gM gI) (st, d)) s.heap.size = A at hD ⊢
  have hA : ∀ q : Nat, s.heap.size ≤ q → A q := fun q h => by rw [← hAe]; exact Or.inr h
  have hS : va_S A s.heap s.heap [] := va_S.rf
  have hl := lv_entry ([.ref h0, .int kd, .int (nI v), .int (nI o), .int sl]) (n := 5) (Nat.le_of_ble_eq_true rfl)
  rw [lg_entry_eq]
  generalize (lg_sl ([.ref h0, .int kd, .int (nI v), .int (nI o), .int sl]) ++ List.replicate (5 - (lg_sl ([.ref h0, .int kd, .int (nI v), .int (nI o), .int sl])).length) Slot.unset).toArray = ls at hl ⊢
  have hP : va_P (dC, dI) vwCl [(h0, .inr (0, [.int (nI gW), .int (nI gC), .int (nI gV), .int (nI gB), .ref hs, .int (nI gM), .int (nI gI), .ref hd])), (hs, .inl (a1, gW, .inl st)), (hd, .inr (1, [.ref hc, .int d.2.1, .int d.2.2.1, .int d.2.2.2.1, .int d.2.2.2.2])), (hc, .inl (a2, (gI + 4), .inl d.1))] s.heap := hP
  have hD : va_D A [(h0, .inr (0, [.int (nI gW), .int (nI gC), .int (nI gV), .int (nI gB), .ref hs, .int (nI gM), .int (nI gI), .ref hd])), (hs, .inl (a1, gW, .inl st)), (hd, .inr (1, [.ref hc, .int d.2.1, .int d.2.2.1, .int d.2.2.2.1, .int d.2.2.2.2])), (hc, .inl (a2, (gI + 4), .inl d.1))] := hD
  have hl : lv_has ls 5 [(0, .ref h0), (1, .int kd), (2, .int (nI v)), (3, .int (nI o)), (4, .int sl)] := hl
  obtain ⟨⟨hW1, hW2⟩, ⟨hC1, hC2⟩, ⟨hV1, hV2⟩, ⟨hB1, hB2⟩, eM, eI⟩ := id hg
  obtain ⟨hM2, hq2⟩ := geo_b hg
  refine lv_aload_n hx hb dX0_change_0 rfl (lv_at hl 0 rfl) ?_
  refine va_get (D := (dC, dI)) (ci := 0) (v := .ref hd) (C := RX0) (T := TX0) (N := 8) hx hb hts inX0 hown hK hP 0 rfl rfl 7 (by decide) (hts _ tb_53) (fun _ h9 => h9) rfl dX0_change_1 ?_
  refine lv_aload_n hx hb dX0_change_4 rfl (lv_at hl 0 rfl) ?_
  refine va_get (D := (dC, dI)) (ci := 0) (v := .int (nI gI)) (C := RX0) (T := TX0) (N := 8) hx hb hts inX0 hown hK hP 0 rfl rfl 6 (by decide) (hts _ tb_52) (fun _ h9 => h9) rfl dX0_change_5 ?_
  refine lv_iload_n hx hb dX0_change_8 rfl (lv_at hl 2 rfl) ?_
  refine xr_v (D := (dC, dI)) (wf := (dk_w hd hc a2 (gI + 4))) (u0 := d) (wr := [(h0, .inr (0, [.int (nI gW), .int (nI gC), .int (nI gV), .int (nI gB), .ref hs, .int (nI gM), .int (nI gI), .ref hd])), (hs, .inl (a1, gW, .inl st))]) (va_runVN (As := [.int (nI gI), .int (nI v)]) (rest := []) ⟨hx, hb, hml, hown, hts⟩ (k_X1_write l dC dI hd hc a2 (gI + 4) (by omega) s.heap.size d (gI) (by omega) (nI v)) ⟨va_cnB 2 hts gX0_116 rfl rfl rfl (hN _ nn_116) (hts _ tb_3) (by decide +kernel) ⟨Nat.le_of_ble_eq_true rfl, Nat.le_of_ble_eq_true rfl⟩, hts _ tb_161, hts _ ts_18⟩ (xp_v nwL_ok (hK.sub (tys' := [(a2, .int)]) [1] rfl) hN hP hD [2, 3] rfl rfl (va_recv hK hP (ci := 1) (q0 := 2) rfl rfl)) rfl rfl hl.1 rfl (lv_room (Nat.le_of_ble_eq_true rfl)) dX0_change_9 ⟨Nat.zero_le _, Nat.zero_le _⟩) hP hD hS hA [2, 3] [0, 1] rfl rfl (by decide) (by decide) (fun u_2 H locs hw hP hD hS => ?_)
  obtain ⟨d_3, ed_3⟩ : ∃ z, z = dk_write d (gI) (nI v) := ⟨_, rfl⟩
  rw [hw, ← ed_3] at hP hD
  have hP : va_P (dC, dI) vwCl [(h0, .inr (0, [.int (nI gW), .int (nI gC), .int (nI gV), .int (nI gB), .ref hs, .int (nI gM), .int (nI gI), .ref hd])), (hs, .inl (a1, gW, .inl st)), (hd, .inr (1, [.ref hc, .int d_3.2.1, .int d_3.2.2.1, .int d_3.2.2.2.1, .int d_3.2.2.2.2])), (hc, .inl (a2, (gI + 4), .inl d_3.1))] H := hP
  have hD : va_D A [(h0, .inr (0, [.int (nI gW), .int (nI gC), .int (nI gV), .int (nI gB), .ref hs, .int (nI gM), .int (nI gI), .ref hd])), (hs, .inl (a1, gW, .inl st)), (hd, .inr (1, [.ref hc, .int d_3.2.1, .int d_3.2.2.1, .int d_3.2.2.2.1, .int d_3.2.2.2.2])), (hc, .inl (a2, (gI + 4), .inl d_3.1))] := hD
  refine lv_aload_n hx hb dX0_change_12 rfl (lv_at hl 0 rfl) ?_
  refine va_get (D := (dC, dI)) (ci := 0) (v := .ref hd) (C := RX0) (T := TX0) (N := 8) hx hb hts inX0 hown hK hP 0 rfl rfl 7 (by decide) (hts _ tb_53) (fun _ h9 => h9) rfl dX0_change_13 ?_
  refine lv_aload_n hx hb dX0_change_16 rfl (lv_at hl 0 rfl) ?_
  refine va_get (D := (dC, dI)) (ci := 0) (v := .int (nI gI)) (C := RX0) (T := TX0) (N := 8) hx hb hts inX0 hown hK hP 0 rfl rfl 6 (by decide) (hts _ tb_52) (fun _ h9 => h9) rfl dX0_change_17 ?_
  refine lv_iconst (v := 1) hx hb dX0_change_20 (by decide) ?_
  refine lv_iadd hx hb dX0_change_21 ?_
  refine lv_topi (fun z_4 ez_4 => ?_)
  obtain rfl : z_4 = nI (gI + 1) := ez_4.trans (nI_1 gI)
  refine lv_iload_n hx hb dX0_change_22 rfl (lv_at hl 3 rfl) ?_
  refine xr_v (D := (dC, dI)) (wf := (dk_w hd hc a2 (gI + 4))) (u0 := d_3) (wr := [(h0, .inr (0, [.int (nI gW), .int (nI gC), .int (nI gV), .int (nI gB), .ref hs, .int (nI gM), .int (nI gI), .ref hd])), (hs, .inl (a1, gW, .inl st))]) (va_runVN (As := [.int (nI (gI + 1)), .int (nI o)]) (rest := []) ⟨hx, hb, hml, hown, hts⟩ (k_X1_write l dC dI hd hc a2 (gI + 4) (by omega) H.size d_3 (gI + 1) (by omega) (nI o)) ⟨va_cnB 2 hts gX0_116 rfl rfl rfl (hN _ nn_116) (hts _ tb_3) (by decide +kernel) ⟨Nat.le_of_ble_eq_true rfl, Nat.le_of_ble_eq_true rfl⟩, hts _ tb_161, hts _ ts_18⟩ (xp_v nwL_ok (hK.sub (tys' := [(a2, .int)]) [1] rfl) hN hP hD [2, 3] rfl rfl (va_recv hK hP (ci := 1) (q0 := 2) rfl rfl)) rfl rfl hl.1 rfl (lv_room (Nat.le_of_ble_eq_true rfl)) dX0_change_23 ⟨Nat.zero_le _, Nat.zero_le _⟩) hP hD hS hA [2, 3] [0, 1] rfl rfl (by decide) (by decide) (fun u_6 H locs hw hP hD hS => ?_)
  obtain ⟨d_7, ed_7⟩ : ∃ z, z = dk_write d_3 (gI + 1) (nI o) := ⟨_, rfl⟩
  rw [hw, ← ed_7] at hP hD
  have hP : va_P (dC, dI) vwCl [(h0, .inr (0, [.int (nI gW), .int (nI gC), .int (nI gV), .int (nI gB), .ref hs, .int (nI gM), .int (nI gI), .ref hd])), (hs, .inl (a1, gW, .inl st)), (hd, .inr (1, [.ref hc, .int d_7.2.1, .int d_7.2.2.1, .int d_7.2.2.2.1, .int d_7.2.2.2.2])), (hc, .inl (a2, (gI + 4), .inl d_7.1))] H := hP
  have hD : va_D A [(h0, .inr (0, [.int (nI gW), .int (nI gC), .int (nI gV), .int (nI gB), .ref hs, .int (nI gM), .int (nI gI), .ref hd])), (hs, .inl (a1, gW, .inl st)), (hd, .inr (1, [.ref hc, .int d_7.2.1, .int d_7.2.2.1, .int d_7.2.2.2.1, .int d_7.2.2.2.2])), (hc, .inl (a2, (gI + 4), .inl d_7.1))] := hD
  refine lv_aload_n hx hb dX0_change_26 rfl (lv_at hl 0 rfl) ?_
  refine va_get (D := (dC, dI)) (ci := 0) (v := .ref hd) (C := RX0) (T := TX0) (N := 8) hx hb hts inX0 hown hK hP 0 rfl rfl 7 (by decide) (hts _ tb_53) (fun _ h9 => h9) rfl dX0_change_27 ?_
  refine lv_aload_n hx hb dX0_change_30 rfl (lv_at hl 0 rfl) ?_
  refine va_get (D := (dC, dI)) (ci := 0) (v := .int (nI gI)) (C := RX0) (T := TX0) (N := 8) hx hb hts inX0 hown hK hP 0 rfl rfl 6 (by decide) (hts _ tb_52) (fun _ h9 => h9) rfl dX0_change_31 ?_
  refine lv_iconst (v := 2) hx hb dX0_change_34 (by decide) ?_
  refine lv_iadd hx hb dX0_change_35 ?_
  refine lv_topi (fun z_8 ez_8 => ?_)
  obtain rfl : z_8 = nI (gI + 2) := ez_8.trans (nI_add gI 2)
  refine lv_iload hx hb dX0_change_36 (lv_at hl 4 rfl) ?_
  refine xr_v (D := (dC, dI)) (wf := (dk_w hd hc a2 (gI + 4))) (u0 := d_7) (wr := [(h0, .inr (0, [.int (nI gW), .int (nI gC), .int (nI gV), .int (nI gB), .ref hs, .int (nI gM), .int (nI gI), .ref hd])), (hs, .inl (a1, gW, .inl st))]) (va_runVN (As := [.int (nI (gI + 2)), .int sl]) (rest := []) ⟨hx, hb, hml, hown, hts⟩ (k_X1_write l dC dI hd hc a2 (gI + 4) (by omega) H.size d_7 (gI + 2) (by omega) (sl)) ⟨va_cnB 2 hts gX0_116 rfl rfl rfl (hN _ nn_116) (hts _ tb_3) (by decide +kernel) ⟨Nat.le_of_ble_eq_true rfl, Nat.le_of_ble_eq_true rfl⟩, hts _ tb_161, hts _ ts_18⟩ (xp_v nwL_ok (hK.sub (tys' := [(a2, .int)]) [1] rfl) hN hP hD [2, 3] rfl rfl (va_recv hK hP (ci := 1) (q0 := 2) rfl rfl)) rfl rfl hl.1 rfl (lv_room (Nat.le_of_ble_eq_true rfl)) dX0_change_38 ⟨Nat.zero_le _, Nat.zero_le _⟩) hP hD hS hA [2, 3] [0, 1] rfl rfl (by decide) (by decide) (fun u_10 H locs hw hP hD hS => ?_)
  obtain ⟨d_11, ed_11⟩ : ∃ z, z = dk_write d_7 (gI + 2) (sl) := ⟨_, rfl⟩
  rw [hw, ← ed_11] at hP hD
  have hP : va_P (dC, dI) vwCl [(h0, .inr (0, [.int (nI gW), .int (nI gC), .int (nI gV), .int (nI gB), .ref hs, .int (nI gM), .int (nI gI), .ref hd])), (hs, .inl (a1, gW, .inl st)), (hd, .inr (1, [.ref hc, .int d_11.2.1, .int d_11.2.2.1, .int d_11.2.2.2.1, .int d_11.2.2.2.2])), (hc, .inl (a2, (gI + 4), .inl d_11.1))] H := hP
  have hD : va_D A [(h0, .inr (0, [.int (nI gW), .int (nI gC), .int (nI gV), .int (nI gB), .ref hs, .int (nI gM), .int (nI gI), .ref hd])), (hs, .inl (a1, gW, .inl st)), (hd, .inr (1, [.ref hc, .int d_11.2.1, .int d_11.2.2.1, .int d_11.2.2.2.1, .int d_11.2.2.2.2])), (hc, .inl (a2, (gI + 4), .inl d_11.1))] := hD
  refine lv_aload_n hx hb dX0_change_41 rfl (lv_at hl 0 rfl) ?_
  refine va_get (D := (dC, dI)) (ci := 0) (v := .ref hd) (C := RX0) (T := TX0) (N := 8) hx hb hts inX0 hown hK hP 0 rfl rfl 7 (by decide) (hts _ tb_53) (fun _ h9 => h9) rfl dX0_change_42 ?_
  refine lv_aload_n hx hb dX0_change_45 rfl (lv_at hl 0 rfl) ?_
  refine va_get (D := (dC, dI)) (ci := 0) (v := .int (nI gI)) (C := RX0) (T := TX0) (N := 8) hx hb hts inX0 hown hK hP 0 rfl rfl 6 (by decide) (hts _ tb_52) (fun _ h9 => h9) rfl dX0_change_46 ?_
  refine lv_iconst (v := 3) hx hb dX0_change_49 (by decide) ?_
  refine lv_iadd hx hb dX0_change_50 ?_
  refine lv_topi (fun z_12 ez_12 => ?_)
  obtain rfl : z_12 = nI (gI + 3) := ez_12.trans (nI_add gI 3)
  refine lv_iload_n hx hb dX0_change_51 rfl (lv_at hl 1 rfl) ?_
  refine xr_v (D := (dC, dI)) (wf := (dk_w hd hc a2 (gI + 4))) (u0 := d_11) (wr := [(h0, .inr (0, [.int (nI gW), .int (nI gC), .int (nI gV), .int (nI gB), .ref hs, .int (nI gM), .int (nI gI), .ref hd])), (hs, .inl (a1, gW, .inl st))]) (va_runVN (As := [.int (nI (gI + 3)), .int kd]) (rest := []) ⟨hx, hb, hml, hown, hts⟩ (k_X1_write l dC dI hd hc a2 (gI + 4) (by omega) H.size d_11 (gI + 3) (by omega) (kd)) ⟨va_cnB 2 hts gX0_116 rfl rfl rfl (hN _ nn_116) (hts _ tb_3) (by decide +kernel) ⟨Nat.le_of_ble_eq_true rfl, Nat.le_of_ble_eq_true rfl⟩, hts _ tb_161, hts _ ts_18⟩ (xp_v nwL_ok (hK.sub (tys' := [(a2, .int)]) [1] rfl) hN hP hD [2, 3] rfl rfl (va_recv hK hP (ci := 1) (q0 := 2) rfl rfl)) rfl rfl hl.1 rfl (lv_room (Nat.le_of_ble_eq_true rfl)) dX0_change_52 ⟨Nat.zero_le _, Nat.zero_le _⟩) hP hD hS hA [2, 3] [0, 1] rfl rfl (by decide) (by decide) (fun u_14 H locs hw hP hD hS => ?_)
  obtain ⟨d_15, ed_15⟩ : ∃ z, z = dk_write d_11 (gI + 3) (kd) := ⟨_, rfl⟩
  rw [hw, ← ed_15] at hP hD
  have hP : va_P (dC, dI) vwCl [(h0, .inr (0, [.int (nI gW), .int (nI gC), .int (nI gV), .int (nI gB), .ref hs, .int (nI gM), .int (nI gI), .ref hd])), (hs, .inl (a1, gW, .inl st)), (hd, .inr (1, [.ref hc, .int d_15.2.1, .int d_15.2.2.1, .int d_15.2.2.2.1, .int d_15.2.2.2.2])), (hc, .inl (a2, (gI + 4), .inl d_15.1))] H := hP
  have hD : va_D A [(h0, .inr (0, [.int (nI gW), .int (nI gC), .int (nI gV), .int (nI gB), .ref hs, .int (nI gM), .int (nI gI), .ref hd])), (hs, .inl (a1, gW, .inl st)), (hd, .inr (1, [.ref hc, .int d_15.2.1, .int d_15.2.2.1, .int d_15.2.2.2.1, .int d_15.2.2.2.2])), (hc, .inl (a2, (gI + 4), .inl d_15.1))] := hD
  refine lv_aload_n hx hb dX0_change_55 rfl (lv_at hl 0 rfl) ?_
  have e4 : d_15 = int4 d gI kd v o sl := by unfold int4; rw [ed_15, ed_11, ed_7, ed_3]
  have hk4 : okI d_15 gV gB gI := by rw [e4]; exact int4_ok hk0 hv ho
  refine xr_v (D := (dC, dI)) (wf := (xo_w h0 hs hd hc a1 a2 gW gC gV gB gM gI)) (u0 := (st, d_15)) (wr := []) (va_runV (As := []) (rest := []) ⟨hx, hb, hml, hown, hts⟩ (k_X0_carryOutIntent l dC dI h0 hs hd hc a1 a2 gW gC gV gB gM gI hg H.size st d_15 hk4) (cwV 0 hts gX0_99 rfl rfl rfl (by decide +kernel) ⟨Nat.le_of_ble_eq_true rfl, Nat.le_of_ble_eq_true rfl⟩) (xp_v nwL_ok hK hN hP hD [0, 1, 2, 3] rfl rfl (va_recv hK hP (ci := 0) (q0 := 0) rfl rfl)) rfl rfl hl.1 rfl (lv_room (Nat.le_of_ble_eq_true rfl)) dX0_change_56 ⟨Nat.zero_le _, Nat.zero_le _⟩) hP hD hS hA [0, 1, 2, 3] [] rfl rfl (by decide) (by decide) (fun u_17 H locs hw hP hD hS => ?_)
  obtain ⟨d_18, ed_18⟩ : ∃ z, z = carry d_15 gM gB gI := ⟨_, rfl⟩
  rw [hw, ← ed_18] at hP hD
  have hP : va_P (dC, dI) vwCl [(h0, .inr (0, [.int (nI gW), .int (nI gC), .int (nI gV), .int (nI gB), .ref hs, .int (nI gM), .int (nI gI), .ref hd])), (hs, .inl (a1, gW, .inl st)), (hd, .inr (1, [.ref hc, .int d_18.2.1, .int d_18.2.2.1, .int d_18.2.2.2.1, .int d_18.2.2.2.2])), (hc, .inl (a2, (gI + 4), .inl d_18.1))] H := hP
  have hD : va_D A [(h0, .inr (0, [.int (nI gW), .int (nI gC), .int (nI gV), .int (nI gB), .ref hs, .int (nI gM), .int (nI gI), .ref hd])), (hs, .inl (a1, gW, .inl st)), (hd, .inr (1, [.ref hc, .int d_18.2.1, .int d_18.2.2.1, .int d_18.2.2.2.1, .int d_18.2.2.2.2])), (hc, .inl (a2, (gI + 4), .inl d_18.1))] := hD
  have e5 : d_18 = chg d gM gB gI kd v o sl := by unfold chg; rw [ed_18, e4]
  have hz5 : d_18.2.2.2.2 = 0 ∨ d_18.2.2.2.2 = 1 := by rw [e5]; exact chg_z hz
  refine lv_aload_n hx hb dX0_change_59 rfl (lv_at hl 0 rfl) ?_
  refine va_get (D := (dC, dI)) (ci := 0) (v := .ref hd) (C := RX0) (T := TX0) (N := 8) hx hb hts inX0 hown hK hP 0 rfl rfl 7 (by decide) (hts _ tb_53) (fun _ h9 => h9) rfl dX0_change_60 ?_
  refine xr_i (D := (dC, dI)) (wf := (dk_w hd hc a2 (gI + 4))) (u0 := d_18) (wr := [(h0, .inr (0, [.int (nI gW), .int (nI gC), .int (nI gV), .int (nI gB), .ref hs, .int (nI gM), .int (nI gI), .ref hd])), (hs, .inl (a1, gW, .inl st))]) (va_runVN (As := []) (rest := []) ⟨hx, hb, hml, hown, hts⟩ (k_X1_isDown l dC dI hd hc a2 (gI + 4) (by omega) H.size d_18 hz5) ⟨va_cnB 0 hts gX0_51 rfl rfl rfl (hN _ nn_51) (hts _ tb_3) (by decide +kernel) ⟨Nat.le_of_ble_eq_true rfl, Nat.le_of_ble_eq_true rfl⟩, hts _ tb_93, hts _ ts_2⟩ (xp_v nwL_ok (hK.sub (tys' := [(a2, .int)]) [1] rfl) hN hP hD [2, 3] rfl rfl (va_recv hK hP (ci := 1) (q0 := 2) rfl rfl)) rfl rfl hl.1 rfl (lv_room (Nat.le_of_ble_eq_true rfl)) dX0_change_63 ⟨Nat.zero_le _, Nat.zero_le _⟩) hP hD hS hA [2, 3] [0, 1] rfl rfl (by decide) (by decide) (fun r_19 u_20 H locs hw hP hD hS => ?_)
  obtain ⟨er_19, eu_20⟩ := hw
  rw [eu_20] at hP hD
  rw [er_19]
  have hP : va_P (dC, dI) vwCl [(h0, .inr (0, [.int (nI gW), .int (nI gC), .int (nI gV), .int (nI gB), .ref hs, .int (nI gM), .int (nI gI), .ref hd])), (hs, .inl (a1, gW, .inl st)), (hd, .inr (1, [.ref hc, .int d_18.2.1, .int d_18.2.2.1, .int d_18.2.2.2.1, .int d_18.2.2.2.2])), (hc, .inl (a2, (gI + 4), .inl d_18.1))] H := hP
  have hD : va_D A [(h0, .inr (0, [.int (nI gW), .int (nI gC), .int (nI gV), .int (nI gB), .ref hs, .int (nI gM), .int (nI gI), .ref hd])), (hs, .inl (a1, gW, .inl st)), (hd, .inr (1, [.ref hc, .int d_18.2.1, .int d_18.2.2.1, .int d_18.2.2.2.1, .int d_18.2.2.2.2])), (hc, .inl (a2, (gI + 4), .inl d_18.1))] := hD
  refine lv_if_eq (tgt := 74) hx hb dX0_change_66 (by decide) (fun c_21 => ?_) (fun c_21 => ?_)
  · refine lv_iconst (v := 0) hx hb dX0_change_74 (by decide) ?_
    exact W.iret (v := 0) hx hb hr (fun t ht hW => ⟨⟨0, (st, d_18), rfl, ⟨by rw [← e5]; unfold ans; rw [if_pos c_21], by rw [← e5]⟩, by rw [ht]; exact hP, hD⟩, hS.F ht⟩) hS.2.2 dX0_change_75
  · refine lv_bipush (v := (-4)) hx hb dX0_change_69 (by decide) ?_
    refine lv_goto (tgt := 75) hx hb dX0_change_71 (by decide) ?_
    exact W.iret (v := (-4)) hx hb hr (fun t ht hW => ⟨⟨(-4), (st, d_18), rfl, ⟨by rw [← e5]; unfold ans; rw [if_neg c_21], by rw [← e5]⟩, by rw [ht]; exact hP, hD⟩, hS.F ht⟩) hS.2.2 dX0_change_75
end
section
set_option maxHeartbeats 4000000 in
set_option maxRecDepth 100000 in
theorem lp_J0_fill_5 {p : Program} {l : Launch} {e : Env} {s : State} {m : MethodId} {args : Array Value} {below : List Frame} {meth : Method} {c : Code} {Q : State → Prop} {A : Nat → Prop} {dC : Nat → ClassId} {dI : Nat → Nat → Nat} (ha : Nat) (cA : ClassId) (n : Nat) (hn : n < 2 ^ 31) (f : Nat → Int32) (v : Int32) (hx : p.tables.exec = Jvm.exec) (hb : c.code = cJ0_fill) (hK : va_K (dC, dI) vwCl [(cA, .int)] s) (K : ∀ (H : Heap) (locs : List Loc) (ls : Array Slot), va_P (dC, dI) vwCl (ar_w ha cA n (fillN f n v)) H → va_D A (ar_w ha cA n (fillN f n v)) → va_S A s.heap H locs → lv_has ls 4 [(0, .ref ha)] → W p l e ({ frames := 0, cells := 0, slots := 0, locals := 0 } : Room) s m args below meth c H locs 0 0 Q (F0 m 20 ls [])) : ∀ (g i : Nat) (H : Heap) (locs : List Loc) (ls : Array Slot), n - i < g → i ≤ n → va_P (dC, dI) vwCl (ar_w ha cA n (fillN f i v)) H → va_D A (ar_w ha cA n (fillN f i v)) → va_S A s.heap H locs → lv_has ls 4 [(0, .ref ha), (1, .int v), (2, .int (nI i)), (3, .int (nI n))] → W p l e ({ frames := 0, cells := 0, slots := 0, locals := 0 } : Room) s m args below meth c H locs 0 0 Q (F0 m 5 ls []) := by
  intro g
  induction g with
  | zero => intro i H locs ls hfu; exact absurd hfu (by omega)
  | succ g ih =>
    intro i H locs ls hfu hi hP hD hS hl
    have hP : va_P (dC, dI) vwCl [(ha, .inl (cA, n, .inl (fillN f i v)))] H := hP
    have hD : va_D A [(ha, .inl (cA, n, .inl (fillN f i v)))] := hD
    refine lv_iload_n hx hb dJ0_fill_5 rfl (lv_at hl 2 rfl) ?_
    refine lv_iload_n hx hb dJ0_fill_6 rfl (lv_at hl 3 rfl) ?_
    refine lv_icmp_ge (tgt := 20) hx hb dJ0_fill_7 (by decide) (fun c_1 => ?_) (fun c_1 => ?_)
    · have c_1 : n ≤ i := (nI_leI (a := n) (b := i) (by omega) (by omega)).mp c_1
      have hie : i = n := by omega
      rw [hie] at hP hD
      exact K _ _ _ hP hD hS (lv_sub hl [0] rfl)
    · have c_1 : ¬ (n ≤ i) := fun q9 => c_1 ((nI_leI (a := n) (b := i) (by omega) (by omega)).mpr q9)
      refine lv_aload_n hx hb dJ0_fill_10 rfl (lv_at hl 0 rfl) ?_
      refine lv_iload_n hx hb dJ0_fill_11 rfl (lv_at hl 2 rfl) ?_
      refine lv_iload_n hx hb dJ0_fill_12 rfl (lv_at hl 1 rfl) ?_
      refine va_iast hx hb hK hP hD hS 0 0 rfl rfl (vp_in_nI (n := i) (by omega) (by omega)) dJ0_fill_13 (fun H locs hP hD hS => ?_)
      have hP : va_P (dC, dI) vwCl [(ha, .inl (cA, n, .inl (upd (fillN f i v) (nI i).toNatClampNeg v)))] H := hP
      have hD : va_D A [(ha, .inl (cA, n, .inl (upd (fillN f i v) (nI i).toNatClampNeg v)))] := hD
      rw [nI_clamp (n := i) (by omega)] at hP hD
      refine lv_iinc (v := nI (i + 1)) (lv' := [(2, .int (nI (i + 1))), (0, .ref ha), (1, .int v), (3, .int (nI n))]) hx hb dJ0_fill_14 hl (k := 2) rfl (nI_1 i) (by decide) rfl (fun ls hl => ?_)
      rw [fillN_s] at hP hD
      refine lv_goto (tgt := 5) hx hb dJ0_fill_17 (by decide) ?_
      exact ih (i + 1) _ _ _ (by omega) (by omega) hP hD hS (lv_sub hl [1, 2, 0, 3] rfl)
set_option maxHeartbeats 4000000 in
set_option maxRecDepth 100000 in
theorem k_J0_fill (l : Launch) (dC : Nat → ClassId) (dI : Nat → Nat → Nat) (ha : Nat) (cA : ClassId) (n : Nat) (hn : n < 2 ^ 31) (sz : Nat) (f : Nat → Int32) (v : Int32) : ctV nwL l yJ0_fill wsJ0_fill ({ frames := 0, cells := 0, slots := 0, locals := 0 } : Room) (dC, dI) [(cA, .int)] (ar_w ha cA n) f sz [.ref ha, .int v] (fun u => u = fillN f n v) := by
  refine Met.ofW (cc := cJ0_fill) (maxL := 4) (ret := none) (by decide) rfl ?_
  intro p e s m args below meth c s₁ B hml hv
  obtain ⟨rfl, hsz, hP, hK, hD0, hN⟩ := hv
  have hx := B.exec
  have hb := B.bytes
  have hr := B.returns
  have hts := fun w h => atoms_spec (ws := wsJ0_fill) B.pre w (List.mem_cons_of_mem _ h)
  have hlocks := B.notSynchronized
  subst hsz
  have hD := hD0.self (sz := s.heap.size)
  generalize hAe : va_A (ar_w ha cA n f) s.heap.size = A at hD ⊢
  have hA : ∀ q : Nat, s.heap.size ≤ q → A q := fun q h => by rw [← hAe]; exact Or.inr h
  have hS : va_S A s.heap s.heap [] := va_S.rf
  have hl := lv_entry ([.ref ha, .int v]) (n := 4) (Nat.le_of_ble_eq_true rfl)
  rw [lg_entry_eq]
  generalize (lg_sl ([.ref ha, .int v]) ++ List.replicate (4 - (lg_sl ([.ref ha, .int v])).length) Slot.unset).toArray = ls at hl ⊢
  have hP : va_P (dC, dI) vwCl [(ha, .inl (cA, n, .inl f))] s.heap := hP
  have hD : va_D A [(ha, .inl (cA, n, .inl f))] := hD
  have hl : lv_has ls 4 [(0, .ref ha), (1, .int v)] := hl
  refine lv_iconst (v := 0) hx hb dJ0_fill_0 (by decide) ?_
  refine lv_istore_n (lv' := [(2, .int 0), (0, .ref ha), (1, .int v)]) hx hb dJ0_fill_1 rfl hl (by decide) rfl (fun ls hl => ?_)
  refine lv_aload_n hx hb dJ0_fill_2 rfl (lv_at hl 1 rfl) ?_
  refine va_alen (v := nI n) hx hb hK hP 0 0 rfl rfl rfl dJ0_fill_3 ?_
  refine lv_istore_n (lv' := [(3, .int (nI n)), (2, .int 0), (0, .ref ha), (1, .int v)]) hx hb dJ0_fill_4 rfl hl (by decide) rfl (fun ls hl => ?_)
  have e0 : f = fillN f 0 v := fillN_0
  have hl : lv_has ls 4 [(3, .int (nI n)), (2, .int (nI 0)), (0, .ref ha), (1, .int v)] := hl
  refine lp_J0_fill_5 ha cA n hn f v hx hb hK (fun H locs ls hP hD hS hl => ?_) (n + 1) 0 _ _ _ (by omega) (by omega) (by rw [← e0]; exact hP) (by rw [← e0]; exact hD) hS (lv_sub hl [2, 3, 1, 0] rfl)
  have hP : va_P (dC, dI) vwCl [(ha, .inl (cA, n, .inl (fillN f n v)))] H := hP
  have hD : va_D A [(ha, .inl (cA, n, .inl (fillN f n v)))] := hD
  exact W.vret hx hb hr (fun t ht hW => ⟨⟨fillN f n v, rfl, rfl, by rw [ht]; exact hP, hD⟩, hS.F ht⟩) hS.2.2 dJ0_fill_20
end
section
set_option maxHeartbeats 4000000 in
set_option maxRecDepth 100000 in
theorem k_X1_wipe (l : Launch) (dC : Nat → ClassId) (dI : Nat → Nat → Nat) (hd hc : Nat) (a2 : ClassId) (n : Nat) (hn : n < 2 ^ 31) (sz : Nat) (d : DS)  : ctV nwL l yX1_wipe wsX1_wipe ({ frames := 1, cells := 0, slots := 0, locals := 23 } : Room) (dC, dI) [(a2, .int)] (dk_w hd hc a2 n) d sz [.ref hd] (fun (u : DS) => u = (fillN d.1 n 0, d.2.1, 0, d.2.2.2.1, 0)) := by
  refine Met.ofW (cc := cX1_wipe) (maxL := 1) (ret := none) (by decide) rfl ?_
  intro p e s m args below meth c s₁ B hml hv
  obtain ⟨rfl, hsz, hP, hK, hD0, hN⟩ := hv
  have hx := B.exec
  have hb := B.bytes
  have hr := B.returns
  have hts := fun w h => atoms_spec (ws := wsX1_wipe) B.pre w (List.mem_cons_of_mem _ h)
  have hown : s.vm.findClass RX1 = some m.cls := findClass_of_methodNamed B.named
  have hlocks := B.notSynchronized
  subst hsz
  have hD := hD0.self (sz := s.heap.size)
  generalize hAe : va_A ((dk_w hd hc a2 n) d) s.heap.size = A at hD ⊢
  have hA : ∀ q : Nat, s.heap.size ≤ q → A q := fun q h => by rw [← hAe]; exact Or.inr h
  have hS : va_S A s.heap s.heap [] := va_S.rf
  have hl := lv_entry ([.ref hd]) (n := 1) (Nat.le_of_ble_eq_true rfl)
  rw [lg_entry_eq]
  generalize (lg_sl ([.ref hd]) ++ List.replicate (1 - (lg_sl ([.ref hd])).length) Slot.unset).toArray = ls at hl ⊢
  have hP : va_P (dC, dI) vwCl [(hd, .inr (1, [.ref hc, .int d.2.1, .int d.2.2.1, .int d.2.2.2.1, .int d.2.2.2.2])), (hc, .inl (a2, n, .inl d.1))] s.heap := hP
  have hD : va_D A [(hd, .inr (1, [.ref hc, .int d.2.1, .int d.2.2.1, .int d.2.2.2.1, .int d.2.2.2.2])), (hc, .inl (a2, n, .inl d.1))] := hD
  have hl : lv_has ls 1 [(0, .ref hd)] := hl
  refine lv_aload_n hx hb dX1_wipe_0 rfl (lv_at hl 0 rfl) ?_
  refine va_get (D := (dC, dI)) (ci := 1) (v := .ref hc) (C := RX1) (T := TX1) (N := 5) hx hb hts inX1 hown hK hP 0 rfl rfl 0 (by decide) (hts _ tb_29) (fun _ h9 => h9) rfl dX1_wipe_1 ?_
  refine lv_iconst (v := 0) hx hb dX1_wipe_4 (by decide) ?_
  refine xr_v (D := (dC, dI)) (wf := (ar_w hc a2 (n))) (u0 := d.1) (wr := [(hd, .inr (1, [.ref hc, .int d.2.1, .int d.2.2.1, .int d.2.2.2.1, .int d.2.2.2.2]))]) (va_runS (As := [.ref hc, .int 0]) (rest := []) ⟨hx, hb, hml, hown, hts⟩ (k_J0_fill l dC dI hc a2 (n) (by omega) s.heap.size d.1 0) (va_cwS 2 hts gX1_13 rfl rfl rfl (by decide +kernel) ⟨Nat.le_of_ble_eq_true rfl, Nat.le_of_ble_eq_true rfl⟩) (xp_s nwL_ok hK hN hP hD [1] rfl rfl) rfl rfl hl.1 rfl (lv_room (Nat.le_of_ble_eq_true rfl)) dX1_wipe_5 ⟨Nat.zero_le _, Nat.zero_le _⟩) hP hD hS hA [1] [0] rfl rfl (by decide) (by decide) (fun u_2 H locs hw hP hD hS => ?_)
  rw [hw] at hP hD
  have hP : va_P (dC, dI) vwCl [(hd, .inr (1, [.ref hc, .int d.2.1, .int d.2.2.1, .int d.2.2.2.1, .int d.2.2.2.2])), (hc, .inl (a2, n, .inl (fillN d.1 n 0)))] H := hP
  have hD : va_D A [(hd, .inr (1, [.ref hc, .int d.2.1, .int d.2.2.1, .int d.2.2.2.1, .int d.2.2.2.2])), (hc, .inl (a2, n, .inl (fillN d.1 n 0)))] := hD
  refine lv_aload_n hx hb dX1_wipe_8 rfl (lv_at hl 0 rfl) ?_
  refine lv_iconst (v := 0) hx hb dX1_wipe_9 (by decide) ?_
  refine va_put (D := (dC, dI)) (ci := 1) (v := .int 0) (ty := .int) (C := RX1) (T := TX1) (N := 5) hx hb hts inX1 tyX1 okX1 nmX1 hown hK hP hD hS 0 rfl rfl 2 (by decide) (hts _ tb_31) (fun _ h9 => h9) rfl (by decide +kernel) rfl rfl (Nat.le_of_ble_eq_true rfl) dX1_wipe_10 (fun H locs hP hD hS => ?_)
  have hP : va_P (dC, dI) vwCl [(hd, .inr (1, [.ref hc, .int d.2.1, .int 0, .int d.2.2.2.1, .int d.2.2.2.2])), (hc, .inl (a2, n, .inl (fillN d.1 n 0)))] H := hP
  have hD : va_D A [(hd, .inr (1, [.ref hc, .int d.2.1, .int 0, .int d.2.2.2.1, .int d.2.2.2.2])), (hc, .inl (a2, n, .inl (fillN d.1 n 0)))] := hD
  refine lv_aload_n hx hb dX1_wipe_13 rfl (lv_at hl 0 rfl) ?_
  refine lv_iconst (v := 0) hx hb dX1_wipe_14 (by decide) ?_
  refine va_put (D := (dC, dI)) (ci := 1) (v := .int 0) (ty := .boolean) (C := RX1) (T := TX1) (N := 5) hx hb hts inX1 tyX1 okX1 nmX1 hown hK hP hD hS 0 rfl rfl 4 (by decide) (hts _ tb_33) (fun _ h9 => h9) rfl (by decide +kernel) rfl rfl (Nat.le_of_ble_eq_true rfl) dX1_wipe_15 (fun H locs hP hD hS => ?_)
  have hP : va_P (dC, dI) vwCl [(hd, .inr (1, [.ref hc, .int d.2.1, .int 0, .int d.2.2.2.1, .int 0])), (hc, .inl (a2, n, .inl (fillN d.1 n 0)))] H := hP
  have hD : va_D A [(hd, .inr (1, [.ref hc, .int d.2.1, .int 0, .int d.2.2.2.1, .int 0])), (hc, .inl (a2, n, .inl (fillN d.1 n 0)))] := hD
  exact W.vret hx hb hr (fun t ht hW => ⟨⟨(fillN d.1 n 0, d.2.1, 0, d.2.2.2.1, 0), rfl, rfl, by rw [ht]; exact hP, hD⟩, hS.F ht⟩) hS.2.2 dX1_wipe_18
set_option maxHeartbeats 4000000 in
set_option maxRecDepth 100000 in
theorem k_X0_clearStaged (l : Launch) (dC : Nat → ClassId) (dI : Nat → Nat → Nat) (h0 hs hd hc : Nat) (a1 a2 : ClassId) (gW gC gV gB gM gI : Nat) (hg : geo gW gC gV gB gM gI) (sz : Nat) (st : Nat → Int32) (d : DS)  : ctV nwL l yX0_clearStaged wsX0_clearStaged ({ frames := 1, cells := 0, slots := 0, locals := 23 } : Room) (dC, dI) [(a1, .int), (a2, .int)] (xo_w h0 hs hd hc a1 a2 gW gC gV gB gM gI) (st, d) sz [.ref h0] (fun (u : XS) => u = (fillN st gW 0, d)) := by
  refine Met.ofW (cc := cX0_clearStaged) (maxL := 1) (ret := none) (by decide) rfl ?_
  intro p e s m args below meth c s₁ B hml hv
  obtain ⟨rfl, hsz, hP, hK, hD0, hN⟩ := hv
  have hx := B.exec
  have hb := B.bytes
  have hr := B.returns
  have hts := fun w h => atoms_spec (ws := wsX0_clearStaged) B.pre w (List.mem_cons_of_mem _ h)
  have hown : s.vm.findClass RX0 = some m.cls := findClass_of_methodNamed B.named
  have hlocks := B.notSynchronized
  subst hsz
  have hD := hD0.self (sz := s.heap.size)
  generalize hAe : va_A ((xo_w h0 hs hd hc a1 a2 gW gC gV gB gM gI) (st, d)) s.heap.size = A at hD ⊢
  have hA : ∀ q : Nat, s.heap.size ≤ q → A q := fun q h => by rw [← hAe]; exact Or.inr h
  have hS : va_S A s.heap s.heap [] := va_S.rf
  have hl := lv_entry ([.ref h0]) (n := 1) (Nat.le_of_ble_eq_true rfl)
  rw [lg_entry_eq]
  generalize (lg_sl ([.ref h0]) ++ List.replicate (1 - (lg_sl ([.ref h0])).length) Slot.unset).toArray = ls at hl ⊢
  have hP : va_P (dC, dI) vwCl [(h0, .inr (0, [.int (nI gW), .int (nI gC), .int (nI gV), .int (nI gB), .ref hs, .int (nI gM), .int (nI gI), .ref hd])), (hs, .inl (a1, gW, .inl st)), (hd, .inr (1, [.ref hc, .int d.2.1, .int d.2.2.1, .int d.2.2.2.1, .int d.2.2.2.2])), (hc, .inl (a2, (gI + 4), .inl d.1))] s.heap := hP
  have hD : va_D A [(h0, .inr (0, [.int (nI gW), .int (nI gC), .int (nI gV), .int (nI gB), .ref hs, .int (nI gM), .int (nI gI), .ref hd])), (hs, .inl (a1, gW, .inl st)), (hd, .inr (1, [.ref hc, .int d.2.1, .int d.2.2.1, .int d.2.2.2.1, .int d.2.2.2.2])), (hc, .inl (a2, (gI + 4), .inl d.1))] := hD
  have hl : lv_has ls 1 [(0, .ref h0)] := hl
  obtain ⟨⟨hW1, hW2⟩, ⟨hC1, hC2⟩, ⟨hV1, hV2⟩, ⟨hB1, hB2⟩, eM, eI⟩ := id hg
  obtain ⟨hM2, hq2⟩ := geo_b hg
  refine lv_aload_n hx hb dX0_clearStaged_0 rfl (lv_at hl 0 rfl) ?_
  refine va_get (D := (dC, dI)) (ci := 0) (v := .ref hs) (C := RX0) (T := TX0) (N := 8) hx hb hts inX0 hown hK hP 0 rfl rfl 4 (by decide) (hts _ tb_50) (fun _ h9 => h9) rfl dX0_clearStaged_1 ?_
  refine lv_iconst (v := 0) hx hb dX0_clearStaged_4 (by decide) ?_
  refine xr_v (D := (dC, dI)) (wf := (ar_w hs a1 (gW))) (u0 := st) (wr := [(h0, .inr (0, [.int (nI gW), .int (nI gC), .int (nI gV), .int (nI gB), .ref hs, .int (nI gM), .int (nI gI), .ref hd])), (hd, .inr (1, [.ref hc, .int d.2.1, .int d.2.2.1, .int d.2.2.2.1, .int d.2.2.2.2])), (hc, .inl (a2, (gI + 4), .inl d.1))]) (va_runS (As := [.ref hs, .int 0]) (rest := []) ⟨hx, hb, hml, hown, hts⟩ (k_J0_fill l dC dI hs a1 (gW) (by omega) s.heap.size st 0) (va_cwS 2 hts gX0_126 rfl rfl rfl (by decide +kernel) ⟨Nat.le_of_ble_eq_true rfl, Nat.le_of_ble_eq_true rfl⟩) (xp_s nwL_ok (hK.sub (tys' := [(a1, .int)]) [0] rfl) hN hP hD [1] rfl rfl) rfl rfl hl.1 rfl (lv_room (Nat.le_of_ble_eq_true rfl)) dX0_clearStaged_5 ⟨Nat.zero_le _, Nat.zero_le _⟩) hP hD hS hA [1] [0, 2, 3] rfl rfl (by decide) (by decide) (fun u_2 H locs hw hP hD hS => ?_)
  rw [hw] at hP hD
  have hP := hP.sub (ws' := [(h0, .inr (0, [.int (nI gW), .int (nI gC), .int (nI gV), .int (nI gB), .ref hs, .int (nI gM), .int (nI gI), .ref hd])), (hs, .inl (a1, gW, .inl ((fillN st gW 0)))), (hd, .inr (1, [.ref hc, .int d.2.1, .int d.2.2.1, .int d.2.2.2.1, .int d.2.2.2.2])), (hc, .inl (a2, (gI + 4), .inl d.1))]) [0, 3, 1, 2] rfl
  have hD := hD.sub (ws' := [(h0, .inr (0, [.int (nI gW), .int (nI gC), .int (nI gV), .int (nI gB), .ref hs, .int (nI gM), .int (nI gI), .ref hd])), (hs, .inl (a1, gW, .inl ((fillN st gW 0)))), (hd, .inr (1, [.ref hc, .int d.2.1, .int d.2.2.1, .int d.2.2.2.1, .int d.2.2.2.2])), (hc, .inl (a2, (gI + 4), .inl d.1))]) [0, 3, 1, 2] (by decide) rfl
  have hP : va_P (dC, dI) vwCl [(h0, .inr (0, [.int (nI gW), .int (nI gC), .int (nI gV), .int (nI gB), .ref hs, .int (nI gM), .int (nI gI), .ref hd])), (hs, .inl (a1, gW, .inl ((fillN st gW 0)))), (hd, .inr (1, [.ref hc, .int d.2.1, .int d.2.2.1, .int d.2.2.2.1, .int d.2.2.2.2])), (hc, .inl (a2, (gI + 4), .inl d.1))] H := hP
  have hD : va_D A [(h0, .inr (0, [.int (nI gW), .int (nI gC), .int (nI gV), .int (nI gB), .ref hs, .int (nI gM), .int (nI gI), .ref hd])), (hs, .inl (a1, gW, .inl ((fillN st gW 0)))), (hd, .inr (1, [.ref hc, .int d.2.1, .int d.2.2.1, .int d.2.2.2.1, .int d.2.2.2.2])), (hc, .inl (a2, (gI + 4), .inl d.1))] := hD
  exact W.vret hx hb hr (fun t ht hW => ⟨⟨((fillN st gW 0), d), rfl, rfl, by rw [ht]; exact hP, hD⟩, hS.F ht⟩) hS.2.2 dX0_clearStaged_8
end
section
set_option maxHeartbeats 4000000 in
set_option maxRecDepth 100000 in
theorem k_X0_usedSlotsWithout (l : Launch) (dC : Nat → ClassId) (dI : Nat → Nat → Nat) (h0 hs hd hc : Nat) (a1 a2 : ClassId) (gW gC gV gB gM gI : Nat) (hg : geo gW gC gV gB gM gI) (sz : Nat) (st : Nat → Int32) (d : DS) (v b : Nat) (hv : v < gV) (hb9 : b < gB) : ctI nwL l yX0_usedSlotsWithout wsX0_usedSlotsWithout ({ frames := 4, cells := 0, slots := 0, locals := 87 } : Room) (dC, dI) [(a1, .int), (a2, .int)] (xo_w h0 hs hd hc a1 a2 gW gC gV gB gM gI) (st, d) sz [.ref h0, .int (nI v), .int (nI b)] (fun (r : Int32) (u : XS) => r = x_uwo d.1 gM (gV * gB) gC (d.1 (gM + v * gB + b)) ∧ u = (st, d)) := by
  refine Met.ofW (cc := cX0_usedSlotsWithout) (maxL := 5) (ret := (some .int)) (by decide) rfl ?_
  intro p e s m args below meth c s₁ B hml hv
  obtain ⟨rfl, hsz, hP, hK, hD0, hN⟩ := hv
  have hx := B.exec
  have hb := B.bytes
  have hr := B.returns
  have hts := fun w h => atoms_spec (ws := wsX0_usedSlotsWithout) B.pre w (List.mem_cons_of_mem _ h)
  have hown : s.vm.findClass RX0 = some m.cls := findClass_of_methodNamed B.named
  have hlocks := B.notSynchronized
  subst hsz
  have hD := hD0.self (sz := s.heap.size)
  generalize hAe : va_A ((xo_w h0 hs hd hc a1 a2 gW gC gV gB gM gI) (st, d)) s.heap.size = A at hD ⊢
  have hA : ∀ q : Nat, s.heap.size ≤ q → A q := fun q h => by rw [← hAe]; exact Or.inr h
  have hS : va_S A s.heap s.heap [] := va_S.rf
  have hl := lv_entry ([.ref h0, .int (nI v), .int (nI b)]) (n := 5) (Nat.le_of_ble_eq_true rfl)
  rw [lg_entry_eq]
  generalize (lg_sl ([.ref h0, .int (nI v), .int (nI b)]) ++ List.replicate (5 - (lg_sl ([.ref h0, .int (nI v), .int (nI b)])).length) Slot.unset).toArray = ls at hl ⊢
  have hP : va_P (dC, dI) vwCl [(h0, .inr (0, [.int (nI gW), .int (nI gC), .int (nI gV), .int (nI gB), .ref hs, .int (nI gM), .int (nI gI), .ref hd])), (hs, .inl (a1, gW, .inl st)), (hd, .inr (1, [.ref hc, .int d.2.1, .int d.2.2.1, .int d.2.2.2.1, .int d.2.2.2.2])), (hc, .inl (a2, (gI + 4), .inl d.1))] s.heap := hP
  have hD : va_D A [(h0, .inr (0, [.int (nI gW), .int (nI gC), .int (nI gV), .int (nI gB), .ref hs, .int (nI gM), .int (nI gI), .ref hd])), (hs, .inl (a1, gW, .inl st)), (hd, .inr (1, [.ref hc, .int d.2.1, .int d.2.2.1, .int d.2.2.2.1, .int d.2.2.2.2])), (hc, .inl (a2, (gI + 4), .inl d.1))] := hD
  have hl : lv_has ls 5 [(0, .ref h0), (1, .int (nI v)), (2, .int (nI b))] := hl
  obtain ⟨⟨hW1, hW2⟩, ⟨hC1, hC2⟩, ⟨hV1, hV2⟩, ⟨hB1, hB2⟩, eM, eI⟩ := id hg
  obtain ⟨hM2, hq2⟩ := geo_b hg
  have hcl := cntC_le d.1 gM (d.1 (gM + v * gB + b) - 1 + 1) (gV * gB)
  refine lv_aload_n hx hb dX0_usedSlotsWithout_0 rfl (lv_at hl 0 rfl) ?_
  refine lv_iload_n hx hb dX0_usedSlotsWithout_1 rfl (lv_at hl 1 rfl) ?_
  refine lv_iload_n hx hb dX0_usedSlotsWithout_2 rfl (lv_at hl 2 rfl) ?_
  refine xr_i (D := (dC, dI)) (wf := (xo_w h0 hs hd hc a1 a2 gW gC gV gB gM gI)) (u0 := (st, d)) (wr := []) (va_runV (As := [.int (nI v), .int (nI b)]) (rest := []) ⟨hx, hb, hml, hown, hts⟩ (k_X0_mappedSlot l dC dI h0 hs hd hc a1 a2 gW gC gV gB gM gI hg s.heap.size st d v b (by omega) (by omega)) (cwV 2 hts gX0_70 rfl rfl rfl (by decide +kernel) ⟨Nat.le_of_ble_eq_true rfl, Nat.le_of_ble_eq_true rfl⟩) (xp_v nwL_ok hK hN hP hD [0, 1, 2, 3] rfl rfl (va_recv hK hP (ci := 0) (q0 := 0) rfl rfl)) rfl rfl hl.1 rfl (lv_room (Nat.le_of_ble_eq_true rfl)) dX0_usedSlotsWithout_3 ⟨Nat.zero_le _, Nat.zero_le _⟩) hP hD hS hA [0, 1, 2, 3] [] rfl rfl (by decide) (by decide) (fun r_1 u_2 H locs hw hP hD hS => ?_)
  obtain ⟨er_1, eu_2⟩ := hw
  rw [eu_2] at hP hD
  rw [er_1]
  have hP : va_P (dC, dI) vwCl [(h0, .inr (0, [.int (nI gW), .int (nI gC), .int (nI gV), .int (nI gB), .ref hs, .int (nI gM), .int (nI gI), .ref hd])), (hs, .inl (a1, gW, .inl st)), (hd, .inr (1, [.ref hc, .int d.2.1, .int d.2.2.1, .int d.2.2.2.1, .int d.2.2.2.2])), (hc, .inl (a2, (gI + 4), .inl d.1))] H := hP
  have hD : va_D A [(h0, .inr (0, [.int (nI gW), .int (nI gC), .int (nI gV), .int (nI gB), .ref hs, .int (nI gM), .int (nI gI), .ref hd])), (hs, .inl (a1, gW, .inl st)), (hd, .inr (1, [.ref hc, .int d.2.1, .int d.2.2.1, .int d.2.2.2.1, .int d.2.2.2.2])), (hc, .inl (a2, (gI + 4), .inl d.1))] := hD
  refine lv_istore_n (lv' := [(3, .int (d.1 (gM + v * gB + b) - 1)), (0, .ref h0), (1, .int (nI v)), (2, .int (nI b))]) hx hb dX0_usedSlotsWithout_6 rfl hl (by decide) rfl (fun ls hl => ?_)
  refine lv_iload_n hx hb dX0_usedSlotsWithout_7 rfl (lv_at hl 0 rfl) ?_
  refine lv_iconst (v := (-1)) hx hb dX0_usedSlotsWithout_8 (by decide) ?_
  refine lv_icmp_eq (tgt := 25) hx hb dX0_usedSlotsWithout_9 (by decide) (fun c_3 => ?_) (fun c_3 => ?_)
  · refine lv_iconst (v := 0) hx hb dX0_usedSlotsWithout_25 (by decide) ?_
    refine lv_istore (lv' := [(4, .int 0), (3, .int (d.1 (gM + v * gB + b) - 1)), (0, .ref h0), (1, .int (nI v)), (2, .int (nI b))]) hx hb dX0_usedSlotsWithout_26 hl (by decide) rfl (fun ls hl => ?_)
    refine lv_iload hx hb dX0_usedSlotsWithout_28 (lv_at hl 0 rfl) ?_
    refine lv_if_eq (tgt := 42) hx hb dX0_usedSlotsWithout_30 (by decide) (fun c_4 => ?_) (fun c_4 => ?_)
    · refine lv_aload_n hx hb dX0_usedSlotsWithout_42 rfl (lv_at hl 2 rfl) ?_
      refine xr_i (D := (dC, dI)) (wf := (xo_w h0 hs hd hc a1 a2 gW gC gV gB gM gI)) (u0 := (st, d)) (wr := []) (va_runV (As := []) (rest := []) ⟨hx, hb, hml, hown, hts⟩ (k_X0_usedSlots l dC dI h0 hs hd hc a1 a2 gW gC gV gB gM gI hg H.size st d ) (cwV 0 hts gX0_87 rfl rfl rfl (by decide +kernel) ⟨Nat.le_of_ble_eq_true rfl, Nat.le_of_ble_eq_true rfl⟩) (xp_v nwL_ok hK hN hP hD [0, 1, 2, 3] rfl rfl (va_recv hK hP (ci := 0) (q0 := 0) rfl rfl)) rfl rfl hl.1 rfl (lv_room (Nat.le_of_ble_eq_true rfl)) dX0_usedSlotsWithout_43 ⟨Nat.zero_le _, Nat.zero_le _⟩) hP hD hS hA [0, 1, 2, 3] [] rfl rfl (by decide) (by decide) (fun r_5 u_6 H locs hw hP hD hS => ?_)
      obtain ⟨er_5, eu_6⟩ := hw
      rw [eu_6] at hP hD
      rw [er_5]
      have hP : va_P (dC, dI) vwCl [(h0, .inr (0, [.int (nI gW), .int (nI gC), .int (nI gV), .int (nI gB), .ref hs, .int (nI gM), .int (nI gI), .ref hd])), (hs, .inl (a1, gW, .inl st)), (hd, .inr (1, [.ref hc, .int d.2.1, .int d.2.2.1, .int d.2.2.2.1, .int d.2.2.2.2])), (hc, .inl (a2, (gI + 4), .inl d.1))] H := hP
      have hD : va_D A [(h0, .inr (0, [.int (nI gW), .int (nI gC), .int (nI gV), .int (nI gB), .ref hs, .int (nI gM), .int (nI gI), .ref hd])), (hs, .inl (a1, gW, .inl st)), (hd, .inr (1, [.ref hc, .int d.2.1, .int d.2.2.1, .int d.2.2.2.1, .int d.2.2.2.2])), (hc, .inl (a2, (gI + 4), .inl d.1))] := hD
      exact W.iret (v := nI (usN d.1 gM (gV * gB) (gC + 1))) hx hb hr (fun t ht hW => ⟨⟨nI (usN d.1 gM (gV * gB) (gC + 1)), (st, d), rfl, ⟨by unfold x_uwo; rw [if_pos c_3], rfl⟩, by rw [ht]; exact hP, hD⟩, hS.F ht⟩) hS.2.2 dX0_usedSlotsWithout_46
    · exact absurd c_4 (by decide)
  · refine lv_aload_n hx hb dX0_usedSlotsWithout_12 rfl (lv_at hl 1 rfl) ?_
    refine lv_iload_n hx hb dX0_usedSlotsWithout_13 rfl (lv_at hl 0 rfl) ?_
    refine xr_i (D := (dC, dI)) (wf := (xo_w h0 hs hd hc a1 a2 gW gC gV gB gM gI)) (u0 := (st, d)) (wr := []) (va_runV (As := [.int (d.1 (gM + v * gB + b) - 1)]) (rest := []) ⟨hx, hb, hml, hown, hts⟩ (k_X0_blocksMappedTo l dC dI h0 hs hd hc a1 a2 gW gC gV gB gM gI hg H.size st d (d.1 (gM + v * gB + b) - 1)) (cwV 1 hts gX0_90 rfl rfl rfl (by decide +kernel) ⟨Nat.le_of_ble_eq_true rfl, Nat.le_of_ble_eq_true rfl⟩) (xp_v nwL_ok hK hN hP hD [0, 1, 2, 3] rfl rfl (va_recv hK hP (ci := 0) (q0 := 0) rfl rfl)) rfl rfl hl.1 rfl (lv_room (Nat.le_of_ble_eq_true rfl)) dX0_usedSlotsWithout_14 ⟨Nat.zero_le _, Nat.zero_le _⟩) hP hD hS hA [0, 1, 2, 3] [] rfl rfl (by decide) (by decide) (fun r_7 u_8 H locs hw hP hD hS => ?_)
    obtain ⟨er_7, eu_8⟩ := hw
    rw [eu_8] at hP hD
    rw [er_7]
    have hP : va_P (dC, dI) vwCl [(h0, .inr (0, [.int (nI gW), .int (nI gC), .int (nI gV), .int (nI gB), .ref hs, .int (nI gM), .int (nI gI), .ref hd])), (hs, .inl (a1, gW, .inl st)), (hd, .inr (1, [.ref hc, .int d.2.1, .int d.2.2.1, .int d.2.2.2.1, .int d.2.2.2.2])), (hc, .inl (a2, (gI + 4), .inl d.1))] H := hP
    have hD : va_D A [(h0, .inr (0, [.int (nI gW), .int (nI gC), .int (nI gV), .int (nI gB), .ref hs, .int (nI gM), .int (nI gI), .ref hd])), (hs, .inl (a1, gW, .inl st)), (hd, .inr (1, [.ref hc, .int d.2.1, .int d.2.2.1, .int d.2.2.2.1, .int d.2.2.2.2])), (hc, .inl (a2, (gI + 4), .inl d.1))] := hD
    refine lv_iconst (v := 1) hx hb dX0_usedSlotsWithout_17 (by decide) ?_
    refine lv_icmp_ne (tgt := 25) hx hb dX0_usedSlotsWithout_18 (by decide) (fun c_9 => ?_) (fun c_9 => ?_)
    · have c_9 : ¬ (cntC d.1 gM (d.1 (gM + v * gB + b) - 1 + 1) (gV * gB) = 1) := fun q9 => c_9 ((nI_eq (a := cntC d.1 gM (d.1 (gM + v * gB + b) - 1 + 1) (gV * gB)) (b := 1) (by omega) (by omega)).mpr q9)
      refine lv_iconst (v := 0) hx hb dX0_usedSlotsWithout_25 (by decide) ?_
      refine lv_istore (lv' := [(4, .int 0), (3, .int (d.1 (gM + v * gB + b) - 1)), (0, .ref h0), (1, .int (nI v)), (2, .int (nI b))]) hx hb dX0_usedSlotsWithout_26 hl (by decide) rfl (fun ls hl => ?_)
      refine lv_iload hx hb dX0_usedSlotsWithout_28 (lv_at hl 0 rfl) ?_
      refine lv_if_eq (tgt := 42) hx hb dX0_usedSlotsWithout_30 (by decide) (fun c_10 => ?_) (fun c_10 => ?_)
      · refine lv_aload_n hx hb dX0_usedSlotsWithout_42 rfl (lv_at hl 2 rfl) ?_
        refine xr_i (D := (dC, dI)) (wf := (xo_w h0 hs hd hc a1 a2 gW gC gV gB gM gI)) (u0 := (st, d)) (wr := []) (va_runV (As := []) (rest := []) ⟨hx, hb, hml, hown, hts⟩ (k_X0_usedSlots l dC dI h0 hs hd hc a1 a2 gW gC gV gB gM gI hg H.size st d ) (cwV 0 hts gX0_87 rfl rfl rfl (by decide +kernel) ⟨Nat.le_of_ble_eq_true rfl, Nat.le_of_ble_eq_true rfl⟩) (xp_v nwL_ok hK hN hP hD [0, 1, 2, 3] rfl rfl (va_recv hK hP (ci := 0) (q0 := 0) rfl rfl)) rfl rfl hl.1 rfl (lv_room (Nat.le_of_ble_eq_true rfl)) dX0_usedSlotsWithout_43 ⟨Nat.zero_le _, Nat.zero_le _⟩) hP hD hS hA [0, 1, 2, 3] [] rfl rfl (by decide) (by decide) (fun r_11 u_12 H locs hw hP hD hS => ?_)
        obtain ⟨er_11, eu_12⟩ := hw
        rw [eu_12] at hP hD
        rw [er_11]
        have hP : va_P (dC, dI) vwCl [(h0, .inr (0, [.int (nI gW), .int (nI gC), .int (nI gV), .int (nI gB), .ref hs, .int (nI gM), .int (nI gI), .ref hd])), (hs, .inl (a1, gW, .inl st)), (hd, .inr (1, [.ref hc, .int d.2.1, .int d.2.2.1, .int d.2.2.2.1, .int d.2.2.2.2])), (hc, .inl (a2, (gI + 4), .inl d.1))] H := hP
        have hD : va_D A [(h0, .inr (0, [.int (nI gW), .int (nI gC), .int (nI gV), .int (nI gB), .ref hs, .int (nI gM), .int (nI gI), .ref hd])), (hs, .inl (a1, gW, .inl st)), (hd, .inr (1, [.ref hc, .int d.2.1, .int d.2.2.1, .int d.2.2.2.1, .int d.2.2.2.2])), (hc, .inl (a2, (gI + 4), .inl d.1))] := hD
        exact W.iret (v := nI (usN d.1 gM (gV * gB) (gC + 1))) hx hb hr (fun t ht hW => ⟨⟨nI (usN d.1 gM (gV * gB) (gC + 1)), (st, d), rfl, ⟨by unfold x_uwo; rw [if_neg c_3, if_neg c_9], rfl⟩, by rw [ht]; exact hP, hD⟩, hS.F ht⟩) hS.2.2 dX0_usedSlotsWithout_46
      · exact absurd c_10 (by decide)
    · have c_9 : cntC d.1 gM (d.1 (gM + v * gB + b) - 1 + 1) (gV * gB) = 1 := (nI_eq (a := cntC d.1 gM (d.1 (gM + v * gB + b) - 1 + 1) (gV * gB)) (b := 1) (by omega) (by omega)).mp c_9
      refine lv_iconst (v := 1) hx hb dX0_usedSlotsWithout_21 (by decide) ?_
      refine lv_goto (tgt := 26) hx hb dX0_usedSlotsWithout_22 (by decide) ?_
      refine lv_istore (lv' := [(4, .int 1), (3, .int (d.1 (gM + v * gB + b) - 1)), (0, .ref h0), (1, .int (nI v)), (2, .int (nI b))]) hx hb dX0_usedSlotsWithout_26 hl (by decide) rfl (fun ls hl => ?_)
      refine lv_iload hx hb dX0_usedSlotsWithout_28 (lv_at hl 0 rfl) ?_
      refine lv_if_eq (tgt := 42) hx hb dX0_usedSlotsWithout_30 (by decide) (fun c_13 => ?_) (fun c_13 => ?_)
      · exact absurd c_13 (by decide)
      · refine lv_aload_n hx hb dX0_usedSlotsWithout_33 rfl (lv_at hl 2 rfl) ?_
        refine xr_i (D := (dC, dI)) (wf := (xo_w h0 hs hd hc a1 a2 gW gC gV gB gM gI)) (u0 := (st, d)) (wr := []) (va_runV (As := []) (rest := []) ⟨hx, hb, hml, hown, hts⟩ (k_X0_usedSlots l dC dI h0 hs hd hc a1 a2 gW gC gV gB gM gI hg H.size st d ) (cwV 0 hts gX0_87 rfl rfl rfl (by decide +kernel) ⟨Nat.le_of_ble_eq_true rfl, Nat.le_of_ble_eq_true rfl⟩) (xp_v nwL_ok hK hN hP hD [0, 1, 2, 3] rfl rfl (va_recv hK hP (ci := 0) (q0 := 0) rfl rfl)) rfl rfl hl.1 rfl (lv_room (Nat.le_of_ble_eq_true rfl)) dX0_usedSlotsWithout_34 ⟨Nat.zero_le _, Nat.zero_le _⟩) hP hD hS hA [0, 1, 2, 3] [] rfl rfl (by decide) (by decide) (fun r_14 u_15 H locs hw hP hD hS => ?_)
        obtain ⟨er_14, eu_15⟩ := hw
        rw [eu_15] at hP hD
        rw [er_14]
        have hP : va_P (dC, dI) vwCl [(h0, .inr (0, [.int (nI gW), .int (nI gC), .int (nI gV), .int (nI gB), .ref hs, .int (nI gM), .int (nI gI), .ref hd])), (hs, .inl (a1, gW, .inl st)), (hd, .inr (1, [.ref hc, .int d.2.1, .int d.2.2.1, .int d.2.2.2.1, .int d.2.2.2.2])), (hc, .inl (a2, (gI + 4), .inl d.1))] H := hP
        have hD : va_D A [(h0, .inr (0, [.int (nI gW), .int (nI gC), .int (nI gV), .int (nI gB), .ref hs, .int (nI gM), .int (nI gI), .ref hd])), (hs, .inl (a1, gW, .inl st)), (hd, .inr (1, [.ref hc, .int d.2.1, .int d.2.2.1, .int d.2.2.2.1, .int d.2.2.2.2])), (hc, .inl (a2, (gI + 4), .inl d.1))] := hD
        refine lv_iconst (v := 1) hx hb dX0_usedSlotsWithout_37 (by decide) ?_
        refine lv_isub hx hb dX0_usedSlotsWithout_38 ?_
        refine lv_goto (tgt := 46) hx hb dX0_usedSlotsWithout_39 (by decide) ?_
        exact W.iret (v := nI (usN d.1 gM (gV * gB) (gC + 1)) - 1) hx hb hr (fun t ht hW => ⟨⟨nI (usN d.1 gM (gV * gB) (gC + 1)) - 1, (st, d), rfl, ⟨by unfold x_uwo; rw [if_neg c_3, if_pos c_9], rfl⟩, by rw [ht]; exact hP, hD⟩, hS.F ht⟩) hS.2.2 dX0_usedSlotsWithout_46
set_option maxHeartbeats 4000000 in
set_option maxRecDepth 100000 in
theorem lp_X0_writeNewContents_24 {p : Program} {l : Launch} {e : Env} {s : State} {m : MethodId} {args : Array Value} {below : List Frame} {meth : Method} {c : Code} {Q : State → Prop} {A : Nat → Prop} {dC : Nat → ClassId} {dI : Nat → Nat → Nat} (h0 hs hd hc : Nat) (a1 a2 : ClassId) (gW gC gV gB gM gI : Nat) (hg : geo gW gC gV gB gM gI) (st : Nat → Int32) (d : DS) (v b k : Nat) (hk : k ≤ gC) (hx : p.tables.exec = Jvm.exec) (hb : c.code = cX0_writeNewContents) (hml : c.maxLocals = 5) (hown : s.vm.findClass RX0 = some m.cls) (hts : ∀ w ∈ TBG, w.before args s = true) (hK : va_K (dC, dI) vwCl [(a1, .int), (a2, .int)] s) (hN : nwOk nwL s) (hA : ∀ q : Nat, s.heap.size ≤ q → A q)  (K : ∀  (H : Heap) (locs : List Loc) (ls : Array Slot), va_P (dC, dI) vwCl (xo_w h0 hs hd hc a1 a2 gW gC gV gB gM gI (st, (dk_ws d (k * gW) st gW))) H → va_D A (xo_w h0 hs hd hc a1 a2 gW gC gV gB gM gI (st, (dk_ws d (k * gW) st gW))) → va_S A s.heap H locs → lv_has ls 5 [(0, .ref h0), (1, .int (nI v)), (2, .int (nI b)), (3, .int (nI k))] → W p l e ({ frames := 5, cells := 0, slots := 0, locals := 115 } : Room) s m args below meth c H locs 0 0 Q (F0 m 60 ls [])) : ∀ (n : Nat) (i : Nat) (H : Heap) (locs : List Loc) (ls : Array Slot), gW - i < n → (i ≤ gW) → va_P (dC, dI) vwCl (xo_w h0 hs hd hc a1 a2 gW gC gV gB gM gI (st, (dk_ws d (k * gW) st i))) H → va_D A (xo_w h0 hs hd hc a1 a2 gW gC gV gB gM gI (st, (dk_ws d (k * gW) st i))) → va_S A s.heap H locs → lv_has ls 5 [(0, .ref h0), (1, .int (nI v)), (2, .int (nI b)), (3, .int (nI k)), (4, .int (nI i))] → W p l e ({ frames := 5, cells := 0, slots := 0, locals := 115 } : Room) s m args below meth c H locs 0 0 Q (F0 m 24 ls []) := by
  obtain ⟨⟨hW1, hW2⟩, ⟨hC1, hC2⟩, ⟨hV1, hV2⟩, ⟨hB1, hB2⟩, eM, eI⟩ := id hg
  obtain ⟨hM2, hq2⟩ := geo_b hg
  intro n
  induction n with
  | zero => intro i H locs ls hfu; exact absurd hfu (by omega)
  | succ n ih =>
    intro i H locs ls hfu hi hP hD hS hl
    have hP : va_P (dC, dI) vwCl [(h0, .inr (0, [.int (nI gW), .int (nI gC), .int (nI gV), .int (nI gB), .ref hs, .int (nI gM), .int (nI gI), .ref hd])), (hs, .inl (a1, gW, .inl st)), (hd, .inr (1, [.ref hc, .int ((dk_ws d (k * gW) st i).2.1), .int ((dk_ws d (k * gW) st i).2.2.1), .int ((dk_ws d (k * gW) st i).2.2.2.1), .int ((dk_ws d (k * gW) st i).2.2.2.2)])), (hc, .inl (a2, (gI + 4), .inl ((dk_ws d (k * gW) st i).1)))] H := hP
    have hD : va_D A [(h0, .inr (0, [.int (nI gW), .int (nI gC), .int (nI gV), .int (nI gB), .ref hs, .int (nI gM), .int (nI gI), .ref hd])), (hs, .inl (a1, gW, .inl st)), (hd, .inr (1, [.ref hc, .int ((dk_ws d (k * gW) st i).2.1), .int ((dk_ws d (k * gW) st i).2.2.1), .int ((dk_ws d (k * gW) st i).2.2.2.1), .int ((dk_ws d (k * gW) st i).2.2.2.2)])), (hc, .inl (a2, (gI + 4), .inl ((dk_ws d (k * gW) st i).1)))] := hD
    refine lv_iload hx hb dX0_writeNewContents_24 (lv_at hl 4 rfl) ?_
    refine lv_aload_n hx hb dX0_writeNewContents_26 rfl (lv_at hl 0 rfl) ?_
    refine va_get (D := (dC, dI)) (ci := 0) (v := .int (nI gW)) (C := RX0) (T := TX0) (N := 8) hx hb hts inX0 hown hK hP 0 rfl rfl 0 (by decide) (hts _ tb_46) (fun _ h9 => h9) rfl dX0_writeNewContents_27 ?_
    refine lv_icmp_ge (tgt := 60) hx hb dX0_writeNewContents_30 (by decide) (fun c_1 => ?_) (fun c_1 => ?_)
    · have c_1 : gW ≤ i := (nI_leI (a := gW) (b := i) (by omega) (by omega)).mp c_1
      have hie : i = gW := by omega
      rw [hie] at hP hD
      exact K  _ _ _  hP hD hS (lv_sub hl [0, 1, 2, 3] rfl)
    · have c_1 : ¬ (gW ≤ i) := fun q9 => c_1 ((nI_leI (a := gW) (b := i) (by omega) (by omega)).mpr q9)
      refine lv_aload_n hx hb dX0_writeNewContents_33 rfl (lv_at hl 0 rfl) ?_
      refine va_get (D := (dC, dI)) (ci := 0) (v := .ref hd) (C := RX0) (T := TX0) (N := 8) hx hb hts inX0 hown hK hP 0 rfl rfl 7 (by decide) (hts _ tb_53) (fun _ h9 => h9) rfl dX0_writeNewContents_34 ?_
      refine lv_aload_n hx hb dX0_writeNewContents_37 rfl (lv_at hl 0 rfl) ?_
      refine lv_iload_n hx hb dX0_writeNewContents_38 rfl (lv_at hl 3 rfl) ?_
      refine lv_iload hx hb dX0_writeNewContents_39 (lv_at hl 4 rfl) ?_
      have hki := geo_slot hg hk (show i < gW by omega)
      refine xr_i (D := (dC, dI)) (wf := (xo_w h0 hs hd hc a1 a2 gW gC gV gB gM gI)) (u0 := (st, (dk_ws d (k * gW) st i))) (wr := []) (va_runV (As := [.int (nI k), .int (nI i)]) (rest := [.ref hd]) ⟨hx, hb, hml, hown, hts⟩ (k_X0_slotCell l dC dI h0 hs hd hc a1 a2 gW gC gV gB gM gI hg H.size st (dk_ws d (k * gW) st i) k i) (cwV 2 hts gX0_77 rfl rfl rfl (by decide +kernel) ⟨Nat.le_of_ble_eq_true rfl, Nat.le_of_ble_eq_true rfl⟩) (xp_v nwL_ok hK hN hP hD [0, 1, 2, 3] rfl rfl (va_recv hK hP (ci := 0) (q0 := 0) rfl rfl)) rfl rfl hl.1 rfl (lv_room (Nat.le_of_ble_eq_true rfl)) dX0_writeNewContents_41 ⟨Nat.zero_le _, Nat.zero_le _⟩) hP hD hS hA [0, 1, 2, 3] [] rfl rfl (by decide) (by decide) (fun r_2 u_3 H locs hw hP hD hS => ?_)
      obtain ⟨er_2, eu_3⟩ := hw
      rw [eu_3] at hP hD
      rw [er_2]
      have hP : va_P (dC, dI) vwCl [(h0, .inr (0, [.int (nI gW), .int (nI gC), .int (nI gV), .int (nI gB), .ref hs, .int (nI gM), .int (nI gI), .ref hd])), (hs, .inl (a1, gW, .inl st)), (hd, .inr (1, [.ref hc, .int ((dk_ws d (k * gW) st i).2.1), .int ((dk_ws d (k * gW) st i).2.2.1), .int ((dk_ws d (k * gW) st i).2.2.2.1), .int ((dk_ws d (k * gW) st i).2.2.2.2)])), (hc, .inl (a2, (gI + 4), .inl ((dk_ws d (k * gW) st i).1)))] H := hP
      have hD : va_D A [(h0, .inr (0, [.int (nI gW), .int (nI gC), .int (nI gV), .int (nI gB), .ref hs, .int (nI gM), .int (nI gI), .ref hd])), (hs, .inl (a1, gW, .inl st)), (hd, .inr (1, [.ref hc, .int ((dk_ws d (k * gW) st i).2.1), .int ((dk_ws d (k * gW) st i).2.2.1), .int ((dk_ws d (k * gW) st i).2.2.2.1), .int ((dk_ws d (k * gW) st i).2.2.2.2)])), (hc, .inl (a2, (gI + 4), .inl ((dk_ws d (k * gW) st i).1)))] := hD
      refine lv_aload_n hx hb dX0_writeNewContents_44 rfl (lv_at hl 0 rfl) ?_
      refine va_get (D := (dC, dI)) (ci := 0) (v := .ref hs) (C := RX0) (T := TX0) (N := 8) hx hb hts inX0 hown hK hP 0 rfl rfl 4 (by decide) (hts _ tb_50) (fun _ h9 => h9) rfl dX0_writeNewContents_45 ?_
      refine lv_iload hx hb dX0_writeNewContents_48 (lv_at hl 4 rfl) ?_
      refine va_iald hx hb hK hP 1 0 rfl rfl (vp_in_nI (n := i) (by omega) (by omega)) dX0_writeNewContents_50 ?_
      refine lv_topi (fun z_4 ez_4 => ?_)
      obtain rfl : z_4 = st i := ez_4.trans (by rw [nI_clamp (n := i) (by omega)])
      refine xr_v (D := (dC, dI)) (wf := (dk_w hd hc a2 (gI + 4))) (u0 := (dk_ws d (k * gW) st i)) (wr := [(h0, .inr (0, [.int (nI gW), .int (nI gC), .int (nI gV), .int (nI gB), .ref hs, .int (nI gM), .int (nI gI), .ref hd])), (hs, .inl (a1, gW, .inl st))]) (va_runVN (As := [.int (nI (k * gW + i)), .int (st i)]) (rest := []) ⟨hx, hb, hml, hown, hts⟩ (k_X1_write l dC dI hd hc a2 (gI + 4) (by omega) H.size (dk_ws d (k * gW) st i) (k * gW + i) (by omega) (st i)) ⟨va_cnB 2 hts gX0_116 rfl rfl rfl (hN _ nn_116) (hts _ tb_3) (by decide +kernel) ⟨Nat.le_of_ble_eq_true rfl, Nat.le_of_ble_eq_true rfl⟩, hts _ tb_161, hts _ ts_18⟩ (xp_v nwL_ok (hK.sub (tys' := [(a2, .int)]) [1] rfl) hN hP hD [2, 3] rfl rfl (va_recv hK hP (ci := 1) (q0 := 2) rfl rfl)) rfl rfl hl.1 rfl (lv_room (Nat.le_of_ble_eq_true rfl)) dX0_writeNewContents_51 ⟨Nat.zero_le _, Nat.zero_le _⟩) hP hD hS hA [2, 3] [0, 1] rfl rfl (by decide) (by decide) (fun u_6 H locs hw hP hD hS => ?_)
      obtain ⟨d_7, ed_7⟩ : ∃ z, z = dk_write (dk_ws d (k * gW) st i) (k * gW + i) (st i) := ⟨_, rfl⟩
      rw [hw, ← ed_7] at hP hD
      have hP : va_P (dC, dI) vwCl [(h0, .inr (0, [.int (nI gW), .int (nI gC), .int (nI gV), .int (nI gB), .ref hs, .int (nI gM), .int (nI gI), .ref hd])), (hs, .inl (a1, gW, .inl st)), (hd, .inr (1, [.ref hc, .int d_7.2.1, .int d_7.2.2.1, .int d_7.2.2.2.1, .int d_7.2.2.2.2])), (hc, .inl (a2, (gI + 4), .inl d_7.1))] H := hP
      have hD : va_D A [(h0, .inr (0, [.int (nI gW), .int (nI gC), .int (nI gV), .int (nI gB), .ref hs, .int (nI gM), .int (nI gI), .ref hd])), (hs, .inl (a1, gW, .inl st)), (hd, .inr (1, [.ref hc, .int d_7.2.1, .int d_7.2.2.1, .int d_7.2.2.2.1, .int d_7.2.2.2.2])), (hc, .inl (a2, (gI + 4), .inl d_7.1))] := hD
      refine lv_iinc (v := nI (i + 1)) (lv' := [(4, .int (nI (i + 1))), (0, .ref h0), (1, .int (nI v)), (2, .int (nI b)), (3, .int (nI k))]) hx hb dX0_writeNewContents_54 hl (k := 4) rfl (nI_1 i) (by decide) rfl (fun ls hl => ?_)
      have e9 : d_7 = dk_ws d (k * gW) st (i + 1) := ed_7
      rw [e9] at hP hD
      refine lv_goto (tgt := 24) hx hb dX0_writeNewContents_57 (by decide) ?_
      exact ih (i + 1) _ _ _ (by omega) (by omega) hP hD hS (lv_sub hl [1, 2, 3, 4, 0] rfl)
set_option maxHeartbeats 4000000 in
set_option maxRecDepth 100000 in
theorem k_X0_writeNewContents (l : Launch) (dC : Nat → ClassId) (dI : Nat → Nat → Nat) (h0 hs hd hc : Nat) (a1 a2 : ClassId) (gW gC gV gB gM gI : Nat) (hg : geo gW gC gV gB gM gI) (sz : Nat) (st : Nat → Int32) (d : DS) (hz : d.2.2.2.2 = 0 ∨ d.2.2.2.2 = 1) (hk0 : d.1 (gI + 3) = 0) (v b : Nat) (hv : v < gV) (hb9 : b < gB) : ctI nwL l yX0_writeNewContents wsX0_writeNewContents ({ frames := 5, cells := 0, slots := 0, locals := 115 } : Room) (dC, dI) [(a1, .int), (a2, .int)] (xo_w h0 hs hd hc a1 a2 gW gC gV gB gM gI) (st, d) sz [.ref h0, .int (nI v), .int (nI b)] (fun (r : Int32) (u : XS) => x_wn st d gW gC gV gB gM gI v b r u) := by
  refine Met.ofW (cc := cX0_writeNewContents) (maxL := 5) (ret := (some .int)) (by decide) rfl ?_
  intro p e s m args below meth c s₁ B hml hv
  obtain ⟨rfl, hsz, hP, hK, hD0, hN⟩ := hv
  have hx := B.exec
  have hb := B.bytes
  have hr := B.returns
  have hts := fun w h => atoms_spec (ws := wsX0_writeNewContents) B.pre w (List.mem_cons_of_mem _ h)
  have hown : s.vm.findClass RX0 = some m.cls := findClass_of_methodNamed B.named
  have hlocks := B.notSynchronized
  subst hsz
  have hD := hD0.self (sz := s.heap.size)
  generalize hAe : va_A ((xo_w h0 hs hd hc a1 a2 gW gC gV gB gM gI) (st, d)) s.heap.size = A at hD ⊢
  have hA : ∀ q : Nat, s.heap.size ≤ q → A q := fun q h => by rw [← hAe]; exact Or.inr h
  have hS : va_S A s.heap s.heap [] := va_S.rf
  have hl := lv_entry ([.ref h0, .int (nI v), .int (nI b)]) (n := 5) (Nat.le_of_ble_eq_true rfl)
  rw [lg_entry_eq]
  generalize (lg_sl ([.ref h0, .int (nI v), .int (nI b)]) ++ List.replicate (5 - (lg_sl ([.ref h0, .int (nI v), .int (nI b)])).length) Slot.unset).toArray = ls at hl ⊢
  have hP : va_P (dC, dI) vwCl [(h0, .inr (0, [.int (nI gW), .int (nI gC), .int (nI gV), .int (nI gB), .ref hs, .int (nI gM), .int (nI gI), .ref hd])), (hs, .inl (a1, gW, .inl st)), (hd, .inr (1, [.ref hc, .int d.2.1, .int d.2.2.1, .int d.2.2.2.1, .int d.2.2.2.2])), (hc, .inl (a2, (gI + 4), .inl d.1))] s.heap := hP
  have hD : va_D A [(h0, .inr (0, [.int (nI gW), .int (nI gC), .int (nI gV), .int (nI gB), .ref hs, .int (nI gM), .int (nI gI), .ref hd])), (hs, .inl (a1, gW, .inl st)), (hd, .inr (1, [.ref hc, .int d.2.1, .int d.2.2.1, .int d.2.2.2.1, .int d.2.2.2.2])), (hc, .inl (a2, (gI + 4), .inl d.1))] := hD
  have hl : lv_has ls 5 [(0, .ref h0), (1, .int (nI v)), (2, .int (nI b))] := hl
  obtain ⟨⟨hW1, hW2⟩, ⟨hC1, hC2⟩, ⟨hV1, hV2⟩, ⟨hB1, hB2⟩, eM, eI⟩ := id hg
  obtain ⟨hM2, hq2⟩ := geo_b hg
  refine lv_aload_n hx hb dX0_writeNewContents_0 rfl (lv_at hl 0 rfl) ?_
  refine lv_iload_n hx hb dX0_writeNewContents_1 rfl (lv_at hl 1 rfl) ?_
  refine lv_iload_n hx hb dX0_writeNewContents_2 rfl (lv_at hl 2 rfl) ?_
  refine xr_i (D := (dC, dI)) (wf := (xo_w h0 hs hd hc a1 a2 gW gC gV gB gM gI)) (u0 := (st, d)) (wr := []) (va_runV (As := [.int (nI v), .int (nI b)]) (rest := []) ⟨hx, hb, hml, hown, hts⟩ (k_X0_usedSlotsWithout l dC dI h0 hs hd hc a1 a2 gW gC gV gB gM gI hg s.heap.size st d v b hv hb9) (cwV 2 hts gX0_132 rfl rfl rfl (by decide +kernel) ⟨Nat.le_of_ble_eq_true rfl, Nat.le_of_ble_eq_true rfl⟩) (xp_v nwL_ok hK hN hP hD [0, 1, 2, 3] rfl rfl (va_recv hK hP (ci := 0) (q0 := 0) rfl rfl)) rfl rfl hl.1 rfl (lv_room (Nat.le_of_ble_eq_true rfl)) dX0_writeNewContents_3 ⟨Nat.zero_le _, Nat.zero_le _⟩) hP hD hS hA [0, 1, 2, 3] [] rfl rfl (by decide) (by decide) (fun r_1 u_2 H locs hw hP hD hS => ?_)
  obtain ⟨er_1, eu_2⟩ := hw
  rw [eu_2] at hP hD
  rw [er_1]
  have hP : va_P (dC, dI) vwCl [(h0, .inr (0, [.int (nI gW), .int (nI gC), .int (nI gV), .int (nI gB), .ref hs, .int (nI gM), .int (nI gI), .ref hd])), (hs, .inl (a1, gW, .inl st)), (hd, .inr (1, [.ref hc, .int d.2.1, .int d.2.2.1, .int d.2.2.2.1, .int d.2.2.2.2])), (hc, .inl (a2, (gI + 4), .inl d.1))] H := hP
  have hD : va_D A [(h0, .inr (0, [.int (nI gW), .int (nI gC), .int (nI gV), .int (nI gB), .ref hs, .int (nI gM), .int (nI gI), .ref hd])), (hs, .inl (a1, gW, .inl st)), (hd, .inr (1, [.ref hc, .int d.2.1, .int d.2.2.1, .int d.2.2.2.1, .int d.2.2.2.2])), (hc, .inl (a2, (gI + 4), .inl d.1))] := hD
  refine lv_aload_n hx hb dX0_writeNewContents_6 rfl (lv_at hl 0 rfl) ?_
  refine va_get (D := (dC, dI)) (ci := 0) (v := .int (nI gC)) (C := RX0) (T := TX0) (N := 8) hx hb hts inX0 hown hK hP 0 rfl rfl 1 (by decide) (hts _ tb_47) (fun _ h9 => h9) rfl dX0_writeNewContents_7 ?_
  refine lv_icmp_lt (tgt := 16) hx hb dX0_writeNewContents_10 (by decide) (fun c_3 => ?_) (fun c_3 => ?_)
  · refine lv_aload_n hx hb dX0_writeNewContents_16 rfl (lv_at hl 0 rfl) ?_
    refine xr_i (D := (dC, dI)) (wf := (xo_w h0 hs hd hc a1 a2 gW gC gV gB gM gI)) (u0 := (st, d)) (wr := []) (va_runV (As := []) (rest := []) ⟨hx, hb, hml, hown, hts⟩ (k_X0_lowestUnusedSlot l dC dI h0 hs hd hc a1 a2 gW gC gV gB gM gI hg H.size st d ) (cwV 0 hts gX0_135 rfl rfl rfl (by decide +kernel) ⟨Nat.le_of_ble_eq_true rfl, Nat.le_of_ble_eq_true rfl⟩) (xp_v nwL_ok hK hN hP hD [0, 1, 2, 3] rfl rfl (va_recv hK hP (ci := 0) (q0 := 0) rfl rfl)) rfl rfl hl.1 rfl (lv_room (Nat.le_of_ble_eq_true rfl)) dX0_writeNewContents_17 ⟨Nat.zero_le _, Nat.zero_le _⟩) hP hD hS hA [0, 1, 2, 3] [] rfl rfl (by decide) (by decide) (fun r_4 u_5 H locs hw hP hD hS => ?_)
    obtain ⟨⟨k, er_4, hk, hlo, hlk⟩, eu_5⟩ := hw
    rw [eu_5] at hP hD
    rw [er_4]
    have hP : va_P (dC, dI) vwCl [(h0, .inr (0, [.int (nI gW), .int (nI gC), .int (nI gV), .int (nI gB), .ref hs, .int (nI gM), .int (nI gI), .ref hd])), (hs, .inl (a1, gW, .inl st)), (hd, .inr (1, [.ref hc, .int d.2.1, .int d.2.2.1, .int d.2.2.2.1, .int d.2.2.2.2])), (hc, .inl (a2, (gI + 4), .inl d.1))] H := hP
    have hD : va_D A [(h0, .inr (0, [.int (nI gW), .int (nI gC), .int (nI gV), .int (nI gB), .ref hs, .int (nI gM), .int (nI gI), .ref hd])), (hs, .inl (a1, gW, .inl st)), (hd, .inr (1, [.ref hc, .int d.2.1, .int d.2.2.1, .int d.2.2.2.1, .int d.2.2.2.2])), (hc, .inl (a2, (gI + 4), .inl d.1))] := hD
    refine lv_istore_n (lv' := [(3, .int (nI k)), (0, .ref h0), (1, .int (nI v)), (2, .int (nI b))]) hx hb dX0_writeNewContents_20 rfl hl (by decide) rfl (fun ls hl => ?_)
    refine lv_iconst (v := 0) hx hb dX0_writeNewContents_21 (by decide) ?_
    refine lv_istore (lv' := [(4, .int 0), (3, .int (nI k)), (0, .ref h0), (1, .int (nI v)), (2, .int (nI b))]) hx hb dX0_writeNewContents_22 hl (by decide) rfl (fun ls hl => ?_)
    have hl : lv_has ls 5 [(4, .int (nI 0)), (3, .int (nI k)), (0, .ref h0), (1, .int (nI v)), (2, .int (nI b))] := hl
    refine lp_X0_writeNewContents_24 h0 hs hd hc a1 a2 gW gC gV gB gM gI hg st d v b k hk hx hb hml hown hts hK hN hA  (fun  H locs ls  hP hD hS hl => ?_) (gW + 1) 0 _ _ _ (by omega) (by omega) hP hD hS (lv_sub hl [2, 3, 4, 1, 0] rfl)
    · obtain ⟨d9, ed9⟩ : ∃ z, z = dk_ws d (k * gW) st gW := ⟨_, rfl⟩
      rw [← ed9] at hP hD
      have hP : va_P (dC, dI) vwCl [(h0, .inr (0, [.int (nI gW), .int (nI gC), .int (nI gV), .int (nI gB), .ref hs, .int (nI gM), .int (nI gI), .ref hd])), (hs, .inl (a1, gW, .inl st)), (hd, .inr (1, [.ref hc, .int d9.2.1, .int d9.2.2.1, .int d9.2.2.2.1, .int d9.2.2.2.2])), (hc, .inl (a2, (gI + 4), .inl d9.1))] H := hP
      have hD : va_D A [(h0, .inr (0, [.int (nI gW), .int (nI gC), .int (nI gV), .int (nI gB), .ref hs, .int (nI gM), .int (nI gI), .ref hd])), (hs, .inl (a1, gW, .inl st)), (hd, .inr (1, [.ref hc, .int d9.2.1, .int d9.2.2.1, .int d9.2.2.2.1, .int d9.2.2.2.2])), (hc, .inl (a2, (gI + 4), .inl d9.1))] := hD
      have hgs : k * gW + gW ≤ gM := by have q9 := geo_slot hg hk (show gW - 1 < gW by omega); omega
      have hz9 : d9.2.2.2.2 = 0 ∨ d9.2.2.2.2 = 1 := by rw [ed9]; exact dk_ws_z hz _
      have hk9 : d9.1 (gI + 3) = 0 := by rw [ed9]; exact (dk_ws_out (Or.inr (by omega))).trans hk0
      refine lv_aload_n hx hb dX0_writeNewContents_60 rfl (lv_at hl 0 rfl) ?_
      refine lv_iconst (v := 1) hx hb dX0_writeNewContents_61 (by decide) ?_
      refine lv_iload_n hx hb dX0_writeNewContents_62 rfl (lv_at hl 1 rfl) ?_
      refine lv_iload_n hx hb dX0_writeNewContents_63 rfl (lv_at hl 2 rfl) ?_
      refine lv_iload_n hx hb dX0_writeNewContents_64 rfl (lv_at hl 3 rfl) ?_
      refine xr_i (D := (dC, dI)) (wf := (xo_w h0 hs hd hc a1 a2 gW gC gV gB gM gI)) (u0 := (st, d9)) (wr := []) (va_runV (As := [.int 1, .int (nI v), .int (nI b), .int (nI k)]) (rest := []) ⟨hx, hb, hml, hown, hts⟩ (k_X0_change l dC dI h0 hs hd hc a1 a2 gW gC gV gB gM gI hg H.size st d9 hz9 hk9 1 v b hv ⟨fun _ => hb9, fun q9 => absurd q9 (by decide)⟩ (nI k)) (cwV 4 hts gX0_73 rfl rfl rfl (by decide +kernel) ⟨Nat.le_of_ble_eq_true rfl, Nat.le_of_ble_eq_true rfl⟩) (xp_v nwL_ok hK hN hP hD [0, 1, 2, 3] rfl rfl (va_recv hK hP (ci := 0) (q0 := 0) rfl rfl)) rfl rfl hl.1 rfl (lv_room (Nat.le_of_ble_eq_true rfl)) dX0_writeNewContents_65 ⟨Nat.zero_le _, Nat.zero_le _⟩) hP hD hS hA [0, 1, 2, 3] [] rfl rfl (by decide) (by decide) (fun r_6 u_7 H locs hw hP hD hS => ?_)
      obtain ⟨er_6, hw⟩ := hw
      rw [er_6]
      obtain ⟨d_8, ed_8⟩ : ∃ z, z = chg d9 gM gB gI 1 v b (nI k) := ⟨_, rfl⟩
      rw [hw, ← ed_8] at hP hD
      have hP : va_P (dC, dI) vwCl [(h0, .inr (0, [.int (nI gW), .int (nI gC), .int (nI gV), .int (nI gB), .ref hs, .int (nI gM), .int (nI gI), .ref hd])), (hs, .inl (a1, gW, .inl st)), (hd, .inr (1, [.ref hc, .int d_8.2.1, .int d_8.2.2.1, .int d_8.2.2.2.1, .int d_8.2.2.2.2])), (hc, .inl (a2, (gI + 4), .inl d_8.1))] H := hP
      have hD : va_D A [(h0, .inr (0, [.int (nI gW), .int (nI gC), .int (nI gV), .int (nI gB), .ref hs, .int (nI gM), .int (nI gI), .ref hd])), (hs, .inl (a1, gW, .inl st)), (hd, .inr (1, [.ref hc, .int d_8.2.1, .int d_8.2.2.1, .int d_8.2.2.2.1, .int d_8.2.2.2.2])), (hc, .inl (a2, (gI + 4), .inl d_8.1))] := hD
      exact W.iret (v := ans (chg d9 gM gB gI 1 v b (nI k))) hx hb hr (fun t ht hW => ⟨⟨ans (chg d9 gM gB gI 1 v b (nI k)), (st, d_8), rfl, Or.inr ⟨c_3, k, hk, hlo, hlk, by rw [ed9], by rw [ed_8, ed9]⟩, by rw [ht]; exact hP, hD⟩, hS.F ht⟩) hS.2.2 dX0_writeNewContents_68
  · refine lv_bipush (v := (-2)) hx hb dX0_writeNewContents_13 (by decide) ?_
    exact W.iret (v := (-2)) hx hb hr (fun t ht hW => ⟨⟨(-2), (st, d), rfl, Or.inl ⟨c_3, rfl, rfl⟩, by rw [ht]; exact hP, hD⟩, hS.F ht⟩) hS.2.2 dX0_writeNewContents_15
end
section
set_option maxHeartbeats 4000000 in
set_option maxRecDepth 100000 in
theorem k_X0_format (l : Launch) (dC : Nat → ClassId) (dI : Nat → Nat → Nat) (h0 hs hd hc : Nat) (a1 a2 : ClassId) (gW gC gV gB gM gI : Nat) (hg : geo gW gC gV gB gM gI) (sz : Nat) (st : Nat → Int32) (d : DS)  : ctI nwL l yX0_format wsX0_format ({ frames := 2, cells := 0, slots := 0, locals := 43 } : Room) (dC, dI) [(a1, .int), (a2, .int)] (xo_w h0 hs hd hc a1 a2 gW gC gV gB gM gI) (st, d) sz [.ref h0] (fun (r : Int32) (u : XS) => r = (x_format st d gW gC gV gB gM gI ).1 ∧ u = (x_format st d gW gC gV gB gM gI ).2) := by
  refine Met.ofW (cc := cX0_format) (maxL := 1) (ret := (some .int)) (by decide) rfl ?_
  intro p e s m args below meth c s₁ B hml hv
  obtain ⟨rfl, hsz, hP, hK, hD0, hN⟩ := hv
  have hx := B.exec
  have hb := B.bytes
  have hr := B.returns
  have hts := fun w h => atoms_spec (ws := wsX0_format) B.pre w (List.mem_cons_of_mem _ h)
  have hown : s.vm.findClass RX0 = some m.cls := findClass_of_methodNamed B.named
  have hlocks := B.notSynchronized
  subst hsz
  have hD := hD0.self (sz := s.heap.size)
  generalize hAe : va_A ((xo_w h0 hs hd hc a1 a2 gW gC gV gB gM gI) (st, d)) s.heap.size = A at hD ⊢
  have hA : ∀ q : Nat, s.heap.size ≤ q → A q := fun q h => by rw [← hAe]; exact Or.inr h
  have hS : va_S A s.heap s.heap [] := va_S.rf
  have hl := lv_entry ([.ref h0]) (n := 1) (Nat.le_of_ble_eq_true rfl)
  rw [lg_entry_eq]
  generalize (lg_sl ([.ref h0]) ++ List.replicate (1 - (lg_sl ([.ref h0])).length) Slot.unset).toArray = ls at hl ⊢
  have hP : va_P (dC, dI) vwCl [(h0, .inr (0, [.int (nI gW), .int (nI gC), .int (nI gV), .int (nI gB), .ref hs, .int (nI gM), .int (nI gI), .ref hd])), (hs, .inl (a1, gW, .inl st)), (hd, .inr (1, [.ref hc, .int d.2.1, .int d.2.2.1, .int d.2.2.2.1, .int d.2.2.2.2])), (hc, .inl (a2, (gI + 4), .inl d.1))] s.heap := hP
  have hD : va_D A [(h0, .inr (0, [.int (nI gW), .int (nI gC), .int (nI gV), .int (nI gB), .ref hs, .int (nI gM), .int (nI gI), .ref hd])), (hs, .inl (a1, gW, .inl st)), (hd, .inr (1, [.ref hc, .int d.2.1, .int d.2.2.1, .int d.2.2.2.1, .int d.2.2.2.2])), (hc, .inl (a2, (gI + 4), .inl d.1))] := hD
  have hl : lv_has ls 1 [(0, .ref h0)] := hl
  obtain ⟨⟨hW1, hW2⟩, ⟨hC1, hC2⟩, ⟨hV1, hV2⟩, ⟨hB1, hB2⟩, eM, eI⟩ := id hg
  obtain ⟨hM2, hq2⟩ := geo_b hg
  refine lv_aload_n hx hb dX0_format_0 rfl (lv_at hl 0 rfl) ?_
  refine va_get (D := (dC, dI)) (ci := 0) (v := .ref hd) (C := RX0) (T := TX0) (N := 8) hx hb hts inX0 hown hK hP 0 rfl rfl 7 (by decide) (hts _ tb_53) (fun _ h9 => h9) rfl dX0_format_1 ?_
  refine xr_v (D := (dC, dI)) (wf := (dk_w hd hc a2 (gI + 4))) (u0 := d) (wr := [(h0, .inr (0, [.int (nI gW), .int (nI gC), .int (nI gV), .int (nI gB), .ref hs, .int (nI gM), .int (nI gI), .ref hd])), (hs, .inl (a1, gW, .inl st))]) (va_runVN (As := []) (rest := []) ⟨hx, hb, hml, hown, hts⟩ (k_X1_wipe l dC dI hd hc a2 (gI + 4) (by omega) s.heap.size d ) ⟨va_cnB 0 hts gX0_45 rfl rfl rfl (hN _ nn_45) (hts _ tb_3) (by decide +kernel) ⟨Nat.le_of_ble_eq_true rfl, Nat.le_of_ble_eq_true rfl⟩, hts _ tb_77, hts _ ts_0⟩ (xp_v nwL_ok (hK.sub (tys' := [(a2, .int)]) [1] rfl) hN hP hD [2, 3] rfl rfl (va_recv hK hP (ci := 1) (q0 := 2) rfl rfl)) rfl rfl hl.1 rfl (lv_room (Nat.le_of_ble_eq_true rfl)) dX0_format_4 ⟨Nat.zero_le _, Nat.zero_le _⟩) hP hD hS hA [2, 3] [0, 1] rfl rfl (by decide) (by decide) (fun u_2 H locs hw hP hD hS => ?_)
  obtain ⟨d_3, ed_3⟩ : ∃ z, z = ((fillN d.1 (gI + 4) 0, d.2.1, 0, d.2.2.2.1, 0) : DS) := ⟨_, rfl⟩
  rw [hw, ← ed_3] at hP hD
  have hP : va_P (dC, dI) vwCl [(h0, .inr (0, [.int (nI gW), .int (nI gC), .int (nI gV), .int (nI gB), .ref hs, .int (nI gM), .int (nI gI), .ref hd])), (hs, .inl (a1, gW, .inl st)), (hd, .inr (1, [.ref hc, .int d_3.2.1, .int d_3.2.2.1, .int d_3.2.2.2.1, .int d_3.2.2.2.2])), (hc, .inl (a2, (gI + 4), .inl d_3.1))] H := hP
  have hD : va_D A [(h0, .inr (0, [.int (nI gW), .int (nI gC), .int (nI gV), .int (nI gB), .ref hs, .int (nI gM), .int (nI gI), .ref hd])), (hs, .inl (a1, gW, .inl st)), (hd, .inr (1, [.ref hc, .int d_3.2.1, .int d_3.2.2.1, .int d_3.2.2.2.1, .int d_3.2.2.2.2])), (hc, .inl (a2, (gI + 4), .inl d_3.1))] := hD
  refine lv_aload_n hx hb dX0_format_7 rfl (lv_at hl 0 rfl) ?_
  refine xr_v (D := (dC, dI)) (wf := (xo_w h0 hs hd hc a1 a2 gW gC gV gB gM gI)) (u0 := (st, d_3)) (wr := []) (va_runV (As := []) (rest := []) ⟨hx, hb, hml, hown, hts⟩ (k_X0_clearStaged l dC dI h0 hs hd hc a1 a2 gW gC gV gB gM gI hg H.size st d_3 ) (cwV 0 hts gX0_48 rfl rfl rfl (by decide +kernel) ⟨Nat.le_of_ble_eq_true rfl, Nat.le_of_ble_eq_true rfl⟩) (xp_v nwL_ok hK hN hP hD [0, 1, 2, 3] rfl rfl (va_recv hK hP (ci := 0) (q0 := 0) rfl rfl)) rfl rfl hl.1 rfl (lv_room (Nat.le_of_ble_eq_true rfl)) dX0_format_8 ⟨Nat.zero_le _, Nat.zero_le _⟩) hP hD hS hA [0, 1, 2, 3] [] rfl rfl (by decide) (by decide) (fun u_5 H locs hw hP hD hS => ?_)
  obtain ⟨s_6, es_6⟩ : ∃ z, z = fillN st gW 0 := ⟨_, rfl⟩
  rw [hw, ← es_6] at hP hD
  have hP : va_P (dC, dI) vwCl [(h0, .inr (0, [.int (nI gW), .int (nI gC), .int (nI gV), .int (nI gB), .ref hs, .int (nI gM), .int (nI gI), .ref hd])), (hs, .inl (a1, gW, .inl s_6)), (hd, .inr (1, [.ref hc, .int d_3.2.1, .int d_3.2.2.1, .int d_3.2.2.2.1, .int d_3.2.2.2.2])), (hc, .inl (a2, (gI + 4), .inl d_3.1))] H := hP
  have hD : va_D A [(h0, .inr (0, [.int (nI gW), .int (nI gC), .int (nI gV), .int (nI gB), .ref hs, .int (nI gM), .int (nI gI), .ref hd])), (hs, .inl (a1, gW, .inl s_6)), (hd, .inr (1, [.ref hc, .int d_3.2.1, .int d_3.2.2.1, .int d_3.2.2.2.1, .int d_3.2.2.2.2])), (hc, .inl (a2, (gI + 4), .inl d_3.1))] := hD
  refine lv_iconst (v := 0) hx hb dX0_format_11 (by decide) ?_
  exact W.iret (v := 0) hx hb hr (fun t ht hW => ⟨⟨0, (s_6, d_3), rfl, ⟨rfl, by unfold x_format; rw [ed_3, es_6]⟩, by rw [ht]; exact hP, hD⟩, hS.F ht⟩) hS.2.2 dX0_format_12
set_option maxHeartbeats 4000000 in
set_option maxRecDepth 100000 in
theorem k_X0_stageWord (l : Launch) (dC : Nat → ClassId) (dI : Nat → Nat → Nat) (h0 hs hd hc : Nat) (a1 a2 : ClassId) (gW gC gV gB gM gI : Nat) (hg : geo gW gC gV gB gM gI) (sz : Nat) (st : Nat → Int32) (d : DS) (hz : d.2.2.2.2 = 0 ∨ d.2.2.2.2 = 1) (i x : Int32) : ctI nwL l yX0_stageWord wsX0_stageWord ({ frames := 1, cells := 0, slots := 0, locals := 21 } : Room) (dC, dI) [(a1, .int), (a2, .int)] (xo_w h0 hs hd hc a1 a2 gW gC gV gB gM gI) (st, d) sz [.ref h0, .int i, .int x] (fun (r : Int32) (u : XS) => r = (x_stage st d gW gC gV gB gM gI i x).1 ∧ u = (x_stage st d gW gC gV gB gM gI i x).2) := by
  refine Met.ofW (cc := cX0_stageWord) (maxL := 3) (ret := (some .int)) (by decide) rfl ?_
  intro p e s m args below meth c s₁ B hml hv
  obtain ⟨rfl, hsz, hP, hK, hD0, hN⟩ := hv
  have hx := B.exec
  have hb := B.bytes
  have hr := B.returns
  have hts := fun w h => atoms_spec (ws := wsX0_stageWord) B.pre w (List.mem_cons_of_mem _ h)
  have hown : s.vm.findClass RX0 = some m.cls := findClass_of_methodNamed B.named
  have hlocks := B.notSynchronized
  subst hsz
  have hD := hD0.self (sz := s.heap.size)
  generalize hAe : va_A ((xo_w h0 hs hd hc a1 a2 gW gC gV gB gM gI) (st, d)) s.heap.size = A at hD ⊢
  have hA : ∀ q : Nat, s.heap.size ≤ q → A q := fun q h => by rw [← hAe]; exact Or.inr h
  have hS : va_S A s.heap s.heap [] := va_S.rf
  have hl := lv_entry ([.ref h0, .int i, .int x]) (n := 3) (Nat.le_of_ble_eq_true rfl)
  rw [lg_entry_eq]
  generalize (lg_sl ([.ref h0, .int i, .int x]) ++ List.replicate (3 - (lg_sl ([.ref h0, .int i, .int x])).length) Slot.unset).toArray = ls at hl ⊢
  have hP : va_P (dC, dI) vwCl [(h0, .inr (0, [.int (nI gW), .int (nI gC), .int (nI gV), .int (nI gB), .ref hs, .int (nI gM), .int (nI gI), .ref hd])), (hs, .inl (a1, gW, .inl st)), (hd, .inr (1, [.ref hc, .int d.2.1, .int d.2.2.1, .int d.2.2.2.1, .int d.2.2.2.2])), (hc, .inl (a2, (gI + 4), .inl d.1))] s.heap := hP
  have hD : va_D A [(h0, .inr (0, [.int (nI gW), .int (nI gC), .int (nI gV), .int (nI gB), .ref hs, .int (nI gM), .int (nI gI), .ref hd])), (hs, .inl (a1, gW, .inl st)), (hd, .inr (1, [.ref hc, .int d.2.1, .int d.2.2.1, .int d.2.2.2.1, .int d.2.2.2.2])), (hc, .inl (a2, (gI + 4), .inl d.1))] := hD
  have hl : lv_has ls 3 [(0, .ref h0), (1, .int i), (2, .int x)] := hl
  obtain ⟨⟨hW1, hW2⟩, ⟨hC1, hC2⟩, ⟨hV1, hV2⟩, ⟨hB1, hB2⟩, eM, eI⟩ := id hg
  obtain ⟨hM2, hq2⟩ := geo_b hg
  refine lv_aload_n hx hb dX0_stageWord_0 rfl (lv_at hl 0 rfl) ?_
  refine va_get (D := (dC, dI)) (ci := 0) (v := .ref hd) (C := RX0) (T := TX0) (N := 8) hx hb hts inX0 hown hK hP 0 rfl rfl 7 (by decide) (hts _ tb_53) (fun _ h9 => h9) rfl dX0_stageWord_1 ?_
  refine xr_i (D := (dC, dI)) (wf := (dk_w hd hc a2 (gI + 4))) (u0 := d) (wr := [(h0, .inr (0, [.int (nI gW), .int (nI gC), .int (nI gV), .int (nI gB), .ref hs, .int (nI gM), .int (nI gI), .ref hd])), (hs, .inl (a1, gW, .inl st))]) (va_runVN (As := []) (rest := []) ⟨hx, hb, hml, hown, hts⟩ (k_X1_isDown l dC dI hd hc a2 (gI + 4) (by omega) s.heap.size d hz) ⟨va_cnB 0 hts gX0_51 rfl rfl rfl (hN _ nn_51) (hts _ tb_3) (by decide +kernel) ⟨Nat.le_of_ble_eq_true rfl, Nat.le_of_ble_eq_true rfl⟩, hts _ tb_93, hts _ ts_2⟩ (xp_v nwL_ok (hK.sub (tys' := [(a2, .int)]) [1] rfl) hN hP hD [2, 3] rfl rfl (va_recv hK hP (ci := 1) (q0 := 2) rfl rfl)) rfl rfl hl.1 rfl (lv_room (Nat.le_of_ble_eq_true rfl)) dX0_stageWord_4 ⟨Nat.zero_le _, Nat.zero_le _⟩) hP hD hS hA [2, 3] [0, 1] rfl rfl (by decide) (by decide) (fun r_1 u_2 H locs hw hP hD hS => ?_)
  obtain ⟨er_1, eu_2⟩ := hw
  rw [eu_2] at hP hD
  rw [er_1]
  have hP : va_P (dC, dI) vwCl [(h0, .inr (0, [.int (nI gW), .int (nI gC), .int (nI gV), .int (nI gB), .ref hs, .int (nI gM), .int (nI gI), .ref hd])), (hs, .inl (a1, gW, .inl st)), (hd, .inr (1, [.ref hc, .int d.2.1, .int d.2.2.1, .int d.2.2.2.1, .int d.2.2.2.2])), (hc, .inl (a2, (gI + 4), .inl d.1))] H := hP
  have hD : va_D A [(h0, .inr (0, [.int (nI gW), .int (nI gC), .int (nI gV), .int (nI gB), .ref hs, .int (nI gM), .int (nI gI), .ref hd])), (hs, .inl (a1, gW, .inl st)), (hd, .inr (1, [.ref hc, .int d.2.1, .int d.2.2.1, .int d.2.2.2.1, .int d.2.2.2.2])), (hc, .inl (a2, (gI + 4), .inl d.1))] := hD
  refine lv_if_eq (tgt := 13) hx hb dX0_stageWord_7 (by decide) (fun c_3 => ?_) (fun c_3 => ?_)
  · refine lv_aload_n hx hb dX0_stageWord_13 rfl (lv_at hl 0 rfl) ?_
    refine lv_iload_n hx hb dX0_stageWord_14 rfl (lv_at hl 1 rfl) ?_
    refine xr_i (D := (dC, dI)) (wf := (xo_w h0 hs hd hc a1 a2 gW gC gV gB gM gI)) (u0 := (st, d)) (wr := []) (va_runV (As := [.int i]) (rest := []) ⟨hx, hb, hml, hown, hts⟩ (k_X0_isWord l dC dI h0 hs hd hc a1 a2 gW gC gV gB gM gI hg H.size st d i) (cwV 1 hts gX0_55 rfl rfl rfl (by decide +kernel) ⟨Nat.le_of_ble_eq_true rfl, Nat.le_of_ble_eq_true rfl⟩) (xp_v nwL_ok hK hN hP hD [0, 1, 2, 3] rfl rfl (va_recv hK hP (ci := 0) (q0 := 0) rfl rfl)) rfl rfl hl.1 rfl (lv_room (Nat.le_of_ble_eq_true rfl)) dX0_stageWord_15 ⟨Nat.zero_le _, Nat.zero_le _⟩) hP hD hS hA [0, 1, 2, 3] [] rfl rfl (by decide) (by decide) (fun r_4 u_5 H locs hw hP hD hS => ?_)
    obtain ⟨er_4, eu_5⟩ := hw
    rw [eu_5] at hP hD
    rw [er_4]
    have hP : va_P (dC, dI) vwCl [(h0, .inr (0, [.int (nI gW), .int (nI gC), .int (nI gV), .int (nI gB), .ref hs, .int (nI gM), .int (nI gI), .ref hd])), (hs, .inl (a1, gW, .inl st)), (hd, .inr (1, [.ref hc, .int d.2.1, .int d.2.2.1, .int d.2.2.2.1, .int d.2.2.2.2])), (hc, .inl (a2, (gI + 4), .inl d.1))] H := hP
    have hD : va_D A [(h0, .inr (0, [.int (nI gW), .int (nI gC), .int (nI gV), .int (nI gB), .ref hs, .int (nI gM), .int (nI gI), .ref hd])), (hs, .inl (a1, gW, .inl st)), (hd, .inr (1, [.ref hc, .int d.2.1, .int d.2.2.1, .int d.2.2.2.1, .int d.2.2.2.2])), (hc, .inl (a2, (gI + 4), .inl d.1))] := hD
    refine lv_if_ne (tgt := 23) hx hb dX0_stageWord_18 (by decide) (fun c_6 => ?_) (fun c_6 => ?_)
    · obtain ⟨j, hj, ej⟩ := inR_nz (by omega) c_6
      have hl : lv_has ls 3 [(0, .ref h0), (1, .int (nI j)), (2, .int x)] := by have q9 := hl; rw [ej] at q9; exact q9
      refine lv_aload_n hx hb dX0_stageWord_23 rfl (lv_at hl 0 rfl) ?_
      refine va_get (D := (dC, dI)) (ci := 0) (v := .ref hs) (C := RX0) (T := TX0) (N := 8) hx hb hts inX0 hown hK hP 0 rfl rfl 4 (by decide) (hts _ tb_50) (fun _ h9 => h9) rfl dX0_stageWord_24 ?_
      refine lv_iload_n hx hb dX0_stageWord_27 rfl (lv_at hl 1 rfl) ?_
      refine lv_iload_n hx hb dX0_stageWord_28 rfl (lv_at hl 2 rfl) ?_
      refine va_iast hx hb hK hP hD hS 1 0 rfl rfl (vp_in_nI (n := j) (by omega) (by omega)) dX0_stageWord_29 (fun H locs hP hD hS => ?_)
      have hP : va_P (dC, dI) vwCl [(h0, .inr (0, [.int (nI gW), .int (nI gC), .int (nI gV), .int (nI gB), .ref hs, .int (nI gM), .int (nI gI), .ref hd])), (hs, .inl (a1, gW, .inl (upd st (nI j).toNatClampNeg x))), (hd, .inr (1, [.ref hc, .int d.2.1, .int d.2.2.1, .int d.2.2.2.1, .int d.2.2.2.2])), (hc, .inl (a2, (gI + 4), .inl d.1))] H := hP
      have hD : va_D A [(h0, .inr (0, [.int (nI gW), .int (nI gC), .int (nI gV), .int (nI gB), .ref hs, .int (nI gM), .int (nI gI), .ref hd])), (hs, .inl (a1, gW, .inl (upd st (nI j).toNatClampNeg x))), (hd, .inr (1, [.ref hc, .int d.2.1, .int d.2.2.1, .int d.2.2.2.1, .int d.2.2.2.2])), (hc, .inl (a2, (gI + 4), .inl d.1))] := hD
      rw [nI_clamp (n := j) (by omega)] at hP hD
      refine lv_iconst (v := 0) hx hb dX0_stageWord_30 (by decide) ?_
      exact W.iret (v := 0) hx hb hr (fun t ht hW => ⟨⟨0, ((upd st j x), d), rfl, ⟨by unfold x_stage; rw [if_pos c_3, if_neg c_6, ej, nI_clamp (n := j) (by omega)], by unfold x_stage; rw [if_pos c_3, if_neg c_6, ej, nI_clamp (n := j) (by omega)]⟩, by rw [ht]; exact hP, hD⟩, hS.F ht⟩) hS.2.2 dX0_stageWord_31
    · refine lv_iconst (v := (-1)) hx hb dX0_stageWord_21 (by decide) ?_
      exact W.iret (v := (-1)) hx hb hr (fun t ht hW => ⟨⟨(-1), (st, d), rfl, ⟨by unfold x_stage; rw [if_pos c_3, if_pos c_6], by unfold x_stage; rw [if_pos c_3, if_pos c_6]⟩, by rw [ht]; exact hP, hD⟩, hS.F ht⟩) hS.2.2 dX0_stageWord_22
  · refine lv_bipush (v := (-4)) hx hb dX0_stageWord_10 (by decide) ?_
    exact W.iret (v := (-4)) hx hb hr (fun t ht hW => ⟨⟨(-4), (st, d), rfl, ⟨by unfold x_stage; rw [if_neg c_3], by unfold x_stage; rw [if_neg c_3]⟩, by rw [ht]; exact hP, hD⟩, hS.F ht⟩) hS.2.2 dX0_stageWord_12
set_option maxHeartbeats 4000000 in
set_option maxRecDepth 100000 in
theorem k_X0_readWord (l : Launch) (dC : Nat → ClassId) (dI : Nat → Nat → Nat) (h0 hs hd hc : Nat) (a1 a2 : ClassId) (gW gC gV gB gM gI : Nat) (hg : geo gW gC gV gB gM gI) (sz : Nat) (st : Nat → Int32) (d : DS) (hz : d.2.2.2.2 = 0 ∨ d.2.2.2.2 = 1) (hmr : d.2.2.2.2 = 0 → ∀ v b, v < gV → b < gB → ∃ j, j ≤ gC + 1 ∧ d.1 (gM + v * gB + b) = nI j) (vol lb i : Int32) : ctI nwL l yX0_readWord wsX0_readWord ({ frames := 2, cells := 0, slots := 0, locals := 44 } : Room) (dC, dI) [(a1, .int), (a2, .int)] (xo_w h0 hs hd hc a1 a2 gW gC gV gB gM gI) (st, d) sz [.ref h0, .int vol, .int lb, .int i] (fun (r : Int32) (u : XS) => r = (x_read st d gW gC gV gB gM gI vol lb i).1 ∧ u = (x_read st d gW gC gV gB gM gI vol lb i).2) := by
  refine Met.ofW (cc := cX0_readWord) (maxL := 5) (ret := (some .int)) (by decide) rfl ?_
  intro p e s m args below meth c s₁ B hml hv
  obtain ⟨rfl, hsz, hP, hK, hD0, hN⟩ := hv
  have hx := B.exec
  have hb := B.bytes
  have hr := B.returns
  have hts := fun w h => atoms_spec (ws := wsX0_readWord) B.pre w (List.mem_cons_of_mem _ h)
  have hown : s.vm.findClass RX0 = some m.cls := findClass_of_methodNamed B.named
  have hlocks := B.notSynchronized
  subst hsz
  have hD := hD0.self (sz := s.heap.size)
  generalize hAe : va_A ((xo_w h0 hs hd hc a1 a2 gW gC gV gB gM gI) (st, d)) s.heap.size = A at hD ⊢
  have hA : ∀ q : Nat, s.heap.size ≤ q → A q := fun q h => by rw [← hAe]; exact Or.inr h
  have hS : va_S A s.heap s.heap [] := va_S.rf
  have hl := lv_entry ([.ref h0, .int vol, .int lb, .int i]) (n := 5) (Nat.le_of_ble_eq_true rfl)
  rw [lg_entry_eq]
  generalize (lg_sl ([.ref h0, .int vol, .int lb, .int i]) ++ List.replicate (5 - (lg_sl ([.ref h0, .int vol, .int lb, .int i])).length) Slot.unset).toArray = ls at hl ⊢
  have hP : va_P (dC, dI) vwCl [(h0, .inr (0, [.int (nI gW), .int (nI gC), .int (nI gV), .int (nI gB), .ref hs, .int (nI gM), .int (nI gI), .ref hd])), (hs, .inl (a1, gW, .inl st)), (hd, .inr (1, [.ref hc, .int d.2.1, .int d.2.2.1, .int d.2.2.2.1, .int d.2.2.2.2])), (hc, .inl (a2, (gI + 4), .inl d.1))] s.heap := hP
  have hD : va_D A [(h0, .inr (0, [.int (nI gW), .int (nI gC), .int (nI gV), .int (nI gB), .ref hs, .int (nI gM), .int (nI gI), .ref hd])), (hs, .inl (a1, gW, .inl st)), (hd, .inr (1, [.ref hc, .int d.2.1, .int d.2.2.1, .int d.2.2.2.1, .int d.2.2.2.2])), (hc, .inl (a2, (gI + 4), .inl d.1))] := hD
  have hl : lv_has ls 5 [(0, .ref h0), (1, .int vol), (2, .int lb), (3, .int i)] := hl
  obtain ⟨⟨hW1, hW2⟩, ⟨hC1, hC2⟩, ⟨hV1, hV2⟩, ⟨hB1, hB2⟩, eM, eI⟩ := id hg
  obtain ⟨hM2, hq2⟩ := geo_b hg
  refine lv_aload_n hx hb dX0_readWord_0 rfl (lv_at hl 0 rfl) ?_
  refine va_get (D := (dC, dI)) (ci := 0) (v := .ref hd) (C := RX0) (T := TX0) (N := 8) hx hb hts inX0 hown hK hP 0 rfl rfl 7 (by decide) (hts _ tb_53) (fun _ h9 => h9) rfl dX0_readWord_1 ?_
  refine xr_i (D := (dC, dI)) (wf := (dk_w hd hc a2 (gI + 4))) (u0 := d) (wr := [(h0, .inr (0, [.int (nI gW), .int (nI gC), .int (nI gV), .int (nI gB), .ref hs, .int (nI gM), .int (nI gI), .ref hd])), (hs, .inl (a1, gW, .inl st))]) (va_runVN (As := []) (rest := []) ⟨hx, hb, hml, hown, hts⟩ (k_X1_isDown l dC dI hd hc a2 (gI + 4) (by omega) s.heap.size d hz) ⟨va_cnB 0 hts gX0_51 rfl rfl rfl (hN _ nn_51) (hts _ tb_3) (by decide +kernel) ⟨Nat.le_of_ble_eq_true rfl, Nat.le_of_ble_eq_true rfl⟩, hts _ tb_93, hts _ ts_2⟩ (xp_v nwL_ok (hK.sub (tys' := [(a2, .int)]) [1] rfl) hN hP hD [2, 3] rfl rfl (va_recv hK hP (ci := 1) (q0 := 2) rfl rfl)) rfl rfl hl.1 rfl (lv_room (Nat.le_of_ble_eq_true rfl)) dX0_readWord_4 ⟨Nat.zero_le _, Nat.zero_le _⟩) hP hD hS hA [2, 3] [0, 1] rfl rfl (by decide) (by decide) (fun r_1 u_2 H locs hw hP hD hS => ?_)
  obtain ⟨er_1, eu_2⟩ := hw
  rw [eu_2] at hP hD
  rw [er_1]
  have hP : va_P (dC, dI) vwCl [(h0, .inr (0, [.int (nI gW), .int (nI gC), .int (nI gV), .int (nI gB), .ref hs, .int (nI gM), .int (nI gI), .ref hd])), (hs, .inl (a1, gW, .inl st)), (hd, .inr (1, [.ref hc, .int d.2.1, .int d.2.2.1, .int d.2.2.2.1, .int d.2.2.2.2])), (hc, .inl (a2, (gI + 4), .inl d.1))] H := hP
  have hD : va_D A [(h0, .inr (0, [.int (nI gW), .int (nI gC), .int (nI gV), .int (nI gB), .ref hs, .int (nI gM), .int (nI gI), .ref hd])), (hs, .inl (a1, gW, .inl st)), (hd, .inr (1, [.ref hc, .int d.2.1, .int d.2.2.1, .int d.2.2.2.1, .int d.2.2.2.2])), (hc, .inl (a2, (gI + 4), .inl d.1))] := hD
  refine lv_if_eq (tgt := 13) hx hb dX0_readWord_7 (by decide) (fun c_3 => ?_) (fun c_3 => ?_)
  · refine lv_aload_n hx hb dX0_readWord_13 rfl (lv_at hl 0 rfl) ?_
    refine lv_iload_n hx hb dX0_readWord_14 rfl (lv_at hl 1 rfl) ?_
    refine lv_iload_n hx hb dX0_readWord_15 rfl (lv_at hl 2 rfl) ?_
    refine xr_i (D := (dC, dI)) (wf := (xo_w h0 hs hd hc a1 a2 gW gC gV gB gM gI)) (u0 := (st, d)) (wr := []) (va_runV (As := [.int vol, .int lb]) (rest := []) ⟨hx, hb, hml, hown, hts⟩ (k_X0_isBlock l dC dI h0 hs hd hc a1 a2 gW gC gV gB gM gI hg H.size st d vol lb) (cwV 2 hts gX0_59 rfl rfl rfl (by decide +kernel) ⟨Nat.le_of_ble_eq_true rfl, Nat.le_of_ble_eq_true rfl⟩) (xp_v nwL_ok hK hN hP hD [0, 1, 2, 3] rfl rfl (va_recv hK hP (ci := 0) (q0 := 0) rfl rfl)) rfl rfl hl.1 rfl (lv_room (Nat.le_of_ble_eq_true rfl)) dX0_readWord_16 ⟨Nat.zero_le _, Nat.zero_le _⟩) hP hD hS hA [0, 1, 2, 3] [] rfl rfl (by decide) (by decide) (fun r_4 u_5 H locs hw hP hD hS => ?_)
    obtain ⟨er_4, eu_5⟩ := hw
    rw [eu_5] at hP hD
    rw [er_4]
    have hP : va_P (dC, dI) vwCl [(h0, .inr (0, [.int (nI gW), .int (nI gC), .int (nI gV), .int (nI gB), .ref hs, .int (nI gM), .int (nI gI), .ref hd])), (hs, .inl (a1, gW, .inl st)), (hd, .inr (1, [.ref hc, .int d.2.1, .int d.2.2.1, .int d.2.2.2.1, .int d.2.2.2.2])), (hc, .inl (a2, (gI + 4), .inl d.1))] H := hP
    have hD : va_D A [(h0, .inr (0, [.int (nI gW), .int (nI gC), .int (nI gV), .int (nI gB), .ref hs, .int (nI gM), .int (nI gI), .ref hd])), (hs, .inl (a1, gW, .inl st)), (hd, .inr (1, [.ref hc, .int d.2.1, .int d.2.2.1, .int d.2.2.2.1, .int d.2.2.2.2])), (hc, .inl (a2, (gI + 4), .inl d.1))] := hD
    refine lv_if_eq (tgt := 30) hx hb dX0_readWord_19 (by decide) (fun c_6 => ?_) (fun c_6 => ?_)
    · refine lv_iconst (v := 0) hx hb dX0_readWord_30 (by decide) ?_
      exact W.iret (v := 0) hx hb hr (fun t ht hW => ⟨⟨0, (st, d), rfl, ⟨by unfold x_read; rw [if_pos c_3, if_pos c_6], by unfold x_read; rw [if_pos c_3, if_pos c_6]⟩, by rw [ht]; exact hP, hD⟩, hS.F ht⟩) hS.2.2 dX0_readWord_31
    · obtain ⟨v, b, hv, hb9, ev, eb⟩ := inB_nz (by omega) (by omega) c_6
      have hl : lv_has ls 5 [(0, .ref h0), (1, .int (nI v)), (2, .int lb), (3, .int i)] := by have q9 := hl; rw [ev] at q9; exact q9
      have hl : lv_has ls 5 [(0, .ref h0), (1, .int (nI v)), (2, .int (nI b)), (3, .int i)] := by have q9 := hl; rw [eb] at q9; exact q9
      refine lv_aload_n hx hb dX0_readWord_22 rfl (lv_at hl 0 rfl) ?_
      refine lv_iload_n hx hb dX0_readWord_23 rfl (lv_at hl 3 rfl) ?_
      refine xr_i (D := (dC, dI)) (wf := (xo_w h0 hs hd hc a1 a2 gW gC gV gB gM gI)) (u0 := (st, d)) (wr := []) (va_runV (As := [.int i]) (rest := []) ⟨hx, hb, hml, hown, hts⟩ (k_X0_isWord l dC dI h0 hs hd hc a1 a2 gW gC gV gB gM gI hg H.size st d i) (cwV 1 hts gX0_55 rfl rfl rfl (by decide +kernel) ⟨Nat.le_of_ble_eq_true rfl, Nat.le_of_ble_eq_true rfl⟩) (xp_v nwL_ok hK hN hP hD [0, 1, 2, 3] rfl rfl (va_recv hK hP (ci := 0) (q0 := 0) rfl rfl)) rfl rfl hl.1 rfl (lv_room (Nat.le_of_ble_eq_true rfl)) dX0_readWord_24 ⟨Nat.zero_le _, Nat.zero_le _⟩) hP hD hS hA [0, 1, 2, 3] [] rfl rfl (by decide) (by decide) (fun r_7 u_8 H locs hw hP hD hS => ?_)
      obtain ⟨er_7, eu_8⟩ := hw
      rw [eu_8] at hP hD
      rw [er_7]
      have hP : va_P (dC, dI) vwCl [(h0, .inr (0, [.int (nI gW), .int (nI gC), .int (nI gV), .int (nI gB), .ref hs, .int (nI gM), .int (nI gI), .ref hd])), (hs, .inl (a1, gW, .inl st)), (hd, .inr (1, [.ref hc, .int d.2.1, .int d.2.2.1, .int d.2.2.2.1, .int d.2.2.2.2])), (hc, .inl (a2, (gI + 4), .inl d.1))] H := hP
      have hD : va_D A [(h0, .inr (0, [.int (nI gW), .int (nI gC), .int (nI gV), .int (nI gB), .ref hs, .int (nI gM), .int (nI gI), .ref hd])), (hs, .inl (a1, gW, .inl st)), (hd, .inr (1, [.ref hc, .int d.2.1, .int d.2.2.1, .int d.2.2.2.1, .int d.2.2.2.2])), (hc, .inl (a2, (gI + 4), .inl d.1))] := hD
      refine lv_if_ne (tgt := 32) hx hb dX0_readWord_27 (by decide) (fun c_9 => ?_) (fun c_9 => ?_)
      · obtain ⟨j, hj, ej⟩ := inR_nz (by omega) c_9
        have hl : lv_has ls 5 [(0, .ref h0), (1, .int (nI v)), (2, .int (nI b)), (3, .int (nI j))] := by have q9 := hl; rw [ej] at q9; exact q9
        refine lv_aload_n hx hb dX0_readWord_32 rfl (lv_at hl 0 rfl) ?_
        refine lv_iload_n hx hb dX0_readWord_33 rfl (lv_at hl 1 rfl) ?_
        refine lv_iload_n hx hb dX0_readWord_34 rfl (lv_at hl 2 rfl) ?_
        refine xr_i (D := (dC, dI)) (wf := (xo_w h0 hs hd hc a1 a2 gW gC gV gB gM gI)) (u0 := (st, d)) (wr := []) (va_runV (As := [.int (nI v), .int (nI b)]) (rest := []) ⟨hx, hb, hml, hown, hts⟩ (k_X0_mappedSlot l dC dI h0 hs hd hc a1 a2 gW gC gV gB gM gI hg H.size st d v b (by omega) (by omega)) (cwV 2 hts gX0_70 rfl rfl rfl (by decide +kernel) ⟨Nat.le_of_ble_eq_true rfl, Nat.le_of_ble_eq_true rfl⟩) (xp_v nwL_ok hK hN hP hD [0, 1, 2, 3] rfl rfl (va_recv hK hP (ci := 0) (q0 := 0) rfl rfl)) rfl rfl hl.1 rfl (lv_room (Nat.le_of_ble_eq_true rfl)) dX0_readWord_35 ⟨Nat.zero_le _, Nat.zero_le _⟩) hP hD hS hA [0, 1, 2, 3] [] rfl rfl (by decide) (by decide) (fun r_10 u_11 H locs hw hP hD hS => ?_)
        obtain ⟨er_10, eu_11⟩ := hw
        rw [eu_11] at hP hD
        rw [er_10]
        have hP : va_P (dC, dI) vwCl [(h0, .inr (0, [.int (nI gW), .int (nI gC), .int (nI gV), .int (nI gB), .ref hs, .int (nI gM), .int (nI gI), .ref hd])), (hs, .inl (a1, gW, .inl st)), (hd, .inr (1, [.ref hc, .int d.2.1, .int d.2.2.1, .int d.2.2.2.1, .int d.2.2.2.2])), (hc, .inl (a2, (gI + 4), .inl d.1))] H := hP
        have hD : va_D A [(h0, .inr (0, [.int (nI gW), .int (nI gC), .int (nI gV), .int (nI gB), .ref hs, .int (nI gM), .int (nI gI), .ref hd])), (hs, .inl (a1, gW, .inl st)), (hd, .inr (1, [.ref hc, .int d.2.1, .int d.2.2.1, .int d.2.2.2.1, .int d.2.2.2.2])), (hc, .inl (a2, (gI + 4), .inl d.1))] := hD
        refine lv_istore (lv' := [(4, .int (d.1 (gM + v * gB + b) - 1)), (0, .ref h0), (1, .int (nI v)), (2, .int (nI b)), (3, .int (nI j))]) hx hb dX0_readWord_38 hl (by decide) rfl (fun ls hl => ?_)
        refine lv_iload hx hb dX0_readWord_40 (lv_at hl 0 rfl) ?_
        refine lv_iconst (v := (-1)) hx hb dX0_readWord_42 (by decide) ?_
        refine lv_icmp_ne (tgt := 50) hx hb dX0_readWord_43 (by decide) (fun c_12 => ?_) (fun c_12 => ?_)
        · obtain ⟨k, hk, ek⟩ := slot_of (hmr c_3 v b hv hb9) c_12
          have hl : lv_has ls 5 [(4, .int (nI k)), (0, .ref h0), (1, .int (nI v)), (2, .int (nI b)), (3, .int (nI j))] := by have q9 := hl; rw [ek] at q9; exact q9
          refine lv_aload_n hx hb dX0_readWord_50 rfl (lv_at hl 1 rfl) ?_
          refine va_get (D := (dC, dI)) (ci := 0) (v := .ref hd) (C := RX0) (T := TX0) (N := 8) hx hb hts inX0 hown hK hP 0 rfl rfl 7 (by decide) (hts _ tb_53) (fun _ h9 => h9) rfl dX0_readWord_51 ?_
          refine lv_aload_n hx hb dX0_readWord_54 rfl (lv_at hl 1 rfl) ?_
          refine lv_iload hx hb dX0_readWord_55 (lv_at hl 0 rfl) ?_
          refine lv_iload_n hx hb dX0_readWord_57 rfl (lv_at hl 4 rfl) ?_
          have hkj := geo_slot hg hk hj
          refine xr_i (D := (dC, dI)) (wf := (xo_w h0 hs hd hc a1 a2 gW gC gV gB gM gI)) (u0 := (st, d)) (wr := []) (va_runV (As := [.int (nI k), .int (nI j)]) (rest := [.ref hd]) ⟨hx, hb, hml, hown, hts⟩ (k_X0_slotCell l dC dI h0 hs hd hc a1 a2 gW gC gV gB gM gI hg H.size st d k j) (cwV 2 hts gX0_77 rfl rfl rfl (by decide +kernel) ⟨Nat.le_of_ble_eq_true rfl, Nat.le_of_ble_eq_true rfl⟩) (xp_v nwL_ok hK hN hP hD [0, 1, 2, 3] rfl rfl (va_recv hK hP (ci := 0) (q0 := 0) rfl rfl)) rfl rfl hl.1 rfl (lv_room (Nat.le_of_ble_eq_true rfl)) dX0_readWord_58 ⟨Nat.zero_le _, Nat.zero_le _⟩) hP hD hS hA [0, 1, 2, 3] [] rfl rfl (by decide) (by decide) (fun r_13 u_14 H locs hw hP hD hS => ?_)
          obtain ⟨er_13, eu_14⟩ := hw
          rw [eu_14] at hP hD
          rw [er_13]
          have hP : va_P (dC, dI) vwCl [(h0, .inr (0, [.int (nI gW), .int (nI gC), .int (nI gV), .int (nI gB), .ref hs, .int (nI gM), .int (nI gI), .ref hd])), (hs, .inl (a1, gW, .inl st)), (hd, .inr (1, [.ref hc, .int d.2.1, .int d.2.2.1, .int d.2.2.2.1, .int d.2.2.2.2])), (hc, .inl (a2, (gI + 4), .inl d.1))] H := hP
          have hD : va_D A [(h0, .inr (0, [.int (nI gW), .int (nI gC), .int (nI gV), .int (nI gB), .ref hs, .int (nI gM), .int (nI gI), .ref hd])), (hs, .inl (a1, gW, .inl st)), (hd, .inr (1, [.ref hc, .int d.2.1, .int d.2.2.1, .int d.2.2.2.1, .int d.2.2.2.2])), (hc, .inl (a2, (gI + 4), .inl d.1))] := hD
          refine xr_i (D := (dC, dI)) (wf := (dk_w hd hc a2 (gI + 4))) (u0 := d) (wr := [(h0, .inr (0, [.int (nI gW), .int (nI gC), .int (nI gV), .int (nI gB), .ref hs, .int (nI gM), .int (nI gI), .ref hd])), (hs, .inl (a1, gW, .inl st))]) (va_runVN (As := [.int (nI (k * gW + j))]) (rest := []) ⟨hx, hb, hml, hown, hts⟩ (k_X1_read l dC dI hd hc a2 (gI + 4) (by omega) H.size d (k * gW + j) (by omega)) ⟨va_cnB 1 hts gX0_80 rfl rfl rfl (hN _ nn_80) (hts _ tb_3) (by decide +kernel) ⟨Nat.le_of_ble_eq_true rfl, Nat.le_of_ble_eq_true rfl⟩, hts _ tb_125, hts _ ts_9⟩ (xp_v nwL_ok (hK.sub (tys' := [(a2, .int)]) [1] rfl) hN hP hD [2, 3] rfl rfl (va_recv hK hP (ci := 1) (q0 := 2) rfl rfl)) rfl rfl hl.1 rfl (lv_room (Nat.le_of_ble_eq_true rfl)) dX0_readWord_61 ⟨Nat.zero_le _, Nat.zero_le _⟩) hP hD hS hA [2, 3] [0, 1] rfl rfl (by decide) (by decide) (fun r_15 u_16 H locs hw hP hD hS => ?_)
          obtain ⟨er_15, eu_16⟩ := hw
          rw [eu_16] at hP hD
          rw [er_15]
          have hP : va_P (dC, dI) vwCl [(h0, .inr (0, [.int (nI gW), .int (nI gC), .int (nI gV), .int (nI gB), .ref hs, .int (nI gM), .int (nI gI), .ref hd])), (hs, .inl (a1, gW, .inl st)), (hd, .inr (1, [.ref hc, .int d.2.1, .int d.2.2.1, .int d.2.2.2.1, .int d.2.2.2.2])), (hc, .inl (a2, (gI + 4), .inl d.1))] H := hP
          have hD : va_D A [(h0, .inr (0, [.int (nI gW), .int (nI gC), .int (nI gV), .int (nI gB), .ref hs, .int (nI gM), .int (nI gI), .ref hd])), (hs, .inl (a1, gW, .inl st)), (hd, .inr (1, [.ref hc, .int d.2.1, .int d.2.2.1, .int d.2.2.2.1, .int d.2.2.2.2])), (hc, .inl (a2, (gI + 4), .inl d.1))] := hD
          exact W.iret (v := d.1 (k * gW + j)) hx hb hr (fun t ht hW => ⟨⟨d.1 (k * gW + j), (st, d), rfl, ⟨by unfold x_read; rw [if_pos c_3, if_neg c_6, ev, eb, nI_clamp (n := v) (by omega), nI_clamp (n := b) (by omega), if_neg c_9, ej, nI_clamp (n := j) (by omega), if_neg c_12, ek, nI_clamp (n := k) (by omega)], by unfold x_read; rw [if_pos c_3, if_neg c_6, ev, eb, nI_clamp (n := v) (by omega), nI_clamp (n := b) (by omega), if_neg c_9, ej, nI_clamp (n := j) (by omega), if_neg c_12, ek, nI_clamp (n := k) (by omega)]⟩, by rw [ht]; exact hP, hD⟩, hS.F ht⟩) hS.2.2 dX0_readWord_64
        · refine lv_iconst (v := 0) hx hb dX0_readWord_46 (by decide) ?_
          refine lv_goto (tgt := 64) hx hb dX0_readWord_47 (by decide) ?_
          exact W.iret (v := 0) hx hb hr (fun t ht hW => ⟨⟨0, (st, d), rfl, ⟨by unfold x_read; rw [if_pos c_3, if_neg c_6, ev, eb, nI_clamp (n := v) (by omega), nI_clamp (n := b) (by omega), if_neg c_9, ej, nI_clamp (n := j) (by omega), if_pos c_12], by unfold x_read; rw [if_pos c_3, if_neg c_6, ev, eb, nI_clamp (n := v) (by omega), nI_clamp (n := b) (by omega), if_neg c_9, ej, nI_clamp (n := j) (by omega), if_pos c_12]⟩, by rw [ht]; exact hP, hD⟩, hS.F ht⟩) hS.2.2 dX0_readWord_64
      · refine lv_iconst (v := 0) hx hb dX0_readWord_30 (by decide) ?_
        exact W.iret (v := 0) hx hb hr (fun t ht hW => ⟨⟨0, (st, d), rfl, ⟨by unfold x_read; rw [if_pos c_3, if_neg c_6, ev, eb, nI_clamp (n := v) (by omega), nI_clamp (n := b) (by omega), if_pos c_9], by unfold x_read; rw [if_pos c_3, if_neg c_6, ev, eb, nI_clamp (n := v) (by omega), nI_clamp (n := b) (by omega), if_pos c_9]⟩, by rw [ht]; exact hP, hD⟩, hS.F ht⟩) hS.2.2 dX0_readWord_31
  · refine lv_bipush (v := (-4)) hx hb dX0_readWord_10 (by decide) ?_
    exact W.iret (v := (-4)) hx hb hr (fun t ht hW => ⟨⟨(-4), (st, d), rfl, ⟨by unfold x_read; rw [if_neg c_3], by unfold x_read; rw [if_neg c_3]⟩, by rw [ht]; exact hP, hD⟩, hS.F ht⟩) hS.2.2 dX0_readWord_12
set_option maxHeartbeats 4000000 in
set_option maxRecDepth 100000 in
theorem k_X0_trim (l : Launch) (dC : Nat → ClassId) (dI : Nat → Nat → Nat) (h0 hs hd hc : Nat) (a1 a2 : ClassId) (gW gC gV gB gM gI : Nat) (hg : geo gW gC gV gB gM gI) (sz : Nat) (st : Nat → Int32) (d : DS) (hz : d.2.2.2.2 = 0 ∨ d.2.2.2.2 = 1) (hk0 : d.2.2.2.2 = 0 → d.1 (gI + 3) = 0) (vol lb : Int32) : ctI nwL l yX0_trim wsX0_trim ({ frames := 5, cells := 0, slots := 0, locals := 115 } : Room) (dC, dI) [(a1, .int), (a2, .int)] (xo_w h0 hs hd hc a1 a2 gW gC gV gB gM gI) (st, d) sz [.ref h0, .int vol, .int lb] (fun (r : Int32) (u : XS) => r = (x_trim st d gW gC gV gB gM gI vol lb).1 ∧ u = (x_trim st d gW gC gV gB gM gI vol lb).2) := by
  refine Met.ofW (cc := cX0_trim) (maxL := 3) (ret := (some .int)) (by decide) rfl ?_
  intro p e s m args below meth c s₁ B hml hv
  obtain ⟨rfl, hsz, hP, hK, hD0, hN⟩ := hv
  have hx := B.exec
  have hb := B.bytes
  have hr := B.returns
  have hts := fun w h => atoms_spec (ws := wsX0_trim) B.pre w (List.mem_cons_of_mem _ h)
  have hown : s.vm.findClass RX0 = some m.cls := findClass_of_methodNamed B.named
  have hlocks := B.notSynchronized
  subst hsz
  have hD := hD0.self (sz := s.heap.size)
  generalize hAe : va_A ((xo_w h0 hs hd hc a1 a2 gW gC gV gB gM gI) (st, d)) s.heap.size = A at hD ⊢
  have hA : ∀ q : Nat, s.heap.size ≤ q → A q := fun q h => by rw [← hAe]; exact Or.inr h
  have hS : va_S A s.heap s.heap [] := va_S.rf
  have hl := lv_entry ([.ref h0, .int vol, .int lb]) (n := 3) (Nat.le_of_ble_eq_true rfl)
  rw [lg_entry_eq]
  generalize (lg_sl ([.ref h0, .int vol, .int lb]) ++ List.replicate (3 - (lg_sl ([.ref h0, .int vol, .int lb])).length) Slot.unset).toArray = ls at hl ⊢
  have hP : va_P (dC, dI) vwCl [(h0, .inr (0, [.int (nI gW), .int (nI gC), .int (nI gV), .int (nI gB), .ref hs, .int (nI gM), .int (nI gI), .ref hd])), (hs, .inl (a1, gW, .inl st)), (hd, .inr (1, [.ref hc, .int d.2.1, .int d.2.2.1, .int d.2.2.2.1, .int d.2.2.2.2])), (hc, .inl (a2, (gI + 4), .inl d.1))] s.heap := hP
  have hD : va_D A [(h0, .inr (0, [.int (nI gW), .int (nI gC), .int (nI gV), .int (nI gB), .ref hs, .int (nI gM), .int (nI gI), .ref hd])), (hs, .inl (a1, gW, .inl st)), (hd, .inr (1, [.ref hc, .int d.2.1, .int d.2.2.1, .int d.2.2.2.1, .int d.2.2.2.2])), (hc, .inl (a2, (gI + 4), .inl d.1))] := hD
  have hl : lv_has ls 3 [(0, .ref h0), (1, .int vol), (2, .int lb)] := hl
  obtain ⟨⟨hW1, hW2⟩, ⟨hC1, hC2⟩, ⟨hV1, hV2⟩, ⟨hB1, hB2⟩, eM, eI⟩ := id hg
  obtain ⟨hM2, hq2⟩ := geo_b hg
  refine lv_aload_n hx hb dX0_trim_0 rfl (lv_at hl 0 rfl) ?_
  refine va_get (D := (dC, dI)) (ci := 0) (v := .ref hd) (C := RX0) (T := TX0) (N := 8) hx hb hts inX0 hown hK hP 0 rfl rfl 7 (by decide) (hts _ tb_53) (fun _ h9 => h9) rfl dX0_trim_1 ?_
  refine xr_i (D := (dC, dI)) (wf := (dk_w hd hc a2 (gI + 4))) (u0 := d) (wr := [(h0, .inr (0, [.int (nI gW), .int (nI gC), .int (nI gV), .int (nI gB), .ref hs, .int (nI gM), .int (nI gI), .ref hd])), (hs, .inl (a1, gW, .inl st))]) (va_runVN (As := []) (rest := []) ⟨hx, hb, hml, hown, hts⟩ (k_X1_isDown l dC dI hd hc a2 (gI + 4) (by omega) s.heap.size d hz) ⟨va_cnB 0 hts gX0_51 rfl rfl rfl (hN _ nn_51) (hts _ tb_3) (by decide +kernel) ⟨Nat.le_of_ble_eq_true rfl, Nat.le_of_ble_eq_true rfl⟩, hts _ tb_93, hts _ ts_2⟩ (xp_v nwL_ok (hK.sub (tys' := [(a2, .int)]) [1] rfl) hN hP hD [2, 3] rfl rfl (va_recv hK hP (ci := 1) (q0 := 2) rfl rfl)) rfl rfl hl.1 rfl (lv_room (Nat.le_of_ble_eq_true rfl)) dX0_trim_4 ⟨Nat.zero_le _, Nat.zero_le _⟩) hP hD hS hA [2, 3] [0, 1] rfl rfl (by decide) (by decide) (fun r_1 u_2 H locs hw hP hD hS => ?_)
  obtain ⟨er_1, eu_2⟩ := hw
  rw [eu_2] at hP hD
  rw [er_1]
  have hP : va_P (dC, dI) vwCl [(h0, .inr (0, [.int (nI gW), .int (nI gC), .int (nI gV), .int (nI gB), .ref hs, .int (nI gM), .int (nI gI), .ref hd])), (hs, .inl (a1, gW, .inl st)), (hd, .inr (1, [.ref hc, .int d.2.1, .int d.2.2.1, .int d.2.2.2.1, .int d.2.2.2.2])), (hc, .inl (a2, (gI + 4), .inl d.1))] H := hP
  have hD : va_D A [(h0, .inr (0, [.int (nI gW), .int (nI gC), .int (nI gV), .int (nI gB), .ref hs, .int (nI gM), .int (nI gI), .ref hd])), (hs, .inl (a1, gW, .inl st)), (hd, .inr (1, [.ref hc, .int d.2.1, .int d.2.2.1, .int d.2.2.2.1, .int d.2.2.2.2])), (hc, .inl (a2, (gI + 4), .inl d.1))] := hD
  refine lv_if_eq (tgt := 13) hx hb dX0_trim_7 (by decide) (fun c_3 => ?_) (fun c_3 => ?_)
  · refine lv_aload_n hx hb dX0_trim_13 rfl (lv_at hl 0 rfl) ?_
    refine lv_iload_n hx hb dX0_trim_14 rfl (lv_at hl 1 rfl) ?_
    refine lv_iload_n hx hb dX0_trim_15 rfl (lv_at hl 2 rfl) ?_
    refine xr_i (D := (dC, dI)) (wf := (xo_w h0 hs hd hc a1 a2 gW gC gV gB gM gI)) (u0 := (st, d)) (wr := []) (va_runV (As := [.int vol, .int lb]) (rest := []) ⟨hx, hb, hml, hown, hts⟩ (k_X0_isBlock l dC dI h0 hs hd hc a1 a2 gW gC gV gB gM gI hg H.size st d vol lb) (cwV 2 hts gX0_59 rfl rfl rfl (by decide +kernel) ⟨Nat.le_of_ble_eq_true rfl, Nat.le_of_ble_eq_true rfl⟩) (xp_v nwL_ok hK hN hP hD [0, 1, 2, 3] rfl rfl (va_recv hK hP (ci := 0) (q0 := 0) rfl rfl)) rfl rfl hl.1 rfl (lv_room (Nat.le_of_ble_eq_true rfl)) dX0_trim_16 ⟨Nat.zero_le _, Nat.zero_le _⟩) hP hD hS hA [0, 1, 2, 3] [] rfl rfl (by decide) (by decide) (fun r_4 u_5 H locs hw hP hD hS => ?_)
    obtain ⟨er_4, eu_5⟩ := hw
    rw [eu_5] at hP hD
    rw [er_4]
    have hP : va_P (dC, dI) vwCl [(h0, .inr (0, [.int (nI gW), .int (nI gC), .int (nI gV), .int (nI gB), .ref hs, .int (nI gM), .int (nI gI), .ref hd])), (hs, .inl (a1, gW, .inl st)), (hd, .inr (1, [.ref hc, .int d.2.1, .int d.2.2.1, .int d.2.2.2.1, .int d.2.2.2.2])), (hc, .inl (a2, (gI + 4), .inl d.1))] H := hP
    have hD : va_D A [(h0, .inr (0, [.int (nI gW), .int (nI gC), .int (nI gV), .int (nI gB), .ref hs, .int (nI gM), .int (nI gI), .ref hd])), (hs, .inl (a1, gW, .inl st)), (hd, .inr (1, [.ref hc, .int d.2.1, .int d.2.2.1, .int d.2.2.2.1, .int d.2.2.2.2])), (hc, .inl (a2, (gI + 4), .inl d.1))] := hD
    refine lv_if_ne (tgt := 24) hx hb dX0_trim_19 (by decide) (fun c_6 => ?_) (fun c_6 => ?_)
    · obtain ⟨v, b, hv, hb9, ev, eb⟩ := inB_nz (by omega) (by omega) c_6
      have hl : lv_has ls 3 [(0, .ref h0), (1, .int (nI v)), (2, .int lb)] := by have q9 := hl; rw [ev] at q9; exact q9
      have hl : lv_has ls 3 [(0, .ref h0), (1, .int (nI v)), (2, .int (nI b))] := by have q9 := hl; rw [eb] at q9; exact q9
      refine lv_aload_n hx hb dX0_trim_24 rfl (lv_at hl 0 rfl) ?_
      refine lv_iload_n hx hb dX0_trim_25 rfl (lv_at hl 1 rfl) ?_
      refine lv_iload_n hx hb dX0_trim_26 rfl (lv_at hl 2 rfl) ?_
      refine xr_i (D := (dC, dI)) (wf := (xo_w h0 hs hd hc a1 a2 gW gC gV gB gM gI)) (u0 := (st, d)) (wr := []) (va_runV (As := [.int (nI v), .int (nI b)]) (rest := []) ⟨hx, hb, hml, hown, hts⟩ (k_X0_mappedSlot l dC dI h0 hs hd hc a1 a2 gW gC gV gB gM gI hg H.size st d v b (by omega) (by omega)) (cwV 2 hts gX0_70 rfl rfl rfl (by decide +kernel) ⟨Nat.le_of_ble_eq_true rfl, Nat.le_of_ble_eq_true rfl⟩) (xp_v nwL_ok hK hN hP hD [0, 1, 2, 3] rfl rfl (va_recv hK hP (ci := 0) (q0 := 0) rfl rfl)) rfl rfl hl.1 rfl (lv_room (Nat.le_of_ble_eq_true rfl)) dX0_trim_27 ⟨Nat.zero_le _, Nat.zero_le _⟩) hP hD hS hA [0, 1, 2, 3] [] rfl rfl (by decide) (by decide) (fun r_7 u_8 H locs hw hP hD hS => ?_)
      obtain ⟨er_7, eu_8⟩ := hw
      rw [eu_8] at hP hD
      rw [er_7]
      have hP : va_P (dC, dI) vwCl [(h0, .inr (0, [.int (nI gW), .int (nI gC), .int (nI gV), .int (nI gB), .ref hs, .int (nI gM), .int (nI gI), .ref hd])), (hs, .inl (a1, gW, .inl st)), (hd, .inr (1, [.ref hc, .int d.2.1, .int d.2.2.1, .int d.2.2.2.1, .int d.2.2.2.2])), (hc, .inl (a2, (gI + 4), .inl d.1))] H := hP
      have hD : va_D A [(h0, .inr (0, [.int (nI gW), .int (nI gC), .int (nI gV), .int (nI gB), .ref hs, .int (nI gM), .int (nI gI), .ref hd])), (hs, .inl (a1, gW, .inl st)), (hd, .inr (1, [.ref hc, .int d.2.1, .int d.2.2.1, .int d.2.2.2.1, .int d.2.2.2.2])), (hc, .inl (a2, (gI + 4), .inl d.1))] := hD
      refine lv_iconst (v := (-1)) hx hb dX0_trim_30 (by decide) ?_
      refine lv_icmp_ne (tgt := 37) hx hb dX0_trim_31 (by decide) (fun c_9 => ?_) (fun c_9 => ?_)
      · refine lv_aload_n hx hb dX0_trim_37 rfl (lv_at hl 0 rfl) ?_
        refine lv_iconst (v := 1) hx hb dX0_trim_38 (by decide) ?_
        refine lv_iload_n hx hb dX0_trim_39 rfl (lv_at hl 1 rfl) ?_
        refine lv_iload_n hx hb dX0_trim_40 rfl (lv_at hl 2 rfl) ?_
        refine lv_iconst (v := (-1)) hx hb dX0_trim_41 (by decide) ?_
        refine xr_i (D := (dC, dI)) (wf := (xo_w h0 hs hd hc a1 a2 gW gC gV gB gM gI)) (u0 := (st, d)) (wr := []) (va_runV (As := [.int 1, .int (nI v), .int (nI b), .int (-1)]) (rest := []) ⟨hx, hb, hml, hown, hts⟩ (k_X0_change l dC dI h0 hs hd hc a1 a2 gW gC gV gB gM gI hg H.size st d hz (hk0 c_3) 1 v b hv ⟨fun _ => hb9, fun q9 => absurd q9 (by decide)⟩ (-1)) (cwV 4 hts gX0_73 rfl rfl rfl (by decide +kernel) ⟨Nat.le_of_ble_eq_true rfl, Nat.le_of_ble_eq_true rfl⟩) (xp_v nwL_ok hK hN hP hD [0, 1, 2, 3] rfl rfl (va_recv hK hP (ci := 0) (q0 := 0) rfl rfl)) rfl rfl hl.1 rfl (lv_room (Nat.le_of_ble_eq_true rfl)) dX0_trim_42 ⟨Nat.zero_le _, Nat.zero_le _⟩) hP hD hS hA [0, 1, 2, 3] [] rfl rfl (by decide) (by decide) (fun r_10 u_11 H locs hw hP hD hS => ?_)
        obtain ⟨er_10, hw⟩ := hw
        rw [er_10]
        obtain ⟨d_12, ed_12⟩ : ∃ z, z = chg d gM gB gI 1 v b (-1) := ⟨_, rfl⟩
        rw [hw, ← ed_12] at hP hD
        have hP : va_P (dC, dI) vwCl [(h0, .inr (0, [.int (nI gW), .int (nI gC), .int (nI gV), .int (nI gB), .ref hs, .int (nI gM), .int (nI gI), .ref hd])), (hs, .inl (a1, gW, .inl st)), (hd, .inr (1, [.ref hc, .int d_12.2.1, .int d_12.2.2.1, .int d_12.2.2.2.1, .int d_12.2.2.2.2])), (hc, .inl (a2, (gI + 4), .inl d_12.1))] H := hP
        have hD : va_D A [(h0, .inr (0, [.int (nI gW), .int (nI gC), .int (nI gV), .int (nI gB), .ref hs, .int (nI gM), .int (nI gI), .ref hd])), (hs, .inl (a1, gW, .inl st)), (hd, .inr (1, [.ref hc, .int d_12.2.1, .int d_12.2.2.1, .int d_12.2.2.2.1, .int d_12.2.2.2.2])), (hc, .inl (a2, (gI + 4), .inl d_12.1))] := hD
        exact W.iret (v := ans (chg d gM gB gI 1 v b (-1))) hx hb hr (fun t ht hW => ⟨⟨ans (chg d gM gB gI 1 v b (-1)), (st, d_12), rfl, ⟨by unfold x_trim; rw [if_pos c_3, if_neg c_6, ev, eb, nI_clamp (n := v) (by omega), nI_clamp (n := b) (by omega), if_neg c_9], by unfold x_trim; rw [ed_12, if_pos c_3, if_neg c_6, ev, eb, nI_clamp (n := v) (by omega), nI_clamp (n := b) (by omega), if_neg c_9]⟩, by rw [ht]; exact hP, hD⟩, hS.F ht⟩) hS.2.2 dX0_trim_45
      · refine lv_bipush (v := (-3)) hx hb dX0_trim_34 (by decide) ?_
        exact W.iret (v := (-3)) hx hb hr (fun t ht hW => ⟨⟨(-3), (st, d), rfl, ⟨by unfold x_trim; rw [if_pos c_3, if_neg c_6, ev, eb, nI_clamp (n := v) (by omega), nI_clamp (n := b) (by omega), if_pos c_9], by unfold x_trim; rw [if_pos c_3, if_neg c_6, ev, eb, nI_clamp (n := v) (by omega), nI_clamp (n := b) (by omega), if_pos c_9]⟩, by rw [ht]; exact hP, hD⟩, hS.F ht⟩) hS.2.2 dX0_trim_36
    · refine lv_iconst (v := (-1)) hx hb dX0_trim_22 (by decide) ?_
      exact W.iret (v := (-1)) hx hb hr (fun t ht hW => ⟨⟨(-1), (st, d), rfl, ⟨by unfold x_trim; rw [if_pos c_3, if_pos c_6], by unfold x_trim; rw [if_pos c_3, if_pos c_6]⟩, by rw [ht]; exact hP, hD⟩, hS.F ht⟩) hS.2.2 dX0_trim_23
  · refine lv_bipush (v := (-4)) hx hb dX0_trim_10 (by decide) ?_
    exact W.iret (v := (-4)) hx hb hr (fun t ht hW => ⟨⟨(-4), (st, d), rfl, ⟨by unfold x_trim; rw [if_neg c_3], by unfold x_trim; rw [if_neg c_3]⟩, by rw [ht]; exact hP, hD⟩, hS.F ht⟩) hS.2.2 dX0_trim_12
set_option maxHeartbeats 4000000 in
set_option maxRecDepth 100000 in
theorem k_X0_cloneVol (l : Launch) (dC : Nat → ClassId) (dI : Nat → Nat → Nat) (h0 hs hd hc : Nat) (a1 a2 : ClassId) (gW gC gV gB gM gI : Nat) (hg : geo gW gC gV gB gM gI) (sz : Nat) (st : Nat → Int32) (d : DS) (hz : d.2.2.2.2 = 0 ∨ d.2.2.2.2 = 1) (hk0 : d.2.2.2.2 = 0 → d.1 (gI + 3) = 0) (src dst : Int32) : ctI nwL l yX0_cloneVol wsX0_cloneVol ({ frames := 5, cells := 0, slots := 0, locals := 115 } : Room) (dC, dI) [(a1, .int), (a2, .int)] (xo_w h0 hs hd hc a1 a2 gW gC gV gB gM gI) (st, d) sz [.ref h0, .int src, .int dst] (fun (r : Int32) (u : XS) => r = (x_clone st d gW gC gV gB gM gI src dst).1 ∧ u = (x_clone st d gW gC gV gB gM gI src dst).2) := by
  refine Met.ofW (cc := cX0_cloneVol) (maxL := 3) (ret := (some .int)) (by decide) rfl ?_
  intro p e s m args below meth c s₁ B hml hv
  obtain ⟨rfl, hsz, hP, hK, hD0, hN⟩ := hv
  have hx := B.exec
  have hb := B.bytes
  have hr := B.returns
  have hts := fun w h => atoms_spec (ws := wsX0_cloneVol) B.pre w (List.mem_cons_of_mem _ h)
  have hown : s.vm.findClass RX0 = some m.cls := findClass_of_methodNamed B.named
  have hlocks := B.notSynchronized
  subst hsz
  have hD := hD0.self (sz := s.heap.size)
  generalize hAe : va_A ((xo_w h0 hs hd hc a1 a2 gW gC gV gB gM gI) (st, d)) s.heap.size = A at hD ⊢
  have hA : ∀ q : Nat, s.heap.size ≤ q → A q := fun q h => by rw [← hAe]; exact Or.inr h
  have hS : va_S A s.heap s.heap [] := va_S.rf
  have hl := lv_entry ([.ref h0, .int src, .int dst]) (n := 3) (Nat.le_of_ble_eq_true rfl)
  rw [lg_entry_eq]
  generalize (lg_sl ([.ref h0, .int src, .int dst]) ++ List.replicate (3 - (lg_sl ([.ref h0, .int src, .int dst])).length) Slot.unset).toArray = ls at hl ⊢
  have hP : va_P (dC, dI) vwCl [(h0, .inr (0, [.int (nI gW), .int (nI gC), .int (nI gV), .int (nI gB), .ref hs, .int (nI gM), .int (nI gI), .ref hd])), (hs, .inl (a1, gW, .inl st)), (hd, .inr (1, [.ref hc, .int d.2.1, .int d.2.2.1, .int d.2.2.2.1, .int d.2.2.2.2])), (hc, .inl (a2, (gI + 4), .inl d.1))] s.heap := hP
  have hD : va_D A [(h0, .inr (0, [.int (nI gW), .int (nI gC), .int (nI gV), .int (nI gB), .ref hs, .int (nI gM), .int (nI gI), .ref hd])), (hs, .inl (a1, gW, .inl st)), (hd, .inr (1, [.ref hc, .int d.2.1, .int d.2.2.1, .int d.2.2.2.1, .int d.2.2.2.2])), (hc, .inl (a2, (gI + 4), .inl d.1))] := hD
  have hl : lv_has ls 3 [(0, .ref h0), (1, .int src), (2, .int dst)] := hl
  obtain ⟨⟨hW1, hW2⟩, ⟨hC1, hC2⟩, ⟨hV1, hV2⟩, ⟨hB1, hB2⟩, eM, eI⟩ := id hg
  obtain ⟨hM2, hq2⟩ := geo_b hg
  refine lv_aload_n hx hb dX0_cloneVol_0 rfl (lv_at hl 0 rfl) ?_
  refine va_get (D := (dC, dI)) (ci := 0) (v := .ref hd) (C := RX0) (T := TX0) (N := 8) hx hb hts inX0 hown hK hP 0 rfl rfl 7 (by decide) (hts _ tb_53) (fun _ h9 => h9) rfl dX0_cloneVol_1 ?_
  refine xr_i (D := (dC, dI)) (wf := (dk_w hd hc a2 (gI + 4))) (u0 := d) (wr := [(h0, .inr (0, [.int (nI gW), .int (nI gC), .int (nI gV), .int (nI gB), .ref hs, .int (nI gM), .int (nI gI), .ref hd])), (hs, .inl (a1, gW, .inl st))]) (va_runVN (As := []) (rest := []) ⟨hx, hb, hml, hown, hts⟩ (k_X1_isDown l dC dI hd hc a2 (gI + 4) (by omega) s.heap.size d hz) ⟨va_cnB 0 hts gX0_51 rfl rfl rfl (hN _ nn_51) (hts _ tb_3) (by decide +kernel) ⟨Nat.le_of_ble_eq_true rfl, Nat.le_of_ble_eq_true rfl⟩, hts _ tb_93, hts _ ts_2⟩ (xp_v nwL_ok (hK.sub (tys' := [(a2, .int)]) [1] rfl) hN hP hD [2, 3] rfl rfl (va_recv hK hP (ci := 1) (q0 := 2) rfl rfl)) rfl rfl hl.1 rfl (lv_room (Nat.le_of_ble_eq_true rfl)) dX0_cloneVol_4 ⟨Nat.zero_le _, Nat.zero_le _⟩) hP hD hS hA [2, 3] [0, 1] rfl rfl (by decide) (by decide) (fun r_1 u_2 H locs hw hP hD hS => ?_)
  obtain ⟨er_1, eu_2⟩ := hw
  rw [eu_2] at hP hD
  rw [er_1]
  have hP : va_P (dC, dI) vwCl [(h0, .inr (0, [.int (nI gW), .int (nI gC), .int (nI gV), .int (nI gB), .ref hs, .int (nI gM), .int (nI gI), .ref hd])), (hs, .inl (a1, gW, .inl st)), (hd, .inr (1, [.ref hc, .int d.2.1, .int d.2.2.1, .int d.2.2.2.1, .int d.2.2.2.2])), (hc, .inl (a2, (gI + 4), .inl d.1))] H := hP
  have hD : va_D A [(h0, .inr (0, [.int (nI gW), .int (nI gC), .int (nI gV), .int (nI gB), .ref hs, .int (nI gM), .int (nI gI), .ref hd])), (hs, .inl (a1, gW, .inl st)), (hd, .inr (1, [.ref hc, .int d.2.1, .int d.2.2.1, .int d.2.2.2.1, .int d.2.2.2.2])), (hc, .inl (a2, (gI + 4), .inl d.1))] := hD
  refine lv_if_eq (tgt := 13) hx hb dX0_cloneVol_7 (by decide) (fun c_3 => ?_) (fun c_3 => ?_)
  · refine lv_aload_n hx hb dX0_cloneVol_13 rfl (lv_at hl 0 rfl) ?_
    refine lv_iload_n hx hb dX0_cloneVol_14 rfl (lv_at hl 1 rfl) ?_
    refine xr_i (D := (dC, dI)) (wf := (xo_w h0 hs hd hc a1 a2 gW gC gV gB gM gI)) (u0 := (st, d)) (wr := []) (va_runV (As := [.int src]) (rest := []) ⟨hx, hb, hml, hown, hts⟩ (k_X0_isVolume l dC dI h0 hs hd hc a1 a2 gW gC gV gB gM gI hg H.size st d src) (cwV 1 hts gX0_84 rfl rfl rfl (by decide +kernel) ⟨Nat.le_of_ble_eq_true rfl, Nat.le_of_ble_eq_true rfl⟩) (xp_v nwL_ok hK hN hP hD [0, 1, 2, 3] rfl rfl (va_recv hK hP (ci := 0) (q0 := 0) rfl rfl)) rfl rfl hl.1 rfl (lv_room (Nat.le_of_ble_eq_true rfl)) dX0_cloneVol_15 ⟨Nat.zero_le _, Nat.zero_le _⟩) hP hD hS hA [0, 1, 2, 3] [] rfl rfl (by decide) (by decide) (fun r_4 u_5 H locs hw hP hD hS => ?_)
    obtain ⟨er_4, eu_5⟩ := hw
    rw [eu_5] at hP hD
    rw [er_4]
    have hP : va_P (dC, dI) vwCl [(h0, .inr (0, [.int (nI gW), .int (nI gC), .int (nI gV), .int (nI gB), .ref hs, .int (nI gM), .int (nI gI), .ref hd])), (hs, .inl (a1, gW, .inl st)), (hd, .inr (1, [.ref hc, .int d.2.1, .int d.2.2.1, .int d.2.2.2.1, .int d.2.2.2.2])), (hc, .inl (a2, (gI + 4), .inl d.1))] H := hP
    have hD : va_D A [(h0, .inr (0, [.int (nI gW), .int (nI gC), .int (nI gV), .int (nI gB), .ref hs, .int (nI gM), .int (nI gI), .ref hd])), (hs, .inl (a1, gW, .inl st)), (hd, .inr (1, [.ref hc, .int d.2.1, .int d.2.2.1, .int d.2.2.2.1, .int d.2.2.2.2])), (hc, .inl (a2, (gI + 4), .inl d.1))] := hD
    refine lv_if_eq (tgt := 29) hx hb dX0_cloneVol_18 (by decide) (fun c_6 => ?_) (fun c_6 => ?_)
    · refine lv_iconst (v := (-1)) hx hb dX0_cloneVol_29 (by decide) ?_
      exact W.iret (v := (-1)) hx hb hr (fun t ht hW => ⟨⟨(-1), (st, d), rfl, ⟨by unfold x_clone; rw [if_pos c_3, if_pos c_6], by unfold x_clone; rw [if_pos c_3, if_pos c_6]⟩, by rw [ht]; exact hP, hD⟩, hS.F ht⟩) hS.2.2 dX0_cloneVol_30
    · obtain ⟨o, ho, eo⟩ := inR_nz (by omega) c_6
      have hl : lv_has ls 3 [(0, .ref h0), (1, .int (nI o)), (2, .int dst)] := by have q9 := hl; rw [eo] at q9; exact q9
      refine lv_aload_n hx hb dX0_cloneVol_21 rfl (lv_at hl 0 rfl) ?_
      refine lv_iload_n hx hb dX0_cloneVol_22 rfl (lv_at hl 2 rfl) ?_
      refine xr_i (D := (dC, dI)) (wf := (xo_w h0 hs hd hc a1 a2 gW gC gV gB gM gI)) (u0 := (st, d)) (wr := []) (va_runV (As := [.int dst]) (rest := []) ⟨hx, hb, hml, hown, hts⟩ (k_X0_isVolume l dC dI h0 hs hd hc a1 a2 gW gC gV gB gM gI hg H.size st d dst) (cwV 1 hts gX0_84 rfl rfl rfl (by decide +kernel) ⟨Nat.le_of_ble_eq_true rfl, Nat.le_of_ble_eq_true rfl⟩) (xp_v nwL_ok hK hN hP hD [0, 1, 2, 3] rfl rfl (va_recv hK hP (ci := 0) (q0 := 0) rfl rfl)) rfl rfl hl.1 rfl (lv_room (Nat.le_of_ble_eq_true rfl)) dX0_cloneVol_23 ⟨Nat.zero_le _, Nat.zero_le _⟩) hP hD hS hA [0, 1, 2, 3] [] rfl rfl (by decide) (by decide) (fun r_7 u_8 H locs hw hP hD hS => ?_)
      obtain ⟨er_7, eu_8⟩ := hw
      rw [eu_8] at hP hD
      rw [er_7]
      have hP : va_P (dC, dI) vwCl [(h0, .inr (0, [.int (nI gW), .int (nI gC), .int (nI gV), .int (nI gB), .ref hs, .int (nI gM), .int (nI gI), .ref hd])), (hs, .inl (a1, gW, .inl st)), (hd, .inr (1, [.ref hc, .int d.2.1, .int d.2.2.1, .int d.2.2.2.1, .int d.2.2.2.2])), (hc, .inl (a2, (gI + 4), .inl d.1))] H := hP
      have hD : va_D A [(h0, .inr (0, [.int (nI gW), .int (nI gC), .int (nI gV), .int (nI gB), .ref hs, .int (nI gM), .int (nI gI), .ref hd])), (hs, .inl (a1, gW, .inl st)), (hd, .inr (1, [.ref hc, .int d.2.1, .int d.2.2.1, .int d.2.2.2.1, .int d.2.2.2.2])), (hc, .inl (a2, (gI + 4), .inl d.1))] := hD
      refine lv_if_ne (tgt := 31) hx hb dX0_cloneVol_26 (by decide) (fun c_9 => ?_) (fun c_9 => ?_)
      · obtain ⟨v, hv, ev⟩ := inR_nz (by omega) c_9
        have hl : lv_has ls 3 [(0, .ref h0), (1, .int (nI o)), (2, .int (nI v))] := by have q9 := hl; rw [ev] at q9; exact q9
        refine lv_aload_n hx hb dX0_cloneVol_31 rfl (lv_at hl 0 rfl) ?_
        refine lv_iconst (v := 2) hx hb dX0_cloneVol_32 (by decide) ?_
        refine lv_iload_n hx hb dX0_cloneVol_33 rfl (lv_at hl 2 rfl) ?_
        refine lv_iload_n hx hb dX0_cloneVol_34 rfl (lv_at hl 1 rfl) ?_
        refine lv_iconst (v := 0) hx hb dX0_cloneVol_35 (by decide) ?_
        refine xr_i (D := (dC, dI)) (wf := (xo_w h0 hs hd hc a1 a2 gW gC gV gB gM gI)) (u0 := (st, d)) (wr := []) (va_runV (As := [.int 2, .int (nI v), .int (nI o), .int 0]) (rest := []) ⟨hx, hb, hml, hown, hts⟩ (k_X0_change l dC dI h0 hs hd hc a1 a2 gW gC gV gB gM gI hg H.size st d hz (hk0 c_3) 2 v o hv ⟨fun q9 => absurd q9 (by decide), fun _ => ho⟩ 0) (cwV 4 hts gX0_73 rfl rfl rfl (by decide +kernel) ⟨Nat.le_of_ble_eq_true rfl, Nat.le_of_ble_eq_true rfl⟩) (xp_v nwL_ok hK hN hP hD [0, 1, 2, 3] rfl rfl (va_recv hK hP (ci := 0) (q0 := 0) rfl rfl)) rfl rfl hl.1 rfl (lv_room (Nat.le_of_ble_eq_true rfl)) dX0_cloneVol_36 ⟨Nat.zero_le _, Nat.zero_le _⟩) hP hD hS hA [0, 1, 2, 3] [] rfl rfl (by decide) (by decide) (fun r_10 u_11 H locs hw hP hD hS => ?_)
        obtain ⟨er_10, hw⟩ := hw
        rw [er_10]
        obtain ⟨d_12, ed_12⟩ : ∃ z, z = chg d gM gB gI 2 v o 0 := ⟨_, rfl⟩
        rw [hw, ← ed_12] at hP hD
        have hP : va_P (dC, dI) vwCl [(h0, .inr (0, [.int (nI gW), .int (nI gC), .int (nI gV), .int (nI gB), .ref hs, .int (nI gM), .int (nI gI), .ref hd])), (hs, .inl (a1, gW, .inl st)), (hd, .inr (1, [.ref hc, .int d_12.2.1, .int d_12.2.2.1, .int d_12.2.2.2.1, .int d_12.2.2.2.2])), (hc, .inl (a2, (gI + 4), .inl d_12.1))] H := hP
        have hD : va_D A [(h0, .inr (0, [.int (nI gW), .int (nI gC), .int (nI gV), .int (nI gB), .ref hs, .int (nI gM), .int (nI gI), .ref hd])), (hs, .inl (a1, gW, .inl st)), (hd, .inr (1, [.ref hc, .int d_12.2.1, .int d_12.2.2.1, .int d_12.2.2.2.1, .int d_12.2.2.2.2])), (hc, .inl (a2, (gI + 4), .inl d_12.1))] := hD
        exact W.iret (v := ans (chg d gM gB gI 2 v o 0)) hx hb hr (fun t ht hW => ⟨⟨ans (chg d gM gB gI 2 v o 0), (st, d_12), rfl, ⟨by unfold x_clone; rw [if_pos c_3, if_neg c_6, eo, nI_clamp (n := o) (by omega), if_neg c_9, ev, nI_clamp (n := v) (by omega)], by unfold x_clone; rw [ed_12, if_pos c_3, if_neg c_6, eo, nI_clamp (n := o) (by omega), if_neg c_9, ev, nI_clamp (n := v) (by omega)]⟩, by rw [ht]; exact hP, hD⟩, hS.F ht⟩) hS.2.2 dX0_cloneVol_39
      · refine lv_iconst (v := (-1)) hx hb dX0_cloneVol_29 (by decide) ?_
        exact W.iret (v := (-1)) hx hb hr (fun t ht hW => ⟨⟨(-1), (st, d), rfl, ⟨by unfold x_clone; rw [if_pos c_3, if_neg c_6, eo, nI_clamp (n := o) (by omega), if_pos c_9], by unfold x_clone; rw [if_pos c_3, if_neg c_6, eo, nI_clamp (n := o) (by omega), if_pos c_9]⟩, by rw [ht]; exact hP, hD⟩, hS.F ht⟩) hS.2.2 dX0_cloneVol_30
  · refine lv_bipush (v := (-4)) hx hb dX0_cloneVol_10 (by decide) ?_
    exact W.iret (v := (-4)) hx hb hr (fun t ht hW => ⟨⟨(-4), (st, d), rfl, ⟨by unfold x_clone; rw [if_neg c_3], by unfold x_clone; rw [if_neg c_3]⟩, by rw [ht]; exact hP, hD⟩, hS.F ht⟩) hS.2.2 dX0_cloneVol_12
set_option maxHeartbeats 4000000 in
set_option maxRecDepth 100000 in
theorem k_X0_dropVol (l : Launch) (dC : Nat → ClassId) (dI : Nat → Nat → Nat) (h0 hs hd hc : Nat) (a1 a2 : ClassId) (gW gC gV gB gM gI : Nat) (hg : geo gW gC gV gB gM gI) (sz : Nat) (st : Nat → Int32) (d : DS) (hz : d.2.2.2.2 = 0 ∨ d.2.2.2.2 = 1) (hk0 : d.2.2.2.2 = 0 → d.1 (gI + 3) = 0) (vol : Int32) : ctI nwL l yX0_dropVol wsX0_dropVol ({ frames := 5, cells := 0, slots := 0, locals := 115 } : Room) (dC, dI) [(a1, .int), (a2, .int)] (xo_w h0 hs hd hc a1 a2 gW gC gV gB gM gI) (st, d) sz [.ref h0, .int vol] (fun (r : Int32) (u : XS) => r = (x_drop st d gW gC gV gB gM gI vol).1 ∧ u = (x_drop st d gW gC gV gB gM gI vol).2) := by
  refine Met.ofW (cc := cX0_dropVol) (maxL := 2) (ret := (some .int)) (by decide) rfl ?_
  intro p e s m args below meth c s₁ B hml hv
  obtain ⟨rfl, hsz, hP, hK, hD0, hN⟩ := hv
  have hx := B.exec
  have hb := B.bytes
  have hr := B.returns
  have hts := fun w h => atoms_spec (ws := wsX0_dropVol) B.pre w (List.mem_cons_of_mem _ h)
  have hown : s.vm.findClass RX0 = some m.cls := findClass_of_methodNamed B.named
  have hlocks := B.notSynchronized
  subst hsz
  have hD := hD0.self (sz := s.heap.size)
  generalize hAe : va_A ((xo_w h0 hs hd hc a1 a2 gW gC gV gB gM gI) (st, d)) s.heap.size = A at hD ⊢
  have hA : ∀ q : Nat, s.heap.size ≤ q → A q := fun q h => by rw [← hAe]; exact Or.inr h
  have hS : va_S A s.heap s.heap [] := va_S.rf
  have hl := lv_entry ([.ref h0, .int vol]) (n := 2) (Nat.le_of_ble_eq_true rfl)
  rw [lg_entry_eq]
  generalize (lg_sl ([.ref h0, .int vol]) ++ List.replicate (2 - (lg_sl ([.ref h0, .int vol])).length) Slot.unset).toArray = ls at hl ⊢
  have hP : va_P (dC, dI) vwCl [(h0, .inr (0, [.int (nI gW), .int (nI gC), .int (nI gV), .int (nI gB), .ref hs, .int (nI gM), .int (nI gI), .ref hd])), (hs, .inl (a1, gW, .inl st)), (hd, .inr (1, [.ref hc, .int d.2.1, .int d.2.2.1, .int d.2.2.2.1, .int d.2.2.2.2])), (hc, .inl (a2, (gI + 4), .inl d.1))] s.heap := hP
  have hD : va_D A [(h0, .inr (0, [.int (nI gW), .int (nI gC), .int (nI gV), .int (nI gB), .ref hs, .int (nI gM), .int (nI gI), .ref hd])), (hs, .inl (a1, gW, .inl st)), (hd, .inr (1, [.ref hc, .int d.2.1, .int d.2.2.1, .int d.2.2.2.1, .int d.2.2.2.2])), (hc, .inl (a2, (gI + 4), .inl d.1))] := hD
  have hl : lv_has ls 2 [(0, .ref h0), (1, .int vol)] := hl
  obtain ⟨⟨hW1, hW2⟩, ⟨hC1, hC2⟩, ⟨hV1, hV2⟩, ⟨hB1, hB2⟩, eM, eI⟩ := id hg
  obtain ⟨hM2, hq2⟩ := geo_b hg
  refine lv_aload_n hx hb dX0_dropVol_0 rfl (lv_at hl 0 rfl) ?_
  refine va_get (D := (dC, dI)) (ci := 0) (v := .ref hd) (C := RX0) (T := TX0) (N := 8) hx hb hts inX0 hown hK hP 0 rfl rfl 7 (by decide) (hts _ tb_53) (fun _ h9 => h9) rfl dX0_dropVol_1 ?_
  refine xr_i (D := (dC, dI)) (wf := (dk_w hd hc a2 (gI + 4))) (u0 := d) (wr := [(h0, .inr (0, [.int (nI gW), .int (nI gC), .int (nI gV), .int (nI gB), .ref hs, .int (nI gM), .int (nI gI), .ref hd])), (hs, .inl (a1, gW, .inl st))]) (va_runVN (As := []) (rest := []) ⟨hx, hb, hml, hown, hts⟩ (k_X1_isDown l dC dI hd hc a2 (gI + 4) (by omega) s.heap.size d hz) ⟨va_cnB 0 hts gX0_51 rfl rfl rfl (hN _ nn_51) (hts _ tb_3) (by decide +kernel) ⟨Nat.le_of_ble_eq_true rfl, Nat.le_of_ble_eq_true rfl⟩, hts _ tb_93, hts _ ts_2⟩ (xp_v nwL_ok (hK.sub (tys' := [(a2, .int)]) [1] rfl) hN hP hD [2, 3] rfl rfl (va_recv hK hP (ci := 1) (q0 := 2) rfl rfl)) rfl rfl hl.1 rfl (lv_room (Nat.le_of_ble_eq_true rfl)) dX0_dropVol_4 ⟨Nat.zero_le _, Nat.zero_le _⟩) hP hD hS hA [2, 3] [0, 1] rfl rfl (by decide) (by decide) (fun r_1 u_2 H locs hw hP hD hS => ?_)
  obtain ⟨er_1, eu_2⟩ := hw
  rw [eu_2] at hP hD
  rw [er_1]
  have hP : va_P (dC, dI) vwCl [(h0, .inr (0, [.int (nI gW), .int (nI gC), .int (nI gV), .int (nI gB), .ref hs, .int (nI gM), .int (nI gI), .ref hd])), (hs, .inl (a1, gW, .inl st)), (hd, .inr (1, [.ref hc, .int d.2.1, .int d.2.2.1, .int d.2.2.2.1, .int d.2.2.2.2])), (hc, .inl (a2, (gI + 4), .inl d.1))] H := hP
  have hD : va_D A [(h0, .inr (0, [.int (nI gW), .int (nI gC), .int (nI gV), .int (nI gB), .ref hs, .int (nI gM), .int (nI gI), .ref hd])), (hs, .inl (a1, gW, .inl st)), (hd, .inr (1, [.ref hc, .int d.2.1, .int d.2.2.1, .int d.2.2.2.1, .int d.2.2.2.2])), (hc, .inl (a2, (gI + 4), .inl d.1))] := hD
  refine lv_if_eq (tgt := 13) hx hb dX0_dropVol_7 (by decide) (fun c_3 => ?_) (fun c_3 => ?_)
  · refine lv_aload_n hx hb dX0_dropVol_13 rfl (lv_at hl 0 rfl) ?_
    refine lv_iload_n hx hb dX0_dropVol_14 rfl (lv_at hl 1 rfl) ?_
    refine xr_i (D := (dC, dI)) (wf := (xo_w h0 hs hd hc a1 a2 gW gC gV gB gM gI)) (u0 := (st, d)) (wr := []) (va_runV (As := [.int vol]) (rest := []) ⟨hx, hb, hml, hown, hts⟩ (k_X0_isVolume l dC dI h0 hs hd hc a1 a2 gW gC gV gB gM gI hg H.size st d vol) (cwV 1 hts gX0_84 rfl rfl rfl (by decide +kernel) ⟨Nat.le_of_ble_eq_true rfl, Nat.le_of_ble_eq_true rfl⟩) (xp_v nwL_ok hK hN hP hD [0, 1, 2, 3] rfl rfl (va_recv hK hP (ci := 0) (q0 := 0) rfl rfl)) rfl rfl hl.1 rfl (lv_room (Nat.le_of_ble_eq_true rfl)) dX0_dropVol_15 ⟨Nat.zero_le _, Nat.zero_le _⟩) hP hD hS hA [0, 1, 2, 3] [] rfl rfl (by decide) (by decide) (fun r_4 u_5 H locs hw hP hD hS => ?_)
    obtain ⟨er_4, eu_5⟩ := hw
    rw [eu_5] at hP hD
    rw [er_4]
    have hP : va_P (dC, dI) vwCl [(h0, .inr (0, [.int (nI gW), .int (nI gC), .int (nI gV), .int (nI gB), .ref hs, .int (nI gM), .int (nI gI), .ref hd])), (hs, .inl (a1, gW, .inl st)), (hd, .inr (1, [.ref hc, .int d.2.1, .int d.2.2.1, .int d.2.2.2.1, .int d.2.2.2.2])), (hc, .inl (a2, (gI + 4), .inl d.1))] H := hP
    have hD : va_D A [(h0, .inr (0, [.int (nI gW), .int (nI gC), .int (nI gV), .int (nI gB), .ref hs, .int (nI gM), .int (nI gI), .ref hd])), (hs, .inl (a1, gW, .inl st)), (hd, .inr (1, [.ref hc, .int d.2.1, .int d.2.2.1, .int d.2.2.2.1, .int d.2.2.2.2])), (hc, .inl (a2, (gI + 4), .inl d.1))] := hD
    refine lv_if_ne (tgt := 23) hx hb dX0_dropVol_18 (by decide) (fun c_6 => ?_) (fun c_6 => ?_)
    · obtain ⟨v, hv, ev⟩ := inR_nz (by omega) c_6
      have hl : lv_has ls 2 [(0, .ref h0), (1, .int (nI v))] := by have q9 := hl; rw [ev] at q9; exact q9
      refine lv_aload_n hx hb dX0_dropVol_23 rfl (lv_at hl 0 rfl) ?_
      refine lv_iconst (v := 3) hx hb dX0_dropVol_24 (by decide) ?_
      refine lv_iload_n hx hb dX0_dropVol_25 rfl (lv_at hl 1 rfl) ?_
      refine lv_iconst (v := 0) hx hb dX0_dropVol_26 (by decide) ?_
      refine lv_iconst (v := 0) hx hb dX0_dropVol_27 (by decide) ?_
      refine xr_i (D := (dC, dI)) (wf := (xo_w h0 hs hd hc a1 a2 gW gC gV gB gM gI)) (u0 := (st, d)) (wr := []) (va_runV (As := [.int 3, .int (nI v), .int 0, .int 0]) (rest := []) ⟨hx, hb, hml, hown, hts⟩ (k_X0_change l dC dI h0 hs hd hc a1 a2 gW gC gV gB gM gI hg H.size st d hz (hk0 c_3) 3 v 0 hv ⟨fun q9 => absurd q9 (by decide), fun q9 => absurd q9 (by decide)⟩ 0) (cwV 4 hts gX0_73 rfl rfl rfl (by decide +kernel) ⟨Nat.le_of_ble_eq_true rfl, Nat.le_of_ble_eq_true rfl⟩) (xp_v nwL_ok hK hN hP hD [0, 1, 2, 3] rfl rfl (va_recv hK hP (ci := 0) (q0 := 0) rfl rfl)) rfl rfl hl.1 rfl (lv_room (Nat.le_of_ble_eq_true rfl)) dX0_dropVol_28 ⟨Nat.zero_le _, Nat.zero_le _⟩) hP hD hS hA [0, 1, 2, 3] [] rfl rfl (by decide) (by decide) (fun r_7 u_8 H locs hw hP hD hS => ?_)
      obtain ⟨er_7, hw⟩ := hw
      rw [er_7]
      obtain ⟨d_9, ed_9⟩ : ∃ z, z = chg d gM gB gI 3 v 0 0 := ⟨_, rfl⟩
      rw [hw, ← ed_9] at hP hD
      have hP : va_P (dC, dI) vwCl [(h0, .inr (0, [.int (nI gW), .int (nI gC), .int (nI gV), .int (nI gB), .ref hs, .int (nI gM), .int (nI gI), .ref hd])), (hs, .inl (a1, gW, .inl st)), (hd, .inr (1, [.ref hc, .int d_9.2.1, .int d_9.2.2.1, .int d_9.2.2.2.1, .int d_9.2.2.2.2])), (hc, .inl (a2, (gI + 4), .inl d_9.1))] H := hP
      have hD : va_D A [(h0, .inr (0, [.int (nI gW), .int (nI gC), .int (nI gV), .int (nI gB), .ref hs, .int (nI gM), .int (nI gI), .ref hd])), (hs, .inl (a1, gW, .inl st)), (hd, .inr (1, [.ref hc, .int d_9.2.1, .int d_9.2.2.1, .int d_9.2.2.2.1, .int d_9.2.2.2.2])), (hc, .inl (a2, (gI + 4), .inl d_9.1))] := hD
      exact W.iret (v := ans (chg d gM gB gI 3 v 0 0)) hx hb hr (fun t ht hW => ⟨⟨ans (chg d gM gB gI 3 v 0 0), (st, d_9), rfl, ⟨by unfold x_drop; rw [if_pos c_3, if_neg c_6, ev, nI_clamp (n := v) (by omega)], by unfold x_drop; rw [ed_9, if_pos c_3, if_neg c_6, ev, nI_clamp (n := v) (by omega)]⟩, by rw [ht]; exact hP, hD⟩, hS.F ht⟩) hS.2.2 dX0_dropVol_31
    · refine lv_iconst (v := (-1)) hx hb dX0_dropVol_21 (by decide) ?_
      exact W.iret (v := (-1)) hx hb hr (fun t ht hW => ⟨⟨(-1), (st, d), rfl, ⟨by unfold x_drop; rw [if_pos c_3, if_pos c_6], by unfold x_drop; rw [if_pos c_3, if_pos c_6]⟩, by rw [ht]; exact hP, hD⟩, hS.F ht⟩) hS.2.2 dX0_dropVol_22
  · refine lv_bipush (v := (-4)) hx hb dX0_dropVol_10 (by decide) ?_
    exact W.iret (v := (-4)) hx hb hr (fun t ht hW => ⟨⟨(-4), (st, d), rfl, ⟨by unfold x_drop; rw [if_neg c_3], by unfold x_drop; rw [if_neg c_3]⟩, by rw [ht]; exact hP, hD⟩, hS.F ht⟩) hS.2.2 dX0_dropVol_12
set_option maxHeartbeats 4000000 in
set_option maxRecDepth 100000 in
theorem k_X0_chunksUsed (l : Launch) (dC : Nat → ClassId) (dI : Nat → Nat → Nat) (h0 hs hd hc : Nat) (a1 a2 : ClassId) (gW gC gV gB gM gI : Nat) (hg : geo gW gC gV gB gM gI) (sz : Nat) (st : Nat → Int32) (d : DS) (hz : d.2.2.2.2 = 0 ∨ d.2.2.2.2 = 1) : ctI nwL l yX0_chunksUsed wsX0_chunksUsed ({ frames := 4, cells := 0, slots := 0, locals := 87 } : Room) (dC, dI) [(a1, .int), (a2, .int)] (xo_w h0 hs hd hc a1 a2 gW gC gV gB gM gI) (st, d) sz [.ref h0] (fun (r : Int32) (u : XS) => r = (x_used st d gW gC gV gB gM gI ).1 ∧ u = (x_used st d gW gC gV gB gM gI ).2) := by
  refine Met.ofW (cc := cX0_chunksUsed) (maxL := 1) (ret := (some .int)) (by decide) rfl ?_
  intro p e s m args below meth c s₁ B hml hv
  obtain ⟨rfl, hsz, hP, hK, hD0, hN⟩ := hv
  have hx := B.exec
  have hb := B.bytes
  have hr := B.returns
  have hts := fun w h => atoms_spec (ws := wsX0_chunksUsed) B.pre w (List.mem_cons_of_mem _ h)
  have hown : s.vm.findClass RX0 = some m.cls := findClass_of_methodNamed B.named
  have hlocks := B.notSynchronized
  subst hsz
  have hD := hD0.self (sz := s.heap.size)
  generalize hAe : va_A ((xo_w h0 hs hd hc a1 a2 gW gC gV gB gM gI) (st, d)) s.heap.size = A at hD ⊢
  have hA : ∀ q : Nat, s.heap.size ≤ q → A q := fun q h => by rw [← hAe]; exact Or.inr h
  have hS : va_S A s.heap s.heap [] := va_S.rf
  have hl := lv_entry ([.ref h0]) (n := 1) (Nat.le_of_ble_eq_true rfl)
  rw [lg_entry_eq]
  generalize (lg_sl ([.ref h0]) ++ List.replicate (1 - (lg_sl ([.ref h0])).length) Slot.unset).toArray = ls at hl ⊢
  have hP : va_P (dC, dI) vwCl [(h0, .inr (0, [.int (nI gW), .int (nI gC), .int (nI gV), .int (nI gB), .ref hs, .int (nI gM), .int (nI gI), .ref hd])), (hs, .inl (a1, gW, .inl st)), (hd, .inr (1, [.ref hc, .int d.2.1, .int d.2.2.1, .int d.2.2.2.1, .int d.2.2.2.2])), (hc, .inl (a2, (gI + 4), .inl d.1))] s.heap := hP
  have hD : va_D A [(h0, .inr (0, [.int (nI gW), .int (nI gC), .int (nI gV), .int (nI gB), .ref hs, .int (nI gM), .int (nI gI), .ref hd])), (hs, .inl (a1, gW, .inl st)), (hd, .inr (1, [.ref hc, .int d.2.1, .int d.2.2.1, .int d.2.2.2.1, .int d.2.2.2.2])), (hc, .inl (a2, (gI + 4), .inl d.1))] := hD
  have hl : lv_has ls 1 [(0, .ref h0)] := hl
  obtain ⟨⟨hW1, hW2⟩, ⟨hC1, hC2⟩, ⟨hV1, hV2⟩, ⟨hB1, hB2⟩, eM, eI⟩ := id hg
  obtain ⟨hM2, hq2⟩ := geo_b hg
  refine lv_aload_n hx hb dX0_chunksUsed_0 rfl (lv_at hl 0 rfl) ?_
  refine va_get (D := (dC, dI)) (ci := 0) (v := .ref hd) (C := RX0) (T := TX0) (N := 8) hx hb hts inX0 hown hK hP 0 rfl rfl 7 (by decide) (hts _ tb_53) (fun _ h9 => h9) rfl dX0_chunksUsed_1 ?_
  refine xr_i (D := (dC, dI)) (wf := (dk_w hd hc a2 (gI + 4))) (u0 := d) (wr := [(h0, .inr (0, [.int (nI gW), .int (nI gC), .int (nI gV), .int (nI gB), .ref hs, .int (nI gM), .int (nI gI), .ref hd])), (hs, .inl (a1, gW, .inl st))]) (va_runVN (As := []) (rest := []) ⟨hx, hb, hml, hown, hts⟩ (k_X1_isDown l dC dI hd hc a2 (gI + 4) (by omega) s.heap.size d hz) ⟨va_cnB 0 hts gX0_51 rfl rfl rfl (hN _ nn_51) (hts _ tb_3) (by decide +kernel) ⟨Nat.le_of_ble_eq_true rfl, Nat.le_of_ble_eq_true rfl⟩, hts _ tb_93, hts _ ts_2⟩ (xp_v nwL_ok (hK.sub (tys' := [(a2, .int)]) [1] rfl) hN hP hD [2, 3] rfl rfl (va_recv hK hP (ci := 1) (q0 := 2) rfl rfl)) rfl rfl hl.1 rfl (lv_room (Nat.le_of_ble_eq_true rfl)) dX0_chunksUsed_4 ⟨Nat.zero_le _, Nat.zero_le _⟩) hP hD hS hA [2, 3] [0, 1] rfl rfl (by decide) (by decide) (fun r_1 u_2 H locs hw hP hD hS => ?_)
  obtain ⟨er_1, eu_2⟩ := hw
  rw [eu_2] at hP hD
  rw [er_1]
  have hP : va_P (dC, dI) vwCl [(h0, .inr (0, [.int (nI gW), .int (nI gC), .int (nI gV), .int (nI gB), .ref hs, .int (nI gM), .int (nI gI), .ref hd])), (hs, .inl (a1, gW, .inl st)), (hd, .inr (1, [.ref hc, .int d.2.1, .int d.2.2.1, .int d.2.2.2.1, .int d.2.2.2.2])), (hc, .inl (a2, (gI + 4), .inl d.1))] H := hP
  have hD : va_D A [(h0, .inr (0, [.int (nI gW), .int (nI gC), .int (nI gV), .int (nI gB), .ref hs, .int (nI gM), .int (nI gI), .ref hd])), (hs, .inl (a1, gW, .inl st)), (hd, .inr (1, [.ref hc, .int d.2.1, .int d.2.2.1, .int d.2.2.2.1, .int d.2.2.2.2])), (hc, .inl (a2, (gI + 4), .inl d.1))] := hD
  refine lv_if_eq (tgt := 15) hx hb dX0_chunksUsed_7 (by decide) (fun c_3 => ?_) (fun c_3 => ?_)
  · refine lv_aload_n hx hb dX0_chunksUsed_15 rfl (lv_at hl 0 rfl) ?_
    refine xr_i (D := (dC, dI)) (wf := (xo_w h0 hs hd hc a1 a2 gW gC gV gB gM gI)) (u0 := (st, d)) (wr := []) (va_runV (As := []) (rest := []) ⟨hx, hb, hml, hown, hts⟩ (k_X0_usedSlots l dC dI h0 hs hd hc a1 a2 gW gC gV gB gM gI hg H.size st d ) (cwV 0 hts gX0_87 rfl rfl rfl (by decide +kernel) ⟨Nat.le_of_ble_eq_true rfl, Nat.le_of_ble_eq_true rfl⟩) (xp_v nwL_ok hK hN hP hD [0, 1, 2, 3] rfl rfl (va_recv hK hP (ci := 0) (q0 := 0) rfl rfl)) rfl rfl hl.1 rfl (lv_room (Nat.le_of_ble_eq_true rfl)) dX0_chunksUsed_16 ⟨Nat.zero_le _, Nat.zero_le _⟩) hP hD hS hA [0, 1, 2, 3] [] rfl rfl (by decide) (by decide) (fun r_4 u_5 H locs hw hP hD hS => ?_)
    obtain ⟨er_4, eu_5⟩ := hw
    rw [eu_5] at hP hD
    rw [er_4]
    have hP : va_P (dC, dI) vwCl [(h0, .inr (0, [.int (nI gW), .int (nI gC), .int (nI gV), .int (nI gB), .ref hs, .int (nI gM), .int (nI gI), .ref hd])), (hs, .inl (a1, gW, .inl st)), (hd, .inr (1, [.ref hc, .int d.2.1, .int d.2.2.1, .int d.2.2.2.1, .int d.2.2.2.2])), (hc, .inl (a2, (gI + 4), .inl d.1))] H := hP
    have hD : va_D A [(h0, .inr (0, [.int (nI gW), .int (nI gC), .int (nI gV), .int (nI gB), .ref hs, .int (nI gM), .int (nI gI), .ref hd])), (hs, .inl (a1, gW, .inl st)), (hd, .inr (1, [.ref hc, .int d.2.1, .int d.2.2.1, .int d.2.2.2.1, .int d.2.2.2.2])), (hc, .inl (a2, (gI + 4), .inl d.1))] := hD
    exact W.iret (v := nI (usN d.1 gM (gV * gB) (gC + 1))) hx hb hr (fun t ht hW => ⟨⟨nI (usN d.1 gM (gV * gB) (gC + 1)), (st, d), rfl, ⟨by unfold x_used; rw [if_pos c_3], by unfold x_used; rw [if_pos c_3]⟩, by rw [ht]; exact hP, hD⟩, hS.F ht⟩) hS.2.2 dX0_chunksUsed_19
  · refine lv_bipush (v := (-4)) hx hb dX0_chunksUsed_10 (by decide) ?_
    refine lv_goto (tgt := 19) hx hb dX0_chunksUsed_12 (by decide) ?_
    exact W.iret (v := (-4)) hx hb hr (fun t ht hW => ⟨⟨(-4), (st, d), rfl, ⟨by unfold x_used; rw [if_neg c_3], by unfold x_used; rw [if_neg c_3]⟩, by rw [ht]; exact hP, hD⟩, hS.F ht⟩) hS.2.2 dX0_chunksUsed_19
set_option maxHeartbeats 4000000 in
set_option maxRecDepth 100000 in
theorem k_X0_refsOf (l : Launch) (dC : Nat → ClassId) (dI : Nat → Nat → Nat) (h0 hs hd hc : Nat) (a1 a2 : ClassId) (gW gC gV gB gM gI : Nat) (hg : geo gW gC gV gB gM gI) (sz : Nat) (st : Nat → Int32) (d : DS) (hz : d.2.2.2.2 = 0 ∨ d.2.2.2.2 = 1) (vol lb : Int32) : ctI nwL l yX0_refsOf wsX0_refsOf ({ frames := 2, cells := 0, slots := 0, locals := 44 } : Room) (dC, dI) [(a1, .int), (a2, .int)] (xo_w h0 hs hd hc a1 a2 gW gC gV gB gM gI) (st, d) sz [.ref h0, .int vol, .int lb] (fun (r : Int32) (u : XS) => r = (x_refs st d gW gC gV gB gM gI vol lb).1 ∧ u = (x_refs st d gW gC gV gB gM gI vol lb).2) := by
  refine Met.ofW (cc := cX0_refsOf) (maxL := 4) (ret := (some .int)) (by decide) rfl ?_
  intro p e s m args below meth c s₁ B hml hv
  obtain ⟨rfl, hsz, hP, hK, hD0, hN⟩ := hv
  have hx := B.exec
  have hb := B.bytes
  have hr := B.returns
  have hts := fun w h => atoms_spec (ws := wsX0_refsOf) B.pre w (List.mem_cons_of_mem _ h)
  have hown : s.vm.findClass RX0 = some m.cls := findClass_of_methodNamed B.named
  have hlocks := B.notSynchronized
  subst hsz
  have hD := hD0.self (sz := s.heap.size)
  generalize hAe : va_A ((xo_w h0 hs hd hc a1 a2 gW gC gV gB gM gI) (st, d)) s.heap.size = A at hD ⊢
  have hA : ∀ q : Nat, s.heap.size ≤ q → A q := fun q h => by rw [← hAe]; exact Or.inr h
  have hS : va_S A s.heap s.heap [] := va_S.rf
  have hl := lv_entry ([.ref h0, .int vol, .int lb]) (n := 4) (Nat.le_of_ble_eq_true rfl)
  rw [lg_entry_eq]
  generalize (lg_sl ([.ref h0, .int vol, .int lb]) ++ List.replicate (4 - (lg_sl ([.ref h0, .int vol, .int lb])).length) Slot.unset).toArray = ls at hl ⊢
  have hP : va_P (dC, dI) vwCl [(h0, .inr (0, [.int (nI gW), .int (nI gC), .int (nI gV), .int (nI gB), .ref hs, .int (nI gM), .int (nI gI), .ref hd])), (hs, .inl (a1, gW, .inl st)), (hd, .inr (1, [.ref hc, .int d.2.1, .int d.2.2.1, .int d.2.2.2.1, .int d.2.2.2.2])), (hc, .inl (a2, (gI + 4), .inl d.1))] s.heap := hP
  have hD : va_D A [(h0, .inr (0, [.int (nI gW), .int (nI gC), .int (nI gV), .int (nI gB), .ref hs, .int (nI gM), .int (nI gI), .ref hd])), (hs, .inl (a1, gW, .inl st)), (hd, .inr (1, [.ref hc, .int d.2.1, .int d.2.2.1, .int d.2.2.2.1, .int d.2.2.2.2])), (hc, .inl (a2, (gI + 4), .inl d.1))] := hD
  have hl : lv_has ls 4 [(0, .ref h0), (1, .int vol), (2, .int lb)] := hl
  obtain ⟨⟨hW1, hW2⟩, ⟨hC1, hC2⟩, ⟨hV1, hV2⟩, ⟨hB1, hB2⟩, eM, eI⟩ := id hg
  obtain ⟨hM2, hq2⟩ := geo_b hg
  refine lv_aload_n hx hb dX0_refsOf_0 rfl (lv_at hl 0 rfl) ?_
  refine va_get (D := (dC, dI)) (ci := 0) (v := .ref hd) (C := RX0) (T := TX0) (N := 8) hx hb hts inX0 hown hK hP 0 rfl rfl 7 (by decide) (hts _ tb_53) (fun _ h9 => h9) rfl dX0_refsOf_1 ?_
  refine xr_i (D := (dC, dI)) (wf := (dk_w hd hc a2 (gI + 4))) (u0 := d) (wr := [(h0, .inr (0, [.int (nI gW), .int (nI gC), .int (nI gV), .int (nI gB), .ref hs, .int (nI gM), .int (nI gI), .ref hd])), (hs, .inl (a1, gW, .inl st))]) (va_runVN (As := []) (rest := []) ⟨hx, hb, hml, hown, hts⟩ (k_X1_isDown l dC dI hd hc a2 (gI + 4) (by omega) s.heap.size d hz) ⟨va_cnB 0 hts gX0_51 rfl rfl rfl (hN _ nn_51) (hts _ tb_3) (by decide +kernel) ⟨Nat.le_of_ble_eq_true rfl, Nat.le_of_ble_eq_true rfl⟩, hts _ tb_93, hts _ ts_2⟩ (xp_v nwL_ok (hK.sub (tys' := [(a2, .int)]) [1] rfl) hN hP hD [2, 3] rfl rfl (va_recv hK hP (ci := 1) (q0 := 2) rfl rfl)) rfl rfl hl.1 rfl (lv_room (Nat.le_of_ble_eq_true rfl)) dX0_refsOf_4 ⟨Nat.zero_le _, Nat.zero_le _⟩) hP hD hS hA [2, 3] [0, 1] rfl rfl (by decide) (by decide) (fun r_1 u_2 H locs hw hP hD hS => ?_)
  obtain ⟨er_1, eu_2⟩ := hw
  rw [eu_2] at hP hD
  rw [er_1]
  have hP : va_P (dC, dI) vwCl [(h0, .inr (0, [.int (nI gW), .int (nI gC), .int (nI gV), .int (nI gB), .ref hs, .int (nI gM), .int (nI gI), .ref hd])), (hs, .inl (a1, gW, .inl st)), (hd, .inr (1, [.ref hc, .int d.2.1, .int d.2.2.1, .int d.2.2.2.1, .int d.2.2.2.2])), (hc, .inl (a2, (gI + 4), .inl d.1))] H := hP
  have hD : va_D A [(h0, .inr (0, [.int (nI gW), .int (nI gC), .int (nI gV), .int (nI gB), .ref hs, .int (nI gM), .int (nI gI), .ref hd])), (hs, .inl (a1, gW, .inl st)), (hd, .inr (1, [.ref hc, .int d.2.1, .int d.2.2.1, .int d.2.2.2.1, .int d.2.2.2.2])), (hc, .inl (a2, (gI + 4), .inl d.1))] := hD
  refine lv_if_eq (tgt := 13) hx hb dX0_refsOf_7 (by decide) (fun c_3 => ?_) (fun c_3 => ?_)
  · refine lv_aload_n hx hb dX0_refsOf_13 rfl (lv_at hl 0 rfl) ?_
    refine lv_iload_n hx hb dX0_refsOf_14 rfl (lv_at hl 1 rfl) ?_
    refine lv_iload_n hx hb dX0_refsOf_15 rfl (lv_at hl 2 rfl) ?_
    refine xr_i (D := (dC, dI)) (wf := (xo_w h0 hs hd hc a1 a2 gW gC gV gB gM gI)) (u0 := (st, d)) (wr := []) (va_runV (As := [.int vol, .int lb]) (rest := []) ⟨hx, hb, hml, hown, hts⟩ (k_X0_isBlock l dC dI h0 hs hd hc a1 a2 gW gC gV gB gM gI hg H.size st d vol lb) (cwV 2 hts gX0_59 rfl rfl rfl (by decide +kernel) ⟨Nat.le_of_ble_eq_true rfl, Nat.le_of_ble_eq_true rfl⟩) (xp_v nwL_ok hK hN hP hD [0, 1, 2, 3] rfl rfl (va_recv hK hP (ci := 0) (q0 := 0) rfl rfl)) rfl rfl hl.1 rfl (lv_room (Nat.le_of_ble_eq_true rfl)) dX0_refsOf_16 ⟨Nat.zero_le _, Nat.zero_le _⟩) hP hD hS hA [0, 1, 2, 3] [] rfl rfl (by decide) (by decide) (fun r_4 u_5 H locs hw hP hD hS => ?_)
    obtain ⟨er_4, eu_5⟩ := hw
    rw [eu_5] at hP hD
    rw [er_4]
    have hP : va_P (dC, dI) vwCl [(h0, .inr (0, [.int (nI gW), .int (nI gC), .int (nI gV), .int (nI gB), .ref hs, .int (nI gM), .int (nI gI), .ref hd])), (hs, .inl (a1, gW, .inl st)), (hd, .inr (1, [.ref hc, .int d.2.1, .int d.2.2.1, .int d.2.2.2.1, .int d.2.2.2.2])), (hc, .inl (a2, (gI + 4), .inl d.1))] H := hP
    have hD : va_D A [(h0, .inr (0, [.int (nI gW), .int (nI gC), .int (nI gV), .int (nI gB), .ref hs, .int (nI gM), .int (nI gI), .ref hd])), (hs, .inl (a1, gW, .inl st)), (hd, .inr (1, [.ref hc, .int d.2.1, .int d.2.2.1, .int d.2.2.2.1, .int d.2.2.2.2])), (hc, .inl (a2, (gI + 4), .inl d.1))] := hD
    refine lv_if_ne (tgt := 24) hx hb dX0_refsOf_19 (by decide) (fun c_6 => ?_) (fun c_6 => ?_)
    · obtain ⟨v, b, hv, hb9, ev, eb⟩ := inB_nz (by omega) (by omega) c_6
      have hl : lv_has ls 4 [(0, .ref h0), (1, .int (nI v)), (2, .int lb)] := by have q9 := hl; rw [ev] at q9; exact q9
      have hl : lv_has ls 4 [(0, .ref h0), (1, .int (nI v)), (2, .int (nI b))] := by have q9 := hl; rw [eb] at q9; exact q9
      refine lv_aload_n hx hb dX0_refsOf_24 rfl (lv_at hl 0 rfl) ?_
      refine lv_iload_n hx hb dX0_refsOf_25 rfl (lv_at hl 1 rfl) ?_
      refine lv_iload_n hx hb dX0_refsOf_26 rfl (lv_at hl 2 rfl) ?_
      refine xr_i (D := (dC, dI)) (wf := (xo_w h0 hs hd hc a1 a2 gW gC gV gB gM gI)) (u0 := (st, d)) (wr := []) (va_runV (As := [.int (nI v), .int (nI b)]) (rest := []) ⟨hx, hb, hml, hown, hts⟩ (k_X0_mappedSlot l dC dI h0 hs hd hc a1 a2 gW gC gV gB gM gI hg H.size st d v b (by omega) (by omega)) (cwV 2 hts gX0_70 rfl rfl rfl (by decide +kernel) ⟨Nat.le_of_ble_eq_true rfl, Nat.le_of_ble_eq_true rfl⟩) (xp_v nwL_ok hK hN hP hD [0, 1, 2, 3] rfl rfl (va_recv hK hP (ci := 0) (q0 := 0) rfl rfl)) rfl rfl hl.1 rfl (lv_room (Nat.le_of_ble_eq_true rfl)) dX0_refsOf_27 ⟨Nat.zero_le _, Nat.zero_le _⟩) hP hD hS hA [0, 1, 2, 3] [] rfl rfl (by decide) (by decide) (fun r_7 u_8 H locs hw hP hD hS => ?_)
      obtain ⟨er_7, eu_8⟩ := hw
      rw [eu_8] at hP hD
      rw [er_7]
      have hP : va_P (dC, dI) vwCl [(h0, .inr (0, [.int (nI gW), .int (nI gC), .int (nI gV), .int (nI gB), .ref hs, .int (nI gM), .int (nI gI), .ref hd])), (hs, .inl (a1, gW, .inl st)), (hd, .inr (1, [.ref hc, .int d.2.1, .int d.2.2.1, .int d.2.2.2.1, .int d.2.2.2.2])), (hc, .inl (a2, (gI + 4), .inl d.1))] H := hP
      have hD : va_D A [(h0, .inr (0, [.int (nI gW), .int (nI gC), .int (nI gV), .int (nI gB), .ref hs, .int (nI gM), .int (nI gI), .ref hd])), (hs, .inl (a1, gW, .inl st)), (hd, .inr (1, [.ref hc, .int d.2.1, .int d.2.2.1, .int d.2.2.2.1, .int d.2.2.2.2])), (hc, .inl (a2, (gI + 4), .inl d.1))] := hD
      refine lv_istore_n (lv' := [(3, .int (d.1 (gM + v * gB + b) - 1)), (0, .ref h0), (1, .int (nI v)), (2, .int (nI b))]) hx hb dX0_refsOf_30 rfl hl (by decide) rfl (fun ls hl => ?_)
      refine lv_iload_n hx hb dX0_refsOf_31 rfl (lv_at hl 0 rfl) ?_
      refine lv_iconst (v := (-1)) hx hb dX0_refsOf_32 (by decide) ?_
      refine lv_icmp_ne (tgt := 40) hx hb dX0_refsOf_33 (by decide) (fun c_9 => ?_) (fun c_9 => ?_)
      · refine lv_aload_n hx hb dX0_refsOf_40 rfl (lv_at hl 1 rfl) ?_
        refine lv_iload_n hx hb dX0_refsOf_41 rfl (lv_at hl 0 rfl) ?_
        refine xr_i (D := (dC, dI)) (wf := (xo_w h0 hs hd hc a1 a2 gW gC gV gB gM gI)) (u0 := (st, d)) (wr := []) (va_runV (As := [.int (d.1 (gM + v * gB + b) - 1)]) (rest := []) ⟨hx, hb, hml, hown, hts⟩ (k_X0_blocksMappedTo l dC dI h0 hs hd hc a1 a2 gW gC gV gB gM gI hg H.size st d (d.1 (gM + v * gB + b) - 1)) (cwV 1 hts gX0_90 rfl rfl rfl (by decide +kernel) ⟨Nat.le_of_ble_eq_true rfl, Nat.le_of_ble_eq_true rfl⟩) (xp_v nwL_ok hK hN hP hD [0, 1, 2, 3] rfl rfl (va_recv hK hP (ci := 0) (q0 := 0) rfl rfl)) rfl rfl hl.1 rfl (lv_room (Nat.le_of_ble_eq_true rfl)) dX0_refsOf_42 ⟨Nat.zero_le _, Nat.zero_le _⟩) hP hD hS hA [0, 1, 2, 3] [] rfl rfl (by decide) (by decide) (fun r_10 u_11 H locs hw hP hD hS => ?_)
        obtain ⟨er_10, eu_11⟩ := hw
        rw [eu_11] at hP hD
        rw [er_10]
        have hP : va_P (dC, dI) vwCl [(h0, .inr (0, [.int (nI gW), .int (nI gC), .int (nI gV), .int (nI gB), .ref hs, .int (nI gM), .int (nI gI), .ref hd])), (hs, .inl (a1, gW, .inl st)), (hd, .inr (1, [.ref hc, .int d.2.1, .int d.2.2.1, .int d.2.2.2.1, .int d.2.2.2.2])), (hc, .inl (a2, (gI + 4), .inl d.1))] H := hP
        have hD : va_D A [(h0, .inr (0, [.int (nI gW), .int (nI gC), .int (nI gV), .int (nI gB), .ref hs, .int (nI gM), .int (nI gI), .ref hd])), (hs, .inl (a1, gW, .inl st)), (hd, .inr (1, [.ref hc, .int d.2.1, .int d.2.2.1, .int d.2.2.2.1, .int d.2.2.2.2])), (hc, .inl (a2, (gI + 4), .inl d.1))] := hD
        exact W.iret (v := nI (cntC d.1 gM (d.1 (gM + v * gB + b) - 1 + 1) (gV * gB))) hx hb hr (fun t ht hW => ⟨⟨nI (cntC d.1 gM (d.1 (gM + v * gB + b) - 1 + 1) (gV * gB)), (st, d), rfl, ⟨by unfold x_refs; rw [if_pos c_3, if_neg c_6, ev, eb, nI_clamp (n := v) (by omega), nI_clamp (n := b) (by omega), if_neg c_9], by unfold x_refs; rw [if_pos c_3, if_neg c_6, ev, eb, nI_clamp (n := v) (by omega), nI_clamp (n := b) (by omega), if_neg c_9]⟩, by rw [ht]; exact hP, hD⟩, hS.F ht⟩) hS.2.2 dX0_refsOf_45
      · refine lv_iconst (v := 0) hx hb dX0_refsOf_36 (by decide) ?_
        refine lv_goto (tgt := 45) hx hb dX0_refsOf_37 (by decide) ?_
        exact W.iret (v := 0) hx hb hr (fun t ht hW => ⟨⟨0, (st, d), rfl, ⟨by unfold x_refs; rw [if_pos c_3, if_neg c_6, ev, eb, nI_clamp (n := v) (by omega), nI_clamp (n := b) (by omega), if_pos c_9], by unfold x_refs; rw [if_pos c_3, if_neg c_6, ev, eb, nI_clamp (n := v) (by omega), nI_clamp (n := b) (by omega), if_pos c_9]⟩, by rw [ht]; exact hP, hD⟩, hS.F ht⟩) hS.2.2 dX0_refsOf_45
    · refine lv_iconst (v := 0) hx hb dX0_refsOf_22 (by decide) ?_
      exact W.iret (v := 0) hx hb hr (fun t ht hW => ⟨⟨0, (st, d), rfl, ⟨by unfold x_refs; rw [if_pos c_3, if_pos c_6], by unfold x_refs; rw [if_pos c_3, if_pos c_6]⟩, by rw [ht]; exact hP, hD⟩, hS.F ht⟩) hS.2.2 dX0_refsOf_23
  · refine lv_bipush (v := (-4)) hx hb dX0_refsOf_10 (by decide) ?_
    exact W.iret (v := (-4)) hx hb hr (fun t ht hW => ⟨⟨(-4), (st, d), rfl, ⟨by unfold x_refs; rw [if_neg c_3], by unfold x_refs; rw [if_neg c_3]⟩, by rw [ht]; exact hP, hD⟩, hS.F ht⟩) hS.2.2 dX0_refsOf_12
set_option maxHeartbeats 4000000 in
set_option maxRecDepth 100000 in
theorem k_X0_slotOf (l : Launch) (dC : Nat → ClassId) (dI : Nat → Nat → Nat) (h0 hs hd hc : Nat) (a1 a2 : ClassId) (gW gC gV gB gM gI : Nat) (hg : geo gW gC gV gB gM gI) (sz : Nat) (st : Nat → Int32) (d : DS) (hz : d.2.2.2.2 = 0 ∨ d.2.2.2.2 = 1) (vol lb : Int32) : ctI nwL l yX0_slotOf wsX0_slotOf ({ frames := 2, cells := 0, slots := 0, locals := 44 } : Room) (dC, dI) [(a1, .int), (a2, .int)] (xo_w h0 hs hd hc a1 a2 gW gC gV gB gM gI) (st, d) sz [.ref h0, .int vol, .int lb] (fun (r : Int32) (u : XS) => r = (x_slot st d gW gC gV gB gM gI vol lb).1 ∧ u = (x_slot st d gW gC gV gB gM gI vol lb).2) := by
  refine Met.ofW (cc := cX0_slotOf) (maxL := 4) (ret := (some .int)) (by decide) rfl ?_
  intro p e s m args below meth c s₁ B hml hv
  obtain ⟨rfl, hsz, hP, hK, hD0, hN⟩ := hv
  have hx := B.exec
  have hb := B.bytes
  have hr := B.returns
  have hts := fun w h => atoms_spec (ws := wsX0_slotOf) B.pre w (List.mem_cons_of_mem _ h)
  have hown : s.vm.findClass RX0 = some m.cls := findClass_of_methodNamed B.named
  have hlocks := B.notSynchronized
  subst hsz
  have hD := hD0.self (sz := s.heap.size)
  generalize hAe : va_A ((xo_w h0 hs hd hc a1 a2 gW gC gV gB gM gI) (st, d)) s.heap.size = A at hD ⊢
  have hA : ∀ q : Nat, s.heap.size ≤ q → A q := fun q h => by rw [← hAe]; exact Or.inr h
  have hS : va_S A s.heap s.heap [] := va_S.rf
  have hl := lv_entry ([.ref h0, .int vol, .int lb]) (n := 4) (Nat.le_of_ble_eq_true rfl)
  rw [lg_entry_eq]
  generalize (lg_sl ([.ref h0, .int vol, .int lb]) ++ List.replicate (4 - (lg_sl ([.ref h0, .int vol, .int lb])).length) Slot.unset).toArray = ls at hl ⊢
  have hP : va_P (dC, dI) vwCl [(h0, .inr (0, [.int (nI gW), .int (nI gC), .int (nI gV), .int (nI gB), .ref hs, .int (nI gM), .int (nI gI), .ref hd])), (hs, .inl (a1, gW, .inl st)), (hd, .inr (1, [.ref hc, .int d.2.1, .int d.2.2.1, .int d.2.2.2.1, .int d.2.2.2.2])), (hc, .inl (a2, (gI + 4), .inl d.1))] s.heap := hP
  have hD : va_D A [(h0, .inr (0, [.int (nI gW), .int (nI gC), .int (nI gV), .int (nI gB), .ref hs, .int (nI gM), .int (nI gI), .ref hd])), (hs, .inl (a1, gW, .inl st)), (hd, .inr (1, [.ref hc, .int d.2.1, .int d.2.2.1, .int d.2.2.2.1, .int d.2.2.2.2])), (hc, .inl (a2, (gI + 4), .inl d.1))] := hD
  have hl : lv_has ls 4 [(0, .ref h0), (1, .int vol), (2, .int lb)] := hl
  obtain ⟨⟨hW1, hW2⟩, ⟨hC1, hC2⟩, ⟨hV1, hV2⟩, ⟨hB1, hB2⟩, eM, eI⟩ := id hg
  obtain ⟨hM2, hq2⟩ := geo_b hg
  refine lv_aload_n hx hb dX0_slotOf_0 rfl (lv_at hl 0 rfl) ?_
  refine va_get (D := (dC, dI)) (ci := 0) (v := .ref hd) (C := RX0) (T := TX0) (N := 8) hx hb hts inX0 hown hK hP 0 rfl rfl 7 (by decide) (hts _ tb_53) (fun _ h9 => h9) rfl dX0_slotOf_1 ?_
  refine xr_i (D := (dC, dI)) (wf := (dk_w hd hc a2 (gI + 4))) (u0 := d) (wr := [(h0, .inr (0, [.int (nI gW), .int (nI gC), .int (nI gV), .int (nI gB), .ref hs, .int (nI gM), .int (nI gI), .ref hd])), (hs, .inl (a1, gW, .inl st))]) (va_runVN (As := []) (rest := []) ⟨hx, hb, hml, hown, hts⟩ (k_X1_isDown l dC dI hd hc a2 (gI + 4) (by omega) s.heap.size d hz) ⟨va_cnB 0 hts gX0_51 rfl rfl rfl (hN _ nn_51) (hts _ tb_3) (by decide +kernel) ⟨Nat.le_of_ble_eq_true rfl, Nat.le_of_ble_eq_true rfl⟩, hts _ tb_93, hts _ ts_2⟩ (xp_v nwL_ok (hK.sub (tys' := [(a2, .int)]) [1] rfl) hN hP hD [2, 3] rfl rfl (va_recv hK hP (ci := 1) (q0 := 2) rfl rfl)) rfl rfl hl.1 rfl (lv_room (Nat.le_of_ble_eq_true rfl)) dX0_slotOf_4 ⟨Nat.zero_le _, Nat.zero_le _⟩) hP hD hS hA [2, 3] [0, 1] rfl rfl (by decide) (by decide) (fun r_1 u_2 H locs hw hP hD hS => ?_)
  obtain ⟨er_1, eu_2⟩ := hw
  rw [eu_2] at hP hD
  rw [er_1]
  have hP : va_P (dC, dI) vwCl [(h0, .inr (0, [.int (nI gW), .int (nI gC), .int (nI gV), .int (nI gB), .ref hs, .int (nI gM), .int (nI gI), .ref hd])), (hs, .inl (a1, gW, .inl st)), (hd, .inr (1, [.ref hc, .int d.2.1, .int d.2.2.1, .int d.2.2.2.1, .int d.2.2.2.2])), (hc, .inl (a2, (gI + 4), .inl d.1))] H := hP
  have hD : va_D A [(h0, .inr (0, [.int (nI gW), .int (nI gC), .int (nI gV), .int (nI gB), .ref hs, .int (nI gM), .int (nI gI), .ref hd])), (hs, .inl (a1, gW, .inl st)), (hd, .inr (1, [.ref hc, .int d.2.1, .int d.2.2.1, .int d.2.2.2.1, .int d.2.2.2.2])), (hc, .inl (a2, (gI + 4), .inl d.1))] := hD
  refine lv_if_eq (tgt := 13) hx hb dX0_slotOf_7 (by decide) (fun c_3 => ?_) (fun c_3 => ?_)
  · refine lv_aload_n hx hb dX0_slotOf_13 rfl (lv_at hl 0 rfl) ?_
    refine lv_iload_n hx hb dX0_slotOf_14 rfl (lv_at hl 1 rfl) ?_
    refine lv_iload_n hx hb dX0_slotOf_15 rfl (lv_at hl 2 rfl) ?_
    refine xr_i (D := (dC, dI)) (wf := (xo_w h0 hs hd hc a1 a2 gW gC gV gB gM gI)) (u0 := (st, d)) (wr := []) (va_runV (As := [.int vol, .int lb]) (rest := []) ⟨hx, hb, hml, hown, hts⟩ (k_X0_isBlock l dC dI h0 hs hd hc a1 a2 gW gC gV gB gM gI hg H.size st d vol lb) (cwV 2 hts gX0_59 rfl rfl rfl (by decide +kernel) ⟨Nat.le_of_ble_eq_true rfl, Nat.le_of_ble_eq_true rfl⟩) (xp_v nwL_ok hK hN hP hD [0, 1, 2, 3] rfl rfl (va_recv hK hP (ci := 0) (q0 := 0) rfl rfl)) rfl rfl hl.1 rfl (lv_room (Nat.le_of_ble_eq_true rfl)) dX0_slotOf_16 ⟨Nat.zero_le _, Nat.zero_le _⟩) hP hD hS hA [0, 1, 2, 3] [] rfl rfl (by decide) (by decide) (fun r_4 u_5 H locs hw hP hD hS => ?_)
    obtain ⟨er_4, eu_5⟩ := hw
    rw [eu_5] at hP hD
    rw [er_4]
    have hP : va_P (dC, dI) vwCl [(h0, .inr (0, [.int (nI gW), .int (nI gC), .int (nI gV), .int (nI gB), .ref hs, .int (nI gM), .int (nI gI), .ref hd])), (hs, .inl (a1, gW, .inl st)), (hd, .inr (1, [.ref hc, .int d.2.1, .int d.2.2.1, .int d.2.2.2.1, .int d.2.2.2.2])), (hc, .inl (a2, (gI + 4), .inl d.1))] H := hP
    have hD : va_D A [(h0, .inr (0, [.int (nI gW), .int (nI gC), .int (nI gV), .int (nI gB), .ref hs, .int (nI gM), .int (nI gI), .ref hd])), (hs, .inl (a1, gW, .inl st)), (hd, .inr (1, [.ref hc, .int d.2.1, .int d.2.2.1, .int d.2.2.2.1, .int d.2.2.2.2])), (hc, .inl (a2, (gI + 4), .inl d.1))] := hD
    refine lv_if_ne (tgt := 24) hx hb dX0_slotOf_19 (by decide) (fun c_6 => ?_) (fun c_6 => ?_)
    · obtain ⟨v, b, hv, hb9, ev, eb⟩ := inB_nz (by omega) (by omega) c_6
      have hl : lv_has ls 4 [(0, .ref h0), (1, .int (nI v)), (2, .int lb)] := by have q9 := hl; rw [ev] at q9; exact q9
      have hl : lv_has ls 4 [(0, .ref h0), (1, .int (nI v)), (2, .int (nI b))] := by have q9 := hl; rw [eb] at q9; exact q9
      refine lv_aload_n hx hb dX0_slotOf_24 rfl (lv_at hl 0 rfl) ?_
      refine lv_iload_n hx hb dX0_slotOf_25 rfl (lv_at hl 1 rfl) ?_
      refine lv_iload_n hx hb dX0_slotOf_26 rfl (lv_at hl 2 rfl) ?_
      refine xr_i (D := (dC, dI)) (wf := (xo_w h0 hs hd hc a1 a2 gW gC gV gB gM gI)) (u0 := (st, d)) (wr := []) (va_runV (As := [.int (nI v), .int (nI b)]) (rest := []) ⟨hx, hb, hml, hown, hts⟩ (k_X0_mappedSlot l dC dI h0 hs hd hc a1 a2 gW gC gV gB gM gI hg H.size st d v b (by omega) (by omega)) (cwV 2 hts gX0_70 rfl rfl rfl (by decide +kernel) ⟨Nat.le_of_ble_eq_true rfl, Nat.le_of_ble_eq_true rfl⟩) (xp_v nwL_ok hK hN hP hD [0, 1, 2, 3] rfl rfl (va_recv hK hP (ci := 0) (q0 := 0) rfl rfl)) rfl rfl hl.1 rfl (lv_room (Nat.le_of_ble_eq_true rfl)) dX0_slotOf_27 ⟨Nat.zero_le _, Nat.zero_le _⟩) hP hD hS hA [0, 1, 2, 3] [] rfl rfl (by decide) (by decide) (fun r_7 u_8 H locs hw hP hD hS => ?_)
      obtain ⟨er_7, eu_8⟩ := hw
      rw [eu_8] at hP hD
      rw [er_7]
      have hP : va_P (dC, dI) vwCl [(h0, .inr (0, [.int (nI gW), .int (nI gC), .int (nI gV), .int (nI gB), .ref hs, .int (nI gM), .int (nI gI), .ref hd])), (hs, .inl (a1, gW, .inl st)), (hd, .inr (1, [.ref hc, .int d.2.1, .int d.2.2.1, .int d.2.2.2.1, .int d.2.2.2.2])), (hc, .inl (a2, (gI + 4), .inl d.1))] H := hP
      have hD : va_D A [(h0, .inr (0, [.int (nI gW), .int (nI gC), .int (nI gV), .int (nI gB), .ref hs, .int (nI gM), .int (nI gI), .ref hd])), (hs, .inl (a1, gW, .inl st)), (hd, .inr (1, [.ref hc, .int d.2.1, .int d.2.2.1, .int d.2.2.2.1, .int d.2.2.2.2])), (hc, .inl (a2, (gI + 4), .inl d.1))] := hD
      refine lv_istore_n (lv' := [(3, .int (d.1 (gM + v * gB + b) - 1)), (0, .ref h0), (1, .int (nI v)), (2, .int (nI b))]) hx hb dX0_slotOf_30 rfl hl (by decide) rfl (fun ls hl => ?_)
      refine lv_iload_n hx hb dX0_slotOf_31 rfl (lv_at hl 0 rfl) ?_
      refine lv_iconst (v := (-1)) hx hb dX0_slotOf_32 (by decide) ?_
      refine lv_icmp_ne (tgt := 41) hx hb dX0_slotOf_33 (by decide) (fun c_9 => ?_) (fun c_9 => ?_)
      · refine lv_iload_n hx hb dX0_slotOf_41 rfl (lv_at hl 0 rfl) ?_
        exact W.iret (v := d.1 (gM + v * gB + b) - 1) hx hb hr (fun t ht hW => ⟨⟨d.1 (gM + v * gB + b) - 1, (st, d), rfl, ⟨by unfold x_slot; rw [if_pos c_3, if_neg c_6, ev, eb, nI_clamp (n := v) (by omega), nI_clamp (n := b) (by omega), if_neg c_9], by unfold x_slot; rw [if_pos c_3, if_neg c_6, ev, eb, nI_clamp (n := v) (by omega), nI_clamp (n := b) (by omega), if_neg c_9]⟩, by rw [ht]; exact hP, hD⟩, hS.F ht⟩) hS.2.2 dX0_slotOf_42
      · refine lv_bipush (v := (-3)) hx hb dX0_slotOf_36 (by decide) ?_
        refine lv_goto (tgt := 42) hx hb dX0_slotOf_38 (by decide) ?_
        exact W.iret (v := (-3)) hx hb hr (fun t ht hW => ⟨⟨(-3), (st, d), rfl, ⟨by unfold x_slot; rw [if_pos c_3, if_neg c_6, ev, eb, nI_clamp (n := v) (by omega), nI_clamp (n := b) (by omega), if_pos c_9], by unfold x_slot; rw [if_pos c_3, if_neg c_6, ev, eb, nI_clamp (n := v) (by omega), nI_clamp (n := b) (by omega), if_pos c_9]⟩, by rw [ht]; exact hP, hD⟩, hS.F ht⟩) hS.2.2 dX0_slotOf_42
    · refine lv_iconst (v := (-1)) hx hb dX0_slotOf_22 (by decide) ?_
      exact W.iret (v := (-1)) hx hb hr (fun t ht hW => ⟨⟨(-1), (st, d), rfl, ⟨by unfold x_slot; rw [if_pos c_3, if_pos c_6], by unfold x_slot; rw [if_pos c_3, if_pos c_6]⟩, by rw [ht]; exact hP, hD⟩, hS.F ht⟩) hS.2.2 dX0_slotOf_23
  · refine lv_bipush (v := (-4)) hx hb dX0_slotOf_10 (by decide) ?_
    exact W.iret (v := (-4)) hx hb hr (fun t ht hW => ⟨⟨(-4), (st, d), rfl, ⟨by unfold x_slot; rw [if_neg c_3], by unfold x_slot; rw [if_neg c_3]⟩, by rw [ht]; exact hP, hD⟩, hS.F ht⟩) hS.2.2 dX0_slotOf_12
set_option maxHeartbeats 4000000 in
set_option maxRecDepth 100000 in
theorem k_X0_slotWord (l : Launch) (dC : Nat → ClassId) (dI : Nat → Nat → Nat) (h0 hs hd hc : Nat) (a1 a2 : ClassId) (gW gC gV gB gM gI : Nat) (hg : geo gW gC gV gB gM gI) (sz : Nat) (st : Nat → Int32) (d : DS) (hz : d.2.2.2.2 = 0 ∨ d.2.2.2.2 = 1) (slot i : Int32) : ctI nwL l yX0_slotWord wsX0_slotWord ({ frames := 1, cells := 0, slots := 0, locals := 22 } : Room) (dC, dI) [(a1, .int), (a2, .int)] (xo_w h0 hs hd hc a1 a2 gW gC gV gB gM gI) (st, d) sz [.ref h0, .int slot, .int i] (fun (r : Int32) (u : XS) => r = (x_word st d gW gC gV gB gM gI slot i).1 ∧ u = (x_word st d gW gC gV gB gM gI slot i).2) := by
  refine Met.ofW (cc := cX0_slotWord) (maxL := 3) (ret := (some .int)) (by decide) rfl ?_
  intro p e s m args below meth c s₁ B hml hv
  obtain ⟨rfl, hsz, hP, hK, hD0, hN⟩ := hv
  have hx := B.exec
  have hb := B.bytes
  have hr := B.returns
  have hts := fun w h => atoms_spec (ws := wsX0_slotWord) B.pre w (List.mem_cons_of_mem _ h)
  have hown : s.vm.findClass RX0 = some m.cls := findClass_of_methodNamed B.named
  have hlocks := B.notSynchronized
  subst hsz
  have hD := hD0.self (sz := s.heap.size)
  generalize hAe : va_A ((xo_w h0 hs hd hc a1 a2 gW gC gV gB gM gI) (st, d)) s.heap.size = A at hD ⊢
  have hA : ∀ q : Nat, s.heap.size ≤ q → A q := fun q h => by rw [← hAe]; exact Or.inr h
  have hS : va_S A s.heap s.heap [] := va_S.rf
  have hl := lv_entry ([.ref h0, .int slot, .int i]) (n := 3) (Nat.le_of_ble_eq_true rfl)
  rw [lg_entry_eq]
  generalize (lg_sl ([.ref h0, .int slot, .int i]) ++ List.replicate (3 - (lg_sl ([.ref h0, .int slot, .int i])).length) Slot.unset).toArray = ls at hl ⊢
  have hP : va_P (dC, dI) vwCl [(h0, .inr (0, [.int (nI gW), .int (nI gC), .int (nI gV), .int (nI gB), .ref hs, .int (nI gM), .int (nI gI), .ref hd])), (hs, .inl (a1, gW, .inl st)), (hd, .inr (1, [.ref hc, .int d.2.1, .int d.2.2.1, .int d.2.2.2.1, .int d.2.2.2.2])), (hc, .inl (a2, (gI + 4), .inl d.1))] s.heap := hP
  have hD : va_D A [(h0, .inr (0, [.int (nI gW), .int (nI gC), .int (nI gV), .int (nI gB), .ref hs, .int (nI gM), .int (nI gI), .ref hd])), (hs, .inl (a1, gW, .inl st)), (hd, .inr (1, [.ref hc, .int d.2.1, .int d.2.2.1, .int d.2.2.2.1, .int d.2.2.2.2])), (hc, .inl (a2, (gI + 4), .inl d.1))] := hD
  have hl : lv_has ls 3 [(0, .ref h0), (1, .int slot), (2, .int i)] := hl
  obtain ⟨⟨hW1, hW2⟩, ⟨hC1, hC2⟩, ⟨hV1, hV2⟩, ⟨hB1, hB2⟩, eM, eI⟩ := id hg
  obtain ⟨hM2, hq2⟩ := geo_b hg
  refine lv_aload_n hx hb dX0_slotWord_0 rfl (lv_at hl 0 rfl) ?_
  refine va_get (D := (dC, dI)) (ci := 0) (v := .ref hd) (C := RX0) (T := TX0) (N := 8) hx hb hts inX0 hown hK hP 0 rfl rfl 7 (by decide) (hts _ tb_53) (fun _ h9 => h9) rfl dX0_slotWord_1 ?_
  refine xr_i (D := (dC, dI)) (wf := (dk_w hd hc a2 (gI + 4))) (u0 := d) (wr := [(h0, .inr (0, [.int (nI gW), .int (nI gC), .int (nI gV), .int (nI gB), .ref hs, .int (nI gM), .int (nI gI), .ref hd])), (hs, .inl (a1, gW, .inl st))]) (va_runVN (As := []) (rest := []) ⟨hx, hb, hml, hown, hts⟩ (k_X1_isDown l dC dI hd hc a2 (gI + 4) (by omega) s.heap.size d hz) ⟨va_cnB 0 hts gX0_51 rfl rfl rfl (hN _ nn_51) (hts _ tb_3) (by decide +kernel) ⟨Nat.le_of_ble_eq_true rfl, Nat.le_of_ble_eq_true rfl⟩, hts _ tb_93, hts _ ts_2⟩ (xp_v nwL_ok (hK.sub (tys' := [(a2, .int)]) [1] rfl) hN hP hD [2, 3] rfl rfl (va_recv hK hP (ci := 1) (q0 := 2) rfl rfl)) rfl rfl hl.1 rfl (lv_room (Nat.le_of_ble_eq_true rfl)) dX0_slotWord_4 ⟨Nat.zero_le _, Nat.zero_le _⟩) hP hD hS hA [2, 3] [0, 1] rfl rfl (by decide) (by decide) (fun r_1 u_2 H locs hw hP hD hS => ?_)
  obtain ⟨er_1, eu_2⟩ := hw
  rw [eu_2] at hP hD
  rw [er_1]
  have hP : va_P (dC, dI) vwCl [(h0, .inr (0, [.int (nI gW), .int (nI gC), .int (nI gV), .int (nI gB), .ref hs, .int (nI gM), .int (nI gI), .ref hd])), (hs, .inl (a1, gW, .inl st)), (hd, .inr (1, [.ref hc, .int d.2.1, .int d.2.2.1, .int d.2.2.2.1, .int d.2.2.2.2])), (hc, .inl (a2, (gI + 4), .inl d.1))] H := hP
  have hD : va_D A [(h0, .inr (0, [.int (nI gW), .int (nI gC), .int (nI gV), .int (nI gB), .ref hs, .int (nI gM), .int (nI gI), .ref hd])), (hs, .inl (a1, gW, .inl st)), (hd, .inr (1, [.ref hc, .int d.2.1, .int d.2.2.1, .int d.2.2.2.1, .int d.2.2.2.2])), (hc, .inl (a2, (gI + 4), .inl d.1))] := hD
  refine lv_if_eq (tgt := 13) hx hb dX0_slotWord_7 (by decide) (fun c_3 => ?_) (fun c_3 => ?_)
  · refine lv_iload_n hx hb dX0_slotWord_13 rfl (lv_at hl 1 rfl) ?_
    refine lv_if_lt (tgt := 33) hx hb dX0_slotWord_14 (by decide) (fun c_4 => ?_) (fun c_4 => ?_)
    · refine lv_iconst (v := 0) hx hb dX0_slotWord_33 (by decide) ?_
      exact W.iret (v := 0) hx hb hr (fun t ht hW => ⟨⟨0, (st, d), rfl, ⟨by unfold x_word; rw [if_pos c_3, if_pos c_4], by unfold x_word; rw [if_pos c_3, if_pos c_4]⟩, by rw [ht]; exact hP, hD⟩, hS.F ht⟩) hS.2.2 dX0_slotWord_34
    · refine lv_iload_n hx hb dX0_slotWord_17 rfl (lv_at hl 1 rfl) ?_
      refine lv_aload_n hx hb dX0_slotWord_18 rfl (lv_at hl 0 rfl) ?_
      refine va_get (D := (dC, dI)) (ci := 0) (v := .int (nI gC)) (C := RX0) (T := TX0) (N := 8) hx hb hts inX0 hown hK hP 0 rfl rfl 1 (by decide) (hts _ tb_47) (fun _ h9 => h9) rfl dX0_slotWord_19 ?_
      refine lv_icmp_gt (tgt := 33) hx hb dX0_slotWord_22 (by decide) (fun c_5 => ?_) (fun c_5 => ?_)
      · refine lv_iconst (v := 0) hx hb dX0_slotWord_33 (by decide) ?_
        exact W.iret (v := 0) hx hb hr (fun t ht hW => ⟨⟨0, (st, d), rfl, ⟨by unfold x_word; rw [if_pos c_3, if_neg c_4, if_pos c_5], by unfold x_word; rw [if_pos c_3, if_neg c_4, if_pos c_5]⟩, by rw [ht]; exact hP, hD⟩, hS.F ht⟩) hS.2.2 dX0_slotWord_34
      · obtain ⟨k, hk, ek⟩ := nI_of3 (by omega) c_4 c_5
        have hl : lv_has ls 3 [(0, .ref h0), (1, .int (nI k)), (2, .int i)] := by have q9 := hl; rw [ek] at q9; exact q9
        refine lv_aload_n hx hb dX0_slotWord_25 rfl (lv_at hl 0 rfl) ?_
        refine lv_iload_n hx hb dX0_slotWord_26 rfl (lv_at hl 2 rfl) ?_
        refine xr_i (D := (dC, dI)) (wf := (xo_w h0 hs hd hc a1 a2 gW gC gV gB gM gI)) (u0 := (st, d)) (wr := []) (va_runV (As := [.int i]) (rest := []) ⟨hx, hb, hml, hown, hts⟩ (k_X0_isWord l dC dI h0 hs hd hc a1 a2 gW gC gV gB gM gI hg H.size st d i) (cwV 1 hts gX0_55 rfl rfl rfl (by decide +kernel) ⟨Nat.le_of_ble_eq_true rfl, Nat.le_of_ble_eq_true rfl⟩) (xp_v nwL_ok hK hN hP hD [0, 1, 2, 3] rfl rfl (va_recv hK hP (ci := 0) (q0 := 0) rfl rfl)) rfl rfl hl.1 rfl (lv_room (Nat.le_of_ble_eq_true rfl)) dX0_slotWord_27 ⟨Nat.zero_le _, Nat.zero_le _⟩) hP hD hS hA [0, 1, 2, 3] [] rfl rfl (by decide) (by decide) (fun r_6 u_7 H locs hw hP hD hS => ?_)
        obtain ⟨er_6, eu_7⟩ := hw
        rw [eu_7] at hP hD
        rw [er_6]
        have hP : va_P (dC, dI) vwCl [(h0, .inr (0, [.int (nI gW), .int (nI gC), .int (nI gV), .int (nI gB), .ref hs, .int (nI gM), .int (nI gI), .ref hd])), (hs, .inl (a1, gW, .inl st)), (hd, .inr (1, [.ref hc, .int d.2.1, .int d.2.2.1, .int d.2.2.2.1, .int d.2.2.2.2])), (hc, .inl (a2, (gI + 4), .inl d.1))] H := hP
        have hD : va_D A [(h0, .inr (0, [.int (nI gW), .int (nI gC), .int (nI gV), .int (nI gB), .ref hs, .int (nI gM), .int (nI gI), .ref hd])), (hs, .inl (a1, gW, .inl st)), (hd, .inr (1, [.ref hc, .int d.2.1, .int d.2.2.1, .int d.2.2.2.1, .int d.2.2.2.2])), (hc, .inl (a2, (gI + 4), .inl d.1))] := hD
        refine lv_if_ne (tgt := 35) hx hb dX0_slotWord_30 (by decide) (fun c_8 => ?_) (fun c_8 => ?_)
        · obtain ⟨j, hj, ej⟩ := inR_nz (by omega) c_8
          have hl : lv_has ls 3 [(0, .ref h0), (1, .int (nI k)), (2, .int (nI j))] := by have q9 := hl; rw [ej] at q9; exact q9
          refine lv_aload_n hx hb dX0_slotWord_35 rfl (lv_at hl 0 rfl) ?_
          refine va_get (D := (dC, dI)) (ci := 0) (v := .ref hd) (C := RX0) (T := TX0) (N := 8) hx hb hts inX0 hown hK hP 0 rfl rfl 7 (by decide) (hts _ tb_53) (fun _ h9 => h9) rfl dX0_slotWord_36 ?_
          refine lv_aload_n hx hb dX0_slotWord_39 rfl (lv_at hl 0 rfl) ?_
          refine lv_iload_n hx hb dX0_slotWord_40 rfl (lv_at hl 1 rfl) ?_
          refine lv_iload_n hx hb dX0_slotWord_41 rfl (lv_at hl 2 rfl) ?_
          have hkj := geo_slot hg hk hj
          refine xr_i (D := (dC, dI)) (wf := (xo_w h0 hs hd hc a1 a2 gW gC gV gB gM gI)) (u0 := (st, d)) (wr := []) (va_runV (As := [.int (nI k), .int (nI j)]) (rest := [.ref hd]) ⟨hx, hb, hml, hown, hts⟩ (k_X0_slotCell l dC dI h0 hs hd hc a1 a2 gW gC gV gB gM gI hg H.size st d k j) (cwV 2 hts gX0_77 rfl rfl rfl (by decide +kernel) ⟨Nat.le_of_ble_eq_true rfl, Nat.le_of_ble_eq_true rfl⟩) (xp_v nwL_ok hK hN hP hD [0, 1, 2, 3] rfl rfl (va_recv hK hP (ci := 0) (q0 := 0) rfl rfl)) rfl rfl hl.1 rfl (lv_room (Nat.le_of_ble_eq_true rfl)) dX0_slotWord_42 ⟨Nat.zero_le _, Nat.zero_le _⟩) hP hD hS hA [0, 1, 2, 3] [] rfl rfl (by decide) (by decide) (fun r_9 u_10 H locs hw hP hD hS => ?_)
          obtain ⟨er_9, eu_10⟩ := hw
          rw [eu_10] at hP hD
          rw [er_9]
          have hP : va_P (dC, dI) vwCl [(h0, .inr (0, [.int (nI gW), .int (nI gC), .int (nI gV), .int (nI gB), .ref hs, .int (nI gM), .int (nI gI), .ref hd])), (hs, .inl (a1, gW, .inl st)), (hd, .inr (1, [.ref hc, .int d.2.1, .int d.2.2.1, .int d.2.2.2.1, .int d.2.2.2.2])), (hc, .inl (a2, (gI + 4), .inl d.1))] H := hP
          have hD : va_D A [(h0, .inr (0, [.int (nI gW), .int (nI gC), .int (nI gV), .int (nI gB), .ref hs, .int (nI gM), .int (nI gI), .ref hd])), (hs, .inl (a1, gW, .inl st)), (hd, .inr (1, [.ref hc, .int d.2.1, .int d.2.2.1, .int d.2.2.2.1, .int d.2.2.2.2])), (hc, .inl (a2, (gI + 4), .inl d.1))] := hD
          refine xr_i (D := (dC, dI)) (wf := (dk_w hd hc a2 (gI + 4))) (u0 := d) (wr := [(h0, .inr (0, [.int (nI gW), .int (nI gC), .int (nI gV), .int (nI gB), .ref hs, .int (nI gM), .int (nI gI), .ref hd])), (hs, .inl (a1, gW, .inl st))]) (va_runVN (As := [.int (nI (k * gW + j))]) (rest := []) ⟨hx, hb, hml, hown, hts⟩ (k_X1_read l dC dI hd hc a2 (gI + 4) (by omega) H.size d (k * gW + j) (by omega)) ⟨va_cnB 1 hts gX0_80 rfl rfl rfl (hN _ nn_80) (hts _ tb_3) (by decide +kernel) ⟨Nat.le_of_ble_eq_true rfl, Nat.le_of_ble_eq_true rfl⟩, hts _ tb_125, hts _ ts_9⟩ (xp_v nwL_ok (hK.sub (tys' := [(a2, .int)]) [1] rfl) hN hP hD [2, 3] rfl rfl (va_recv hK hP (ci := 1) (q0 := 2) rfl rfl)) rfl rfl hl.1 rfl (lv_room (Nat.le_of_ble_eq_true rfl)) dX0_slotWord_45 ⟨Nat.zero_le _, Nat.zero_le _⟩) hP hD hS hA [2, 3] [0, 1] rfl rfl (by decide) (by decide) (fun r_11 u_12 H locs hw hP hD hS => ?_)
          obtain ⟨er_11, eu_12⟩ := hw
          rw [eu_12] at hP hD
          rw [er_11]
          have hP : va_P (dC, dI) vwCl [(h0, .inr (0, [.int (nI gW), .int (nI gC), .int (nI gV), .int (nI gB), .ref hs, .int (nI gM), .int (nI gI), .ref hd])), (hs, .inl (a1, gW, .inl st)), (hd, .inr (1, [.ref hc, .int d.2.1, .int d.2.2.1, .int d.2.2.2.1, .int d.2.2.2.2])), (hc, .inl (a2, (gI + 4), .inl d.1))] H := hP
          have hD : va_D A [(h0, .inr (0, [.int (nI gW), .int (nI gC), .int (nI gV), .int (nI gB), .ref hs, .int (nI gM), .int (nI gI), .ref hd])), (hs, .inl (a1, gW, .inl st)), (hd, .inr (1, [.ref hc, .int d.2.1, .int d.2.2.1, .int d.2.2.2.1, .int d.2.2.2.2])), (hc, .inl (a2, (gI + 4), .inl d.1))] := hD
          exact W.iret (v := d.1 (k * gW + j)) hx hb hr (fun t ht hW => ⟨⟨d.1 (k * gW + j), (st, d), rfl, ⟨by unfold x_word; rw [if_pos c_3, if_neg c_4, if_neg c_5, if_neg c_8, ek, nI_clamp (n := k) (by omega), ej, nI_clamp (n := j) (by omega)], by unfold x_word; rw [if_pos c_3, if_neg c_4, if_neg c_5, if_neg c_8, ek, nI_clamp (n := k) (by omega), ej, nI_clamp (n := j) (by omega)]⟩, by rw [ht]; exact hP, hD⟩, hS.F ht⟩) hS.2.2 dX0_slotWord_48
        · refine lv_iconst (v := 0) hx hb dX0_slotWord_33 (by decide) ?_
          exact W.iret (v := 0) hx hb hr (fun t ht hW => ⟨⟨0, (st, d), rfl, ⟨by unfold x_word; rw [if_pos c_3, if_neg c_4, if_neg c_5, if_pos c_8], by unfold x_word; rw [if_pos c_3, if_neg c_4, if_neg c_5, if_pos c_8]⟩, by rw [ht]; exact hP, hD⟩, hS.F ht⟩) hS.2.2 dX0_slotWord_34
  · refine lv_bipush (v := (-4)) hx hb dX0_slotWord_10 (by decide) ?_
    exact W.iret (v := (-4)) hx hb hr (fun t ht hW => ⟨⟨(-4), (st, d), rfl, ⟨by unfold x_word; rw [if_neg c_3], by unfold x_word; rw [if_neg c_3]⟩, by rw [ht]; exact hP, hD⟩, hS.F ht⟩) hS.2.2 dX0_slotWord_12
set_option maxHeartbeats 4000000 in
set_option maxRecDepth 100000 in
theorem k_X0_crashAfter (l : Launch) (dC : Nat → ClassId) (dI : Nat → Nat → Nat) (h0 hs hd hc : Nat) (a1 a2 : ClassId) (gW gC gV gB gM gI : Nat) (hg : geo gW gC gV gB gM gI) (sz : Nat) (st : Nat → Int32) (d : DS) (n : Int32) : ctV nwL l yX0_crashAfter wsX0_crashAfter ({ frames := 1, cells := 0, slots := 0, locals := 21 } : Room) (dC, dI) [(a1, .int), (a2, .int)] (xo_w h0 hs hd hc a1 a2 gW gC gV gB gM gI) (st, d) sz [.ref h0, .int n] (fun (u : XS) => u = (st, dk_arm d n)) := by
  refine Met.ofW (cc := cX0_crashAfter) (maxL := 2) (ret := none) (by decide) rfl ?_
  intro p e s m args below meth c s₁ B hml hv
  obtain ⟨rfl, hsz, hP, hK, hD0, hN⟩ := hv
  have hx := B.exec
  have hb := B.bytes
  have hr := B.returns
  have hts := fun w h => atoms_spec (ws := wsX0_crashAfter) B.pre w (List.mem_cons_of_mem _ h)
  have hown : s.vm.findClass RX0 = some m.cls := findClass_of_methodNamed B.named
  have hlocks := B.notSynchronized
  subst hsz
  have hD := hD0.self (sz := s.heap.size)
  generalize hAe : va_A ((xo_w h0 hs hd hc a1 a2 gW gC gV gB gM gI) (st, d)) s.heap.size = A at hD ⊢
  have hA : ∀ q : Nat, s.heap.size ≤ q → A q := fun q h => by rw [← hAe]; exact Or.inr h
  have hS : va_S A s.heap s.heap [] := va_S.rf
  have hl := lv_entry ([.ref h0, .int n]) (n := 2) (Nat.le_of_ble_eq_true rfl)
  rw [lg_entry_eq]
  generalize (lg_sl ([.ref h0, .int n]) ++ List.replicate (2 - (lg_sl ([.ref h0, .int n])).length) Slot.unset).toArray = ls at hl ⊢
  have hP : va_P (dC, dI) vwCl [(h0, .inr (0, [.int (nI gW), .int (nI gC), .int (nI gV), .int (nI gB), .ref hs, .int (nI gM), .int (nI gI), .ref hd])), (hs, .inl (a1, gW, .inl st)), (hd, .inr (1, [.ref hc, .int d.2.1, .int d.2.2.1, .int d.2.2.2.1, .int d.2.2.2.2])), (hc, .inl (a2, (gI + 4), .inl d.1))] s.heap := hP
  have hD : va_D A [(h0, .inr (0, [.int (nI gW), .int (nI gC), .int (nI gV), .int (nI gB), .ref hs, .int (nI gM), .int (nI gI), .ref hd])), (hs, .inl (a1, gW, .inl st)), (hd, .inr (1, [.ref hc, .int d.2.1, .int d.2.2.1, .int d.2.2.2.1, .int d.2.2.2.2])), (hc, .inl (a2, (gI + 4), .inl d.1))] := hD
  have hl : lv_has ls 2 [(0, .ref h0), (1, .int n)] := hl
  obtain ⟨⟨hW1, hW2⟩, ⟨hC1, hC2⟩, ⟨hV1, hV2⟩, ⟨hB1, hB2⟩, eM, eI⟩ := id hg
  obtain ⟨hM2, hq2⟩ := geo_b hg
  refine lv_aload_n hx hb dX0_crashAfter_0 rfl (lv_at hl 0 rfl) ?_
  refine va_get (D := (dC, dI)) (ci := 0) (v := .ref hd) (C := RX0) (T := TX0) (N := 8) hx hb hts inX0 hown hK hP 0 rfl rfl 7 (by decide) (hts _ tb_53) (fun _ h9 => h9) rfl dX0_crashAfter_1 ?_
  refine lv_iload_n hx hb dX0_crashAfter_4 rfl (lv_at hl 1 rfl) ?_
  refine xr_v (D := (dC, dI)) (wf := (dk_w hd hc a2 (gI + 4))) (u0 := d) (wr := [(h0, .inr (0, [.int (nI gW), .int (nI gC), .int (nI gV), .int (nI gB), .ref hs, .int (nI gM), .int (nI gI), .ref hd])), (hs, .inl (a1, gW, .inl st))]) (va_runVN (As := [.int n]) (rest := []) ⟨hx, hb, hml, hown, hts⟩ (k_X1_armLoss l dC dI hd hc a2 (gI + 4) (by omega) s.heap.size d n) ⟨va_cnB 1 hts gX0_93 rfl rfl rfl (hN _ nn_93) (hts _ tb_3) (by decide +kernel) ⟨Nat.le_of_ble_eq_true rfl, Nat.le_of_ble_eq_true rfl⟩, hts _ tb_221, hts _ ts_24⟩ (xp_v nwL_ok (hK.sub (tys' := [(a2, .int)]) [1] rfl) hN hP hD [2, 3] rfl rfl (va_recv hK hP (ci := 1) (q0 := 2) rfl rfl)) rfl rfl hl.1 rfl (lv_room (Nat.le_of_ble_eq_true rfl)) dX0_crashAfter_5 ⟨Nat.zero_le _, Nat.zero_le _⟩) hP hD hS hA [2, 3] [0, 1] rfl rfl (by decide) (by decide) (fun u_2 H locs hw hP hD hS => ?_)
  obtain ⟨d_3, ed_3⟩ : ∃ z, z = dk_arm d n := ⟨_, rfl⟩
  rw [hw, ← ed_3] at hP hD
  have hP : va_P (dC, dI) vwCl [(h0, .inr (0, [.int (nI gW), .int (nI gC), .int (nI gV), .int (nI gB), .ref hs, .int (nI gM), .int (nI gI), .ref hd])), (hs, .inl (a1, gW, .inl st)), (hd, .inr (1, [.ref hc, .int d_3.2.1, .int d_3.2.2.1, .int d_3.2.2.2.1, .int d_3.2.2.2.2])), (hc, .inl (a2, (gI + 4), .inl d_3.1))] H := hP
  have hD : va_D A [(h0, .inr (0, [.int (nI gW), .int (nI gC), .int (nI gV), .int (nI gB), .ref hs, .int (nI gM), .int (nI gI), .ref hd])), (hs, .inl (a1, gW, .inl st)), (hd, .inr (1, [.ref hc, .int d_3.2.1, .int d_3.2.2.1, .int d_3.2.2.2.1, .int d_3.2.2.2.2])), (hc, .inl (a2, (gI + 4), .inl d_3.1))] := hD
  exact W.vret hx hb hr (fun t ht hW => ⟨⟨(st, d_3), rfl, by rw [ed_3], by rw [ht]; exact hP, hD⟩, hS.F ht⟩) hS.2.2 dX0_crashAfter_8
set_option maxHeartbeats 4000000 in
set_option maxRecDepth 100000 in
theorem k_X0_down (l : Launch) (dC : Nat → ClassId) (dI : Nat → Nat → Nat) (h0 hs hd hc : Nat) (a1 a2 : ClassId) (gW gC gV gB gM gI : Nat) (hg : geo gW gC gV gB gM gI) (sz : Nat) (st : Nat → Int32) (d : DS) (hz : d.2.2.2.2 = 0 ∨ d.2.2.2.2 = 1) : ctI nwL l yX0_down wsX0_down ({ frames := 1, cells := 0, slots := 0, locals := 20 } : Room) (dC, dI) [(a1, .int), (a2, .int)] (xo_w h0 hs hd hc a1 a2 gW gC gV gB gM gI) (st, d) sz [.ref h0] (fun (r : Int32) (u : XS) => r = d.2.2.2.2 ∧ u = (st, d)) := by
  refine Met.ofW (cc := cX0_down) (maxL := 1) (ret := (some .boolean)) (by decide) rfl ?_
  intro p e s m args below meth c s₁ B hml hv
  obtain ⟨rfl, hsz, hP, hK, hD0, hN⟩ := hv
  have hx := B.exec
  have hb := B.bytes
  have hr := B.returns
  have hts := fun w h => atoms_spec (ws := wsX0_down) B.pre w (List.mem_cons_of_mem _ h)
  have hown : s.vm.findClass RX0 = some m.cls := findClass_of_methodNamed B.named
  have hlocks := B.notSynchronized
  subst hsz
  have hD := hD0.self (sz := s.heap.size)
  generalize hAe : va_A ((xo_w h0 hs hd hc a1 a2 gW gC gV gB gM gI) (st, d)) s.heap.size = A at hD ⊢
  have hA : ∀ q : Nat, s.heap.size ≤ q → A q := fun q h => by rw [← hAe]; exact Or.inr h
  have hS : va_S A s.heap s.heap [] := va_S.rf
  have hl := lv_entry ([.ref h0]) (n := 1) (Nat.le_of_ble_eq_true rfl)
  rw [lg_entry_eq]
  generalize (lg_sl ([.ref h0]) ++ List.replicate (1 - (lg_sl ([.ref h0])).length) Slot.unset).toArray = ls at hl ⊢
  have hP : va_P (dC, dI) vwCl [(h0, .inr (0, [.int (nI gW), .int (nI gC), .int (nI gV), .int (nI gB), .ref hs, .int (nI gM), .int (nI gI), .ref hd])), (hs, .inl (a1, gW, .inl st)), (hd, .inr (1, [.ref hc, .int d.2.1, .int d.2.2.1, .int d.2.2.2.1, .int d.2.2.2.2])), (hc, .inl (a2, (gI + 4), .inl d.1))] s.heap := hP
  have hD : va_D A [(h0, .inr (0, [.int (nI gW), .int (nI gC), .int (nI gV), .int (nI gB), .ref hs, .int (nI gM), .int (nI gI), .ref hd])), (hs, .inl (a1, gW, .inl st)), (hd, .inr (1, [.ref hc, .int d.2.1, .int d.2.2.1, .int d.2.2.2.1, .int d.2.2.2.2])), (hc, .inl (a2, (gI + 4), .inl d.1))] := hD
  have hl : lv_has ls 1 [(0, .ref h0)] := hl
  obtain ⟨⟨hW1, hW2⟩, ⟨hC1, hC2⟩, ⟨hV1, hV2⟩, ⟨hB1, hB2⟩, eM, eI⟩ := id hg
  obtain ⟨hM2, hq2⟩ := geo_b hg
  refine lv_aload_n hx hb dX0_down_0 rfl (lv_at hl 0 rfl) ?_
  refine va_get (D := (dC, dI)) (ci := 0) (v := .ref hd) (C := RX0) (T := TX0) (N := 8) hx hb hts inX0 hown hK hP 0 rfl rfl 7 (by decide) (hts _ tb_53) (fun _ h9 => h9) rfl dX0_down_1 ?_
  refine xr_i (D := (dC, dI)) (wf := (dk_w hd hc a2 (gI + 4))) (u0 := d) (wr := [(h0, .inr (0, [.int (nI gW), .int (nI gC), .int (nI gV), .int (nI gB), .ref hs, .int (nI gM), .int (nI gI), .ref hd])), (hs, .inl (a1, gW, .inl st))]) (va_runVN (As := []) (rest := []) ⟨hx, hb, hml, hown, hts⟩ (k_X1_isDown l dC dI hd hc a2 (gI + 4) (by omega) s.heap.size d hz) ⟨va_cnB 0 hts gX0_51 rfl rfl rfl (hN _ nn_51) (hts _ tb_3) (by decide +kernel) ⟨Nat.le_of_ble_eq_true rfl, Nat.le_of_ble_eq_true rfl⟩, hts _ tb_93, hts _ ts_2⟩ (xp_v nwL_ok (hK.sub (tys' := [(a2, .int)]) [1] rfl) hN hP hD [2, 3] rfl rfl (va_recv hK hP (ci := 1) (q0 := 2) rfl rfl)) rfl rfl hl.1 rfl (lv_room (Nat.le_of_ble_eq_true rfl)) dX0_down_4 ⟨Nat.zero_le _, Nat.zero_le _⟩) hP hD hS hA [2, 3] [0, 1] rfl rfl (by decide) (by decide) (fun r_1 u_2 H locs hw hP hD hS => ?_)
  obtain ⟨er_1, eu_2⟩ := hw
  rw [eu_2] at hP hD
  rw [er_1]
  have hP : va_P (dC, dI) vwCl [(h0, .inr (0, [.int (nI gW), .int (nI gC), .int (nI gV), .int (nI gB), .ref hs, .int (nI gM), .int (nI gI), .ref hd])), (hs, .inl (a1, gW, .inl st)), (hd, .inr (1, [.ref hc, .int d.2.1, .int d.2.2.1, .int d.2.2.2.1, .int d.2.2.2.2])), (hc, .inl (a2, (gI + 4), .inl d.1))] H := hP
  have hD : va_D A [(h0, .inr (0, [.int (nI gW), .int (nI gC), .int (nI gV), .int (nI gB), .ref hs, .int (nI gM), .int (nI gI), .ref hd])), (hs, .inl (a1, gW, .inl st)), (hd, .inr (1, [.ref hc, .int d.2.1, .int d.2.2.1, .int d.2.2.2.1, .int d.2.2.2.2])), (hc, .inl (a2, (gI + 4), .inl d.1))] := hD
  exact W.zret (v := d.2.2.2.2) hx hb hr (nar_z hz) (fun t ht hW => ⟨⟨d.2.2.2.2, (st, d), rfl, ⟨rfl, rfl⟩, by rw [ht]; exact hP, hD⟩, hS.F ht⟩) hS.2.2 dX0_down_7
set_option maxHeartbeats 4000000 in
set_option maxRecDepth 100000 in
theorem k_X0_writes (l : Launch) (dC : Nat → ClassId) (dI : Nat → Nat → Nat) (h0 hs hd hc : Nat) (a1 a2 : ClassId) (gW gC gV gB gM gI : Nat) (hg : geo gW gC gV gB gM gI) (sz : Nat) (st : Nat → Int32) (d : DS)  : ctI nwL l yX0_writes wsX0_writes ({ frames := 1, cells := 0, slots := 0, locals := 20 } : Room) (dC, dI) [(a1, .int), (a2, .int)] (xo_w h0 hs hd hc a1 a2 gW gC gV gB gM gI) (st, d) sz [.ref h0] (fun (r : Int32) (u : XS) => r = d.2.1 ∧ u = (st, d)) := by
  refine Met.ofW (cc := cX0_writes) (maxL := 1) (ret := (some .int)) (by decide) rfl ?_
  intro p e s m args below meth c s₁ B hml hv
  obtain ⟨rfl, hsz, hP, hK, hD0, hN⟩ := hv
  have hx := B.exec
  have hb := B.bytes
  have hr := B.returns
  have hts := fun w h => atoms_spec (ws := wsX0_writes) B.pre w (List.mem_cons_of_mem _ h)
  have hown : s.vm.findClass RX0 = some m.cls := findClass_of_methodNamed B.named
  have hlocks := B.notSynchronized
  subst hsz
  have hD := hD0.self (sz := s.heap.size)
  generalize hAe : va_A ((xo_w h0 hs hd hc a1 a2 gW gC gV gB gM gI) (st, d)) s.heap.size = A at hD ⊢
  have hA : ∀ q : Nat, s.heap.size ≤ q → A q := fun q h => by rw [← hAe]; exact Or.inr h
  have hS : va_S A s.heap s.heap [] := va_S.rf
  have hl := lv_entry ([.ref h0]) (n := 1) (Nat.le_of_ble_eq_true rfl)
  rw [lg_entry_eq]
  generalize (lg_sl ([.ref h0]) ++ List.replicate (1 - (lg_sl ([.ref h0])).length) Slot.unset).toArray = ls at hl ⊢
  have hP : va_P (dC, dI) vwCl [(h0, .inr (0, [.int (nI gW), .int (nI gC), .int (nI gV), .int (nI gB), .ref hs, .int (nI gM), .int (nI gI), .ref hd])), (hs, .inl (a1, gW, .inl st)), (hd, .inr (1, [.ref hc, .int d.2.1, .int d.2.2.1, .int d.2.2.2.1, .int d.2.2.2.2])), (hc, .inl (a2, (gI + 4), .inl d.1))] s.heap := hP
  have hD : va_D A [(h0, .inr (0, [.int (nI gW), .int (nI gC), .int (nI gV), .int (nI gB), .ref hs, .int (nI gM), .int (nI gI), .ref hd])), (hs, .inl (a1, gW, .inl st)), (hd, .inr (1, [.ref hc, .int d.2.1, .int d.2.2.1, .int d.2.2.2.1, .int d.2.2.2.2])), (hc, .inl (a2, (gI + 4), .inl d.1))] := hD
  have hl : lv_has ls 1 [(0, .ref h0)] := hl
  obtain ⟨⟨hW1, hW2⟩, ⟨hC1, hC2⟩, ⟨hV1, hV2⟩, ⟨hB1, hB2⟩, eM, eI⟩ := id hg
  obtain ⟨hM2, hq2⟩ := geo_b hg
  refine lv_aload_n hx hb dX0_writes_0 rfl (lv_at hl 0 rfl) ?_
  refine va_get (D := (dC, dI)) (ci := 0) (v := .ref hd) (C := RX0) (T := TX0) (N := 8) hx hb hts inX0 hown hK hP 0 rfl rfl 7 (by decide) (hts _ tb_53) (fun _ h9 => h9) rfl dX0_writes_1 ?_
  refine xr_i (D := (dC, dI)) (wf := (dk_w hd hc a2 (gI + 4))) (u0 := d) (wr := [(h0, .inr (0, [.int (nI gW), .int (nI gC), .int (nI gV), .int (nI gB), .ref hs, .int (nI gM), .int (nI gI), .ref hd])), (hs, .inl (a1, gW, .inl st))]) (va_runVN (As := []) (rest := []) ⟨hx, hb, hml, hown, hts⟩ (k_X1_writesDone l dC dI hd hc a2 (gI + 4) (by omega) s.heap.size d ) ⟨va_cnB 0 hts gX0_102 rfl rfl rfl (hN _ nn_102) (hts _ tb_3) (by decide +kernel) ⟨Nat.le_of_ble_eq_true rfl, Nat.le_of_ble_eq_true rfl⟩, hts _ tb_241, hts _ ts_26⟩ (xp_v nwL_ok (hK.sub (tys' := [(a2, .int)]) [1] rfl) hN hP hD [2, 3] rfl rfl (va_recv hK hP (ci := 1) (q0 := 2) rfl rfl)) rfl rfl hl.1 rfl (lv_room (Nat.le_of_ble_eq_true rfl)) dX0_writes_4 ⟨Nat.zero_le _, Nat.zero_le _⟩) hP hD hS hA [2, 3] [0, 1] rfl rfl (by decide) (by decide) (fun r_1 u_2 H locs hw hP hD hS => ?_)
  obtain ⟨er_1, eu_2⟩ := hw
  rw [eu_2] at hP hD
  rw [er_1]
  have hP : va_P (dC, dI) vwCl [(h0, .inr (0, [.int (nI gW), .int (nI gC), .int (nI gV), .int (nI gB), .ref hs, .int (nI gM), .int (nI gI), .ref hd])), (hs, .inl (a1, gW, .inl st)), (hd, .inr (1, [.ref hc, .int d.2.1, .int d.2.2.1, .int d.2.2.2.1, .int d.2.2.2.2])), (hc, .inl (a2, (gI + 4), .inl d.1))] H := hP
  have hD : va_D A [(h0, .inr (0, [.int (nI gW), .int (nI gC), .int (nI gV), .int (nI gB), .ref hs, .int (nI gM), .int (nI gI), .ref hd])), (hs, .inl (a1, gW, .inl st)), (hd, .inr (1, [.ref hc, .int d.2.1, .int d.2.2.1, .int d.2.2.2.1, .int d.2.2.2.2])), (hc, .inl (a2, (gI + 4), .inl d.1))] := hD
  exact W.iret (v := d.2.1) hx hb hr (fun t ht hW => ⟨⟨d.2.1, (st, d), rfl, ⟨rfl, rfl⟩, by rw [ht]; exact hP, hD⟩, hS.F ht⟩) hS.2.2 dX0_writes_7
set_option maxHeartbeats 4000000 in
set_option maxRecDepth 100000 in
theorem k_X0_recover (l : Launch) (dC : Nat → ClassId) (dI : Nat → Nat → Nat) (h0 hs hd hc : Nat) (a1 a2 : ClassId) (gW gC gV gB gM gI : Nat) (hg : geo gW gC gV gB gM gI) (sz : Nat) (st : Nat → Int32) (d : DS) (hz : d.2.2.2.2 = 0 ∨ d.2.2.2.2 = 1) (hok : okI d gV gB gI) : ctI nwL l yX0_recover wsX0_recover ({ frames := 4, cells := 0, slots := 0, locals := 91 } : Room) (dC, dI) [(a1, .int), (a2, .int)] (xo_w h0 hs hd hc a1 a2 gW gC gV gB gM gI) (st, d) sz [.ref h0] (fun (r : Int32) (u : XS) => r = (x_rec st d gW gC gV gB gM gI ).1 ∧ u = (x_rec st d gW gC gV gB gM gI ).2) := by
  refine Met.ofW (cc := cX0_recover) (maxL := 1) (ret := (some .int)) (by decide) rfl ?_
  intro p e s m args below meth c s₁ B hml hv
  obtain ⟨rfl, hsz, hP, hK, hD0, hN⟩ := hv
  have hx := B.exec
  have hb := B.bytes
  have hr := B.returns
  have hts := fun w h => atoms_spec (ws := wsX0_recover) B.pre w (List.mem_cons_of_mem _ h)
  have hown : s.vm.findClass RX0 = some m.cls := findClass_of_methodNamed B.named
  have hlocks := B.notSynchronized
  subst hsz
  have hD := hD0.self (sz := s.heap.size)
  generalize hAe : va_A ((xo_w h0 hs hd hc a1 a2 gW gC gV gB gM gI) (st, d)) s.heap.size = A at hD ⊢
  have hA : ∀ q : Nat, s.heap.size ≤ q → A q := fun q h => by rw [← hAe]; exact Or.inr h
  have hS : va_S A s.heap s.heap [] := va_S.rf
  have hl := lv_entry ([.ref h0]) (n := 1) (Nat.le_of_ble_eq_true rfl)
  rw [lg_entry_eq]
  generalize (lg_sl ([.ref h0]) ++ List.replicate (1 - (lg_sl ([.ref h0])).length) Slot.unset).toArray = ls at hl ⊢
  have hP : va_P (dC, dI) vwCl [(h0, .inr (0, [.int (nI gW), .int (nI gC), .int (nI gV), .int (nI gB), .ref hs, .int (nI gM), .int (nI gI), .ref hd])), (hs, .inl (a1, gW, .inl st)), (hd, .inr (1, [.ref hc, .int d.2.1, .int d.2.2.1, .int d.2.2.2.1, .int d.2.2.2.2])), (hc, .inl (a2, (gI + 4), .inl d.1))] s.heap := hP
  have hD : va_D A [(h0, .inr (0, [.int (nI gW), .int (nI gC), .int (nI gV), .int (nI gB), .ref hs, .int (nI gM), .int (nI gI), .ref hd])), (hs, .inl (a1, gW, .inl st)), (hd, .inr (1, [.ref hc, .int d.2.1, .int d.2.2.1, .int d.2.2.2.1, .int d.2.2.2.2])), (hc, .inl (a2, (gI + 4), .inl d.1))] := hD
  have hl : lv_has ls 1 [(0, .ref h0)] := hl
  obtain ⟨⟨hW1, hW2⟩, ⟨hC1, hC2⟩, ⟨hV1, hV2⟩, ⟨hB1, hB2⟩, eM, eI⟩ := id hg
  obtain ⟨hM2, hq2⟩ := geo_b hg
  refine lv_aload_n hx hb dX0_recover_0 rfl (lv_at hl 0 rfl) ?_
  refine va_get (D := (dC, dI)) (ci := 0) (v := .ref hd) (C := RX0) (T := TX0) (N := 8) hx hb hts inX0 hown hK hP 0 rfl rfl 7 (by decide) (hts _ tb_53) (fun _ h9 => h9) rfl dX0_recover_1 ?_
  refine xr_i (D := (dC, dI)) (wf := (dk_w hd hc a2 (gI + 4))) (u0 := d) (wr := [(h0, .inr (0, [.int (nI gW), .int (nI gC), .int (nI gV), .int (nI gB), .ref hs, .int (nI gM), .int (nI gI), .ref hd])), (hs, .inl (a1, gW, .inl st))]) (va_runVN (As := []) (rest := []) ⟨hx, hb, hml, hown, hts⟩ (k_X1_isDown l dC dI hd hc a2 (gI + 4) (by omega) s.heap.size d hz) ⟨va_cnB 0 hts gX0_51 rfl rfl rfl (hN _ nn_51) (hts _ tb_3) (by decide +kernel) ⟨Nat.le_of_ble_eq_true rfl, Nat.le_of_ble_eq_true rfl⟩, hts _ tb_93, hts _ ts_2⟩ (xp_v nwL_ok (hK.sub (tys' := [(a2, .int)]) [1] rfl) hN hP hD [2, 3] rfl rfl (va_recv hK hP (ci := 1) (q0 := 2) rfl rfl)) rfl rfl hl.1 rfl (lv_room (Nat.le_of_ble_eq_true rfl)) dX0_recover_4 ⟨Nat.zero_le _, Nat.zero_le _⟩) hP hD hS hA [2, 3] [0, 1] rfl rfl (by decide) (by decide) (fun r_1 u_2 H locs hw hP hD hS => ?_)
  obtain ⟨er_1, eu_2⟩ := hw
  rw [eu_2] at hP hD
  rw [er_1]
  have hP : va_P (dC, dI) vwCl [(h0, .inr (0, [.int (nI gW), .int (nI gC), .int (nI gV), .int (nI gB), .ref hs, .int (nI gM), .int (nI gI), .ref hd])), (hs, .inl (a1, gW, .inl st)), (hd, .inr (1, [.ref hc, .int d.2.1, .int d.2.2.1, .int d.2.2.2.1, .int d.2.2.2.2])), (hc, .inl (a2, (gI + 4), .inl d.1))] H := hP
  have hD : va_D A [(h0, .inr (0, [.int (nI gW), .int (nI gC), .int (nI gV), .int (nI gB), .ref hs, .int (nI gM), .int (nI gI), .ref hd])), (hs, .inl (a1, gW, .inl st)), (hd, .inr (1, [.ref hc, .int d.2.1, .int d.2.2.1, .int d.2.2.2.1, .int d.2.2.2.2])), (hc, .inl (a2, (gI + 4), .inl d.1))] := hD
  refine lv_if_eq (tgt := 25) hx hb dX0_recover_7 (by decide) (fun c_3 => ?_) (fun c_3 => ?_)
  · refine lv_iconst (v := 0) hx hb dX0_recover_25 (by decide) ?_
    exact W.iret (v := 0) hx hb hr (fun t ht hW => ⟨⟨0, (st, d), rfl, ⟨by unfold x_rec; rw [if_pos c_3], by unfold x_rec; rw [if_pos c_3]⟩, by rw [ht]; exact hP, hD⟩, hS.F ht⟩) hS.2.2 dX0_recover_26
  · refine lv_aload_n hx hb dX0_recover_10 rfl (lv_at hl 0 rfl) ?_
    refine va_get (D := (dC, dI)) (ci := 0) (v := .ref hd) (C := RX0) (T := TX0) (N := 8) hx hb hts inX0 hown hK hP 0 rfl rfl 7 (by decide) (hts _ tb_53) (fun _ h9 => h9) rfl dX0_recover_11 ?_
    refine xr_v (D := (dC, dI)) (wf := (dk_w hd hc a2 (gI + 4))) (u0 := d) (wr := [(h0, .inr (0, [.int (nI gW), .int (nI gC), .int (nI gV), .int (nI gB), .ref hs, .int (nI gM), .int (nI gI), .ref hd])), (hs, .inl (a1, gW, .inl st))]) (va_runVN (As := []) (rest := []) ⟨hx, hb, hml, hown, hts⟩ (k_X1_restorePower l dC dI hd hc a2 (gI + 4) (by omega) H.size d ) ⟨va_cnB 0 hts gX0_96 rfl rfl rfl (hN _ nn_96) (hts _ tb_3) (by decide +kernel) ⟨Nat.le_of_ble_eq_true rfl, Nat.le_of_ble_eq_true rfl⟩, hts _ tb_233, hts _ ts_25⟩ (xp_v nwL_ok (hK.sub (tys' := [(a2, .int)]) [1] rfl) hN hP hD [2, 3] rfl rfl (va_recv hK hP (ci := 1) (q0 := 2) rfl rfl)) rfl rfl hl.1 rfl (lv_room (Nat.le_of_ble_eq_true rfl)) dX0_recover_14 ⟨Nat.zero_le _, Nat.zero_le _⟩) hP hD hS hA [2, 3] [0, 1] rfl rfl (by decide) (by decide) (fun u_5 H locs hw hP hD hS => ?_)
    obtain ⟨d_6, ed_6⟩ : ∃ z, z = ((d.1, d.2.1, d.2.2.1, d.2.2.2.1, 0) : DS) := ⟨_, rfl⟩
    rw [hw, ← ed_6] at hP hD
    have hP : va_P (dC, dI) vwCl [(h0, .inr (0, [.int (nI gW), .int (nI gC), .int (nI gV), .int (nI gB), .ref hs, .int (nI gM), .int (nI gI), .ref hd])), (hs, .inl (a1, gW, .inl st)), (hd, .inr (1, [.ref hc, .int d_6.2.1, .int d_6.2.2.1, .int d_6.2.2.2.1, .int d_6.2.2.2.2])), (hc, .inl (a2, (gI + 4), .inl d_6.1))] H := hP
    have hD : va_D A [(h0, .inr (0, [.int (nI gW), .int (nI gC), .int (nI gV), .int (nI gB), .ref hs, .int (nI gM), .int (nI gI), .ref hd])), (hs, .inl (a1, gW, .inl st)), (hd, .inr (1, [.ref hc, .int d_6.2.1, .int d_6.2.2.1, .int d_6.2.2.2.1, .int d_6.2.2.2.2])), (hc, .inl (a2, (gI + 4), .inl d_6.1))] := hD
    refine lv_aload_n hx hb dX0_recover_17 rfl (lv_at hl 0 rfl) ?_
    refine xr_v (D := (dC, dI)) (wf := (xo_w h0 hs hd hc a1 a2 gW gC gV gB gM gI)) (u0 := (st, d_6)) (wr := []) (va_runV (As := []) (rest := []) ⟨hx, hb, hml, hown, hts⟩ (k_X0_clearStaged l dC dI h0 hs hd hc a1 a2 gW gC gV gB gM gI hg H.size st d_6 ) (cwV 0 hts gX0_48 rfl rfl rfl (by decide +kernel) ⟨Nat.le_of_ble_eq_true rfl, Nat.le_of_ble_eq_true rfl⟩) (xp_v nwL_ok hK hN hP hD [0, 1, 2, 3] rfl rfl (va_recv hK hP (ci := 0) (q0 := 0) rfl rfl)) rfl rfl hl.1 rfl (lv_room (Nat.le_of_ble_eq_true rfl)) dX0_recover_18 ⟨Nat.zero_le _, Nat.zero_le _⟩) hP hD hS hA [0, 1, 2, 3] [] rfl rfl (by decide) (by decide) (fun u_8 H locs hw hP hD hS => ?_)
    obtain ⟨s_9, es_9⟩ : ∃ z, z = fillN st gW 0 := ⟨_, rfl⟩
    rw [hw, ← es_9] at hP hD
    have hP : va_P (dC, dI) vwCl [(h0, .inr (0, [.int (nI gW), .int (nI gC), .int (nI gV), .int (nI gB), .ref hs, .int (nI gM), .int (nI gI), .ref hd])), (hs, .inl (a1, gW, .inl s_9)), (hd, .inr (1, [.ref hc, .int d_6.2.1, .int d_6.2.2.1, .int d_6.2.2.2.1, .int d_6.2.2.2.2])), (hc, .inl (a2, (gI + 4), .inl d_6.1))] H := hP
    have hD : va_D A [(h0, .inr (0, [.int (nI gW), .int (nI gC), .int (nI gV), .int (nI gB), .ref hs, .int (nI gM), .int (nI gI), .ref hd])), (hs, .inl (a1, gW, .inl s_9)), (hd, .inr (1, [.ref hc, .int d_6.2.1, .int d_6.2.2.1, .int d_6.2.2.2.1, .int d_6.2.2.2.2])), (hc, .inl (a2, (gI + 4), .inl d_6.1))] := hD
    refine lv_aload_n hx hb dX0_recover_21 rfl (lv_at hl 0 rfl) ?_
    have hok9 : okI d_6 gV gB gI := by rw [ed_6]; exact hok
    refine xr_v (D := (dC, dI)) (wf := (xo_w h0 hs hd hc a1 a2 gW gC gV gB gM gI)) (u0 := (s_9, d_6)) (wr := []) (va_runV (As := []) (rest := []) ⟨hx, hb, hml, hown, hts⟩ (k_X0_carryOutIntent l dC dI h0 hs hd hc a1 a2 gW gC gV gB gM gI hg H.size s_9 d_6 hok9) (cwV 0 hts gX0_99 rfl rfl rfl (by decide +kernel) ⟨Nat.le_of_ble_eq_true rfl, Nat.le_of_ble_eq_true rfl⟩) (xp_v nwL_ok hK hN hP hD [0, 1, 2, 3] rfl rfl (va_recv hK hP (ci := 0) (q0 := 0) rfl rfl)) rfl rfl hl.1 rfl (lv_room (Nat.le_of_ble_eq_true rfl)) dX0_recover_22 ⟨Nat.zero_le _, Nat.zero_le _⟩) hP hD hS hA [0, 1, 2, 3] [] rfl rfl (by decide) (by decide) (fun u_11 H locs hw hP hD hS => ?_)
    obtain ⟨d_12, ed_12⟩ : ∃ z, z = carry d_6 gM gB gI := ⟨_, rfl⟩
    rw [hw, ← ed_12] at hP hD
    have hP : va_P (dC, dI) vwCl [(h0, .inr (0, [.int (nI gW), .int (nI gC), .int (nI gV), .int (nI gB), .ref hs, .int (nI gM), .int (nI gI), .ref hd])), (hs, .inl (a1, gW, .inl s_9)), (hd, .inr (1, [.ref hc, .int d_12.2.1, .int d_12.2.2.1, .int d_12.2.2.2.1, .int d_12.2.2.2.2])), (hc, .inl (a2, (gI + 4), .inl d_12.1))] H := hP
    have hD : va_D A [(h0, .inr (0, [.int (nI gW), .int (nI gC), .int (nI gV), .int (nI gB), .ref hs, .int (nI gM), .int (nI gI), .ref hd])), (hs, .inl (a1, gW, .inl s_9)), (hd, .inr (1, [.ref hc, .int d_12.2.1, .int d_12.2.2.1, .int d_12.2.2.2.1, .int d_12.2.2.2.2])), (hc, .inl (a2, (gI + 4), .inl d_12.1))] := hD
    refine lv_iconst (v := 0) hx hb dX0_recover_25 (by decide) ?_
    exact W.iret (v := 0) hx hb hr (fun t ht hW => ⟨⟨0, (s_9, d_12), rfl, ⟨by unfold x_rec; rw [if_neg c_3], by unfold x_rec; rw [ed_12, ed_6, es_9, if_neg c_3]⟩, by rw [ht]; exact hP, hD⟩, hS.F ht⟩) hS.2.2 dX0_recover_26
set_option maxHeartbeats 4000000 in
set_option maxRecDepth 100000 in
theorem k_X0_writeBlock (l : Launch) (dC : Nat → ClassId) (dI : Nat → Nat → Nat) (h0 hs hd hc : Nat) (a1 a2 : ClassId) (gW gC gV gB gM gI : Nat) (hg : geo gW gC gV gB gM gI) (sz : Nat) (st : Nat → Int32) (d : DS) (hz : d.2.2.2.2 = 0 ∨ d.2.2.2.2 = 1) (hk0 : d.2.2.2.2 = 0 → d.1 (gI + 3) = 0) (vol lb : Int32) : ctI nwL l yX0_writeBlock wsX0_writeBlock ({ frames := 6, cells := 0, slots := 0, locals := 139 } : Room) (dC, dI) [(a1, .int), (a2, .int)] (xo_w h0 hs hd hc a1 a2 gW gC gV gB gM gI) (st, d) sz [.ref h0, .int vol, .int lb] (fun (r : Int32) (u : XS) => x_wb st d gW gC gV gB gM gI vol lb r u) := by
  refine Met.ofW (cc := cX0_writeBlock) (maxL := 4) (ret := (some .int)) (by decide) rfl ?_
  intro p e s m args below meth c s₁ B hml hv
  obtain ⟨rfl, hsz, hP, hK, hD0, hN⟩ := hv
  have hx := B.exec
  have hb := B.bytes
  have hr := B.returns
  have hts := fun w h => atoms_spec (ws := wsX0_writeBlock) B.pre w (List.mem_cons_of_mem _ h)
  have hown : s.vm.findClass RX0 = some m.cls := findClass_of_methodNamed B.named
  have hlocks := B.notSynchronized
  subst hsz
  have hD := hD0.self (sz := s.heap.size)
  generalize hAe : va_A ((xo_w h0 hs hd hc a1 a2 gW gC gV gB gM gI) (st, d)) s.heap.size = A at hD ⊢
  have hA : ∀ q : Nat, s.heap.size ≤ q → A q := fun q h => by rw [← hAe]; exact Or.inr h
  have hS : va_S A s.heap s.heap [] := va_S.rf
  have hl := lv_entry ([.ref h0, .int vol, .int lb]) (n := 4) (Nat.le_of_ble_eq_true rfl)
  rw [lg_entry_eq]
  generalize (lg_sl ([.ref h0, .int vol, .int lb]) ++ List.replicate (4 - (lg_sl ([.ref h0, .int vol, .int lb])).length) Slot.unset).toArray = ls at hl ⊢
  have hP : va_P (dC, dI) vwCl [(h0, .inr (0, [.int (nI gW), .int (nI gC), .int (nI gV), .int (nI gB), .ref hs, .int (nI gM), .int (nI gI), .ref hd])), (hs, .inl (a1, gW, .inl st)), (hd, .inr (1, [.ref hc, .int d.2.1, .int d.2.2.1, .int d.2.2.2.1, .int d.2.2.2.2])), (hc, .inl (a2, (gI + 4), .inl d.1))] s.heap := hP
  have hD : va_D A [(h0, .inr (0, [.int (nI gW), .int (nI gC), .int (nI gV), .int (nI gB), .ref hs, .int (nI gM), .int (nI gI), .ref hd])), (hs, .inl (a1, gW, .inl st)), (hd, .inr (1, [.ref hc, .int d.2.1, .int d.2.2.1, .int d.2.2.2.1, .int d.2.2.2.2])), (hc, .inl (a2, (gI + 4), .inl d.1))] := hD
  have hl : lv_has ls 4 [(0, .ref h0), (1, .int vol), (2, .int lb)] := hl
  obtain ⟨⟨hW1, hW2⟩, ⟨hC1, hC2⟩, ⟨hV1, hV2⟩, ⟨hB1, hB2⟩, eM, eI⟩ := id hg
  obtain ⟨hM2, hq2⟩ := geo_b hg
  refine lv_aload_n hx hb dX0_writeBlock_0 rfl (lv_at hl 0 rfl) ?_
  refine va_get (D := (dC, dI)) (ci := 0) (v := .ref hd) (C := RX0) (T := TX0) (N := 8) hx hb hts inX0 hown hK hP 0 rfl rfl 7 (by decide) (hts _ tb_53) (fun _ h9 => h9) rfl dX0_writeBlock_1 ?_
  refine xr_i (D := (dC, dI)) (wf := (dk_w hd hc a2 (gI + 4))) (u0 := d) (wr := [(h0, .inr (0, [.int (nI gW), .int (nI gC), .int (nI gV), .int (nI gB), .ref hs, .int (nI gM), .int (nI gI), .ref hd])), (hs, .inl (a1, gW, .inl st))]) (va_runVN (As := []) (rest := []) ⟨hx, hb, hml, hown, hts⟩ (k_X1_isDown l dC dI hd hc a2 (gI + 4) (by omega) s.heap.size d hz) ⟨va_cnB 0 hts gX0_51 rfl rfl rfl (hN _ nn_51) (hts _ tb_3) (by decide +kernel) ⟨Nat.le_of_ble_eq_true rfl, Nat.le_of_ble_eq_true rfl⟩, hts _ tb_93, hts _ ts_2⟩ (xp_v nwL_ok (hK.sub (tys' := [(a2, .int)]) [1] rfl) hN hP hD [2, 3] rfl rfl (va_recv hK hP (ci := 1) (q0 := 2) rfl rfl)) rfl rfl hl.1 rfl (lv_room (Nat.le_of_ble_eq_true rfl)) dX0_writeBlock_4 ⟨Nat.zero_le _, Nat.zero_le _⟩) hP hD hS hA [2, 3] [0, 1] rfl rfl (by decide) (by decide) (fun r_1 u_2 H locs hw hP hD hS => ?_)
  obtain ⟨er_1, eu_2⟩ := hw
  rw [eu_2] at hP hD
  rw [er_1]
  have hP : va_P (dC, dI) vwCl [(h0, .inr (0, [.int (nI gW), .int (nI gC), .int (nI gV), .int (nI gB), .ref hs, .int (nI gM), .int (nI gI), .ref hd])), (hs, .inl (a1, gW, .inl st)), (hd, .inr (1, [.ref hc, .int d.2.1, .int d.2.2.1, .int d.2.2.2.1, .int d.2.2.2.2])), (hc, .inl (a2, (gI + 4), .inl d.1))] H := hP
  have hD : va_D A [(h0, .inr (0, [.int (nI gW), .int (nI gC), .int (nI gV), .int (nI gB), .ref hs, .int (nI gM), .int (nI gI), .ref hd])), (hs, .inl (a1, gW, .inl st)), (hd, .inr (1, [.ref hc, .int d.2.1, .int d.2.2.1, .int d.2.2.2.1, .int d.2.2.2.2])), (hc, .inl (a2, (gI + 4), .inl d.1))] := hD
  refine lv_if_eq (tgt := 13) hx hb dX0_writeBlock_7 (by decide) (fun c_3 => ?_) (fun c_3 => ?_)
  · refine lv_aload_n hx hb dX0_writeBlock_13 rfl (lv_at hl 0 rfl) ?_
    refine lv_iload_n hx hb dX0_writeBlock_14 rfl (lv_at hl 1 rfl) ?_
    refine lv_iload_n hx hb dX0_writeBlock_15 rfl (lv_at hl 2 rfl) ?_
    refine xr_i (D := (dC, dI)) (wf := (xo_w h0 hs hd hc a1 a2 gW gC gV gB gM gI)) (u0 := (st, d)) (wr := []) (va_runV (As := [.int vol, .int lb]) (rest := []) ⟨hx, hb, hml, hown, hts⟩ (k_X0_isBlock l dC dI h0 hs hd hc a1 a2 gW gC gV gB gM gI hg H.size st d vol lb) (cwV 2 hts gX0_59 rfl rfl rfl (by decide +kernel) ⟨Nat.le_of_ble_eq_true rfl, Nat.le_of_ble_eq_true rfl⟩) (xp_v nwL_ok hK hN hP hD [0, 1, 2, 3] rfl rfl (va_recv hK hP (ci := 0) (q0 := 0) rfl rfl)) rfl rfl hl.1 rfl (lv_room (Nat.le_of_ble_eq_true rfl)) dX0_writeBlock_16 ⟨Nat.zero_le _, Nat.zero_le _⟩) hP hD hS hA [0, 1, 2, 3] [] rfl rfl (by decide) (by decide) (fun r_4 u_5 H locs hw hP hD hS => ?_)
    obtain ⟨er_4, eu_5⟩ := hw
    rw [eu_5] at hP hD
    rw [er_4]
    have hP : va_P (dC, dI) vwCl [(h0, .inr (0, [.int (nI gW), .int (nI gC), .int (nI gV), .int (nI gB), .ref hs, .int (nI gM), .int (nI gI), .ref hd])), (hs, .inl (a1, gW, .inl st)), (hd, .inr (1, [.ref hc, .int d.2.1, .int d.2.2.1, .int d.2.2.2.1, .int d.2.2.2.2])), (hc, .inl (a2, (gI + 4), .inl d.1))] H := hP
    have hD : va_D A [(h0, .inr (0, [.int (nI gW), .int (nI gC), .int (nI gV), .int (nI gB), .ref hs, .int (nI gM), .int (nI gI), .ref hd])), (hs, .inl (a1, gW, .inl st)), (hd, .inr (1, [.ref hc, .int d.2.1, .int d.2.2.1, .int d.2.2.2.1, .int d.2.2.2.2])), (hc, .inl (a2, (gI + 4), .inl d.1))] := hD
    refine lv_if_ne (tgt := 24) hx hb dX0_writeBlock_19 (by decide) (fun c_6 => ?_) (fun c_6 => ?_)
    · obtain ⟨v, b, hv, hb9, ev, eb⟩ := inB_nz (by omega) (by omega) c_6
      have hl : lv_has ls 4 [(0, .ref h0), (1, .int (nI v)), (2, .int lb)] := by have q9 := hl; rw [ev] at q9; exact q9
      have hl : lv_has ls 4 [(0, .ref h0), (1, .int (nI v)), (2, .int (nI b))] := by have q9 := hl; rw [eb] at q9; exact q9
      refine lv_aload_n hx hb dX0_writeBlock_24 rfl (lv_at hl 0 rfl) ?_
      refine xr_i (D := (dC, dI)) (wf := (xo_w h0 hs hd hc a1 a2 gW gC gV gB gM gI)) (u0 := (st, d)) (wr := []) (va_runV (As := []) (rest := []) ⟨hx, hb, hml, hown, hts⟩ (k_X0_usedSlotWithStaged l dC dI h0 hs hd hc a1 a2 gW gC gV gB gM gI hg H.size st d ) (cwV 0 hts gX0_63 rfl rfl rfl (by decide +kernel) ⟨Nat.le_of_ble_eq_true rfl, Nat.le_of_ble_eq_true rfl⟩) (xp_v nwL_ok hK hN hP hD [0, 1, 2, 3] rfl rfl (va_recv hK hP (ci := 0) (q0 := 0) rfl rfl)) rfl rfl hl.1 rfl (lv_room (Nat.le_of_ble_eq_true rfl)) dX0_writeBlock_25 ⟨Nat.zero_le _, Nat.zero_le _⟩) hP hD hS hA [0, 1, 2, 3] [] rfl rfl (by decide) (by decide) (fun r_7 u_8 H locs hw hP hD hS => ?_)
      obtain ⟨hw, eu_8⟩ := hw
      rw [eu_8] at hP hD
      have hP : va_P (dC, dI) vwCl [(h0, .inr (0, [.int (nI gW), .int (nI gC), .int (nI gV), .int (nI gB), .ref hs, .int (nI gM), .int (nI gI), .ref hd])), (hs, .inl (a1, gW, .inl st)), (hd, .inr (1, [.ref hc, .int d.2.1, .int d.2.2.1, .int d.2.2.2.1, .int d.2.2.2.2])), (hc, .inl (a2, (gI + 4), .inl d.1))] H := hP
      have hD : va_D A [(h0, .inr (0, [.int (nI gW), .int (nI gC), .int (nI gV), .int (nI gB), .ref hs, .int (nI gM), .int (nI gI), .ref hd])), (hs, .inl (a1, gW, .inl st)), (hd, .inr (1, [.ref hc, .int d.2.1, .int d.2.2.1, .int d.2.2.2.1, .int d.2.2.2.2])), (hc, .inl (a2, (gI + 4), .inl d.1))] := hD
      rcases hw with ⟨er9, hno⟩ | ⟨i, er9, hi, hsa, hus⟩
      · rw [er9]
        refine lv_istore_n (lv' := [(3, .int (-1)), (0, .ref h0), (1, .int (nI v)), (2, .int (nI b))]) hx hb dX0_writeBlock_28 rfl hl (by decide) rfl (fun ls hl => ?_)
        refine lv_iload_n hx hb dX0_writeBlock_29 rfl (lv_at hl 0 rfl) ?_
        refine lv_iconst (v := (-1)) hx hb dX0_writeBlock_30 (by decide) ?_
        refine lv_icmp_ne (tgt := 41) hx hb dX0_writeBlock_31 (by decide) (fun c_9 => ?_) (fun c_9 => ?_)
        · exact absurd c_9 (by decide)
        · refine lv_aload_n hx hb dX0_writeBlock_34 rfl (lv_at hl 1 rfl) ?_
          refine lv_iload_n hx hb dX0_writeBlock_35 rfl (lv_at hl 2 rfl) ?_
          refine lv_iload_n hx hb dX0_writeBlock_36 rfl (lv_at hl 3 rfl) ?_
          refine xr_i (D := (dC, dI)) (wf := (xo_w h0 hs hd hc a1 a2 gW gC gV gB gM gI)) (u0 := (st, d)) (wr := []) (va_runV (As := [.int (nI v), .int (nI b)]) (rest := []) ⟨hx, hb, hml, hown, hts⟩ (k_X0_writeNewContents l dC dI h0 hs hd hc a1 a2 gW gC gV gB gM gI hg H.size st d hz (hk0 c_3) v b hv hb9) (cwV 2 hts gX0_67 rfl rfl rfl (by decide +kernel) ⟨Nat.le_of_ble_eq_true rfl, Nat.le_of_ble_eq_true rfl⟩) (xp_v nwL_ok hK hN hP hD [0, 1, 2, 3] rfl rfl (va_recv hK hP (ci := 0) (q0 := 0) rfl rfl)) rfl rfl hl.1 rfl (lv_room (Nat.le_of_ble_eq_true rfl)) dX0_writeBlock_37 ⟨Nat.zero_le _, Nat.zero_le _⟩) hP hD hS hA [0, 1, 2, 3] [] rfl rfl (by decide) (by decide) (fun r_10 u_11 H locs hw hP hD hS => ?_)
          obtain ⟨s9, d9⟩ := u_11
          obtain ⟨es9, hw⟩ := x_wn_st hw
          rw [es9] at hP hD hw
          have hP : va_P (dC, dI) vwCl [(h0, .inr (0, [.int (nI gW), .int (nI gC), .int (nI gV), .int (nI gB), .ref hs, .int (nI gM), .int (nI gI), .ref hd])), (hs, .inl (a1, gW, .inl st)), (hd, .inr (1, [.ref hc, .int d9.2.1, .int d9.2.2.1, .int d9.2.2.2.1, .int d9.2.2.2.2])), (hc, .inl (a2, (gI + 4), .inl d9.1))] H := hP
          have hD : va_D A [(h0, .inr (0, [.int (nI gW), .int (nI gC), .int (nI gV), .int (nI gB), .ref hs, .int (nI gM), .int (nI gI), .ref hd])), (hs, .inl (a1, gW, .inl st)), (hd, .inr (1, [.ref hc, .int d9.2.1, .int d9.2.2.1, .int d9.2.2.2.1, .int d9.2.2.2.2])), (hc, .inl (a2, (gI + 4), .inl d9.1))] := hD
          exact W.iret (v := r_10) hx hb hr (fun t ht hW => ⟨⟨r_10, (st, d9), rfl, Or.inr (Or.inr ⟨c_3, c_6, v, b, hv, hb9, ev, eb, Or.inl ⟨hno, hw⟩⟩), by rw [ht]; exact hP, hD⟩, hS.F ht⟩) hS.2.2 dX0_writeBlock_40
      · rw [er9]
        refine lv_istore_n (lv' := [(3, .int (nI i)), (0, .ref h0), (1, .int (nI v)), (2, .int (nI b))]) hx hb dX0_writeBlock_28 rfl hl (by decide) rfl (fun ls hl => ?_)
        refine lv_iload_n hx hb dX0_writeBlock_29 rfl (lv_at hl 0 rfl) ?_
        refine lv_iconst (v := (-1)) hx hb dX0_writeBlock_30 (by decide) ?_
        refine lv_icmp_ne (tgt := 41) hx hb dX0_writeBlock_31 (by decide) (fun c_12 => ?_) (fun c_12 => ?_)
        · refine lv_iload_n hx hb dX0_writeBlock_41 rfl (lv_at hl 0 rfl) ?_
          refine lv_aload_n hx hb dX0_writeBlock_42 rfl (lv_at hl 1 rfl) ?_
          refine lv_iload_n hx hb dX0_writeBlock_43 rfl (lv_at hl 2 rfl) ?_
          refine lv_iload_n hx hb dX0_writeBlock_44 rfl (lv_at hl 3 rfl) ?_
          refine xr_i (D := (dC, dI)) (wf := (xo_w h0 hs hd hc a1 a2 gW gC gV gB gM gI)) (u0 := (st, d)) (wr := []) (va_runV (As := [.int (nI v), .int (nI b)]) (rest := [.int (nI i)]) ⟨hx, hb, hml, hown, hts⟩ (k_X0_mappedSlot l dC dI h0 hs hd hc a1 a2 gW gC gV gB gM gI hg H.size st d v b (by omega) (by omega)) (cwV 2 hts gX0_70 rfl rfl rfl (by decide +kernel) ⟨Nat.le_of_ble_eq_true rfl, Nat.le_of_ble_eq_true rfl⟩) (xp_v nwL_ok hK hN hP hD [0, 1, 2, 3] rfl rfl (va_recv hK hP (ci := 0) (q0 := 0) rfl rfl)) rfl rfl hl.1 rfl (lv_room (Nat.le_of_ble_eq_true rfl)) dX0_writeBlock_45 ⟨Nat.zero_le _, Nat.zero_le _⟩) hP hD hS hA [0, 1, 2, 3] [] rfl rfl (by decide) (by decide) (fun r_13 u_14 H locs hw hP hD hS => ?_)
          obtain ⟨er_13, eu_14⟩ := hw
          rw [eu_14] at hP hD
          rw [er_13]
          have hP : va_P (dC, dI) vwCl [(h0, .inr (0, [.int (nI gW), .int (nI gC), .int (nI gV), .int (nI gB), .ref hs, .int (nI gM), .int (nI gI), .ref hd])), (hs, .inl (a1, gW, .inl st)), (hd, .inr (1, [.ref hc, .int d.2.1, .int d.2.2.1, .int d.2.2.2.1, .int d.2.2.2.2])), (hc, .inl (a2, (gI + 4), .inl d.1))] H := hP
          have hD : va_D A [(h0, .inr (0, [.int (nI gW), .int (nI gC), .int (nI gV), .int (nI gB), .ref hs, .int (nI gM), .int (nI gI), .ref hd])), (hs, .inl (a1, gW, .inl st)), (hd, .inr (1, [.ref hc, .int d.2.1, .int d.2.2.1, .int d.2.2.2.1, .int d.2.2.2.2])), (hc, .inl (a2, (gI + 4), .inl d.1))] := hD
          refine lv_icmp_ne (tgt := 53) hx hb dX0_writeBlock_48 (by decide) (fun c_15 => ?_) (fun c_15 => ?_)
          · refine lv_aload_n hx hb dX0_writeBlock_53 rfl (lv_at hl 1 rfl) ?_
            refine lv_iconst (v := 1) hx hb dX0_writeBlock_54 (by decide) ?_
            refine lv_iload_n hx hb dX0_writeBlock_55 rfl (lv_at hl 2 rfl) ?_
            refine lv_iload_n hx hb dX0_writeBlock_56 rfl (lv_at hl 3 rfl) ?_
            refine lv_iload_n hx hb dX0_writeBlock_57 rfl (lv_at hl 0 rfl) ?_
            refine xr_i (D := (dC, dI)) (wf := (xo_w h0 hs hd hc a1 a2 gW gC gV gB gM gI)) (u0 := (st, d)) (wr := []) (va_runV (As := [.int 1, .int (nI v), .int (nI b), .int (nI i)]) (rest := []) ⟨hx, hb, hml, hown, hts⟩ (k_X0_change l dC dI h0 hs hd hc a1 a2 gW gC gV gB gM gI hg H.size st d hz (hk0 c_3) 1 v b hv ⟨fun _ => hb9, fun q9 => absurd q9 (by decide)⟩ (nI i)) (cwV 4 hts gX0_73 rfl rfl rfl (by decide +kernel) ⟨Nat.le_of_ble_eq_true rfl, Nat.le_of_ble_eq_true rfl⟩) (xp_v nwL_ok hK hN hP hD [0, 1, 2, 3] rfl rfl (va_recv hK hP (ci := 0) (q0 := 0) rfl rfl)) rfl rfl hl.1 rfl (lv_room (Nat.le_of_ble_eq_true rfl)) dX0_writeBlock_58 ⟨Nat.zero_le _, Nat.zero_le _⟩) hP hD hS hA [0, 1, 2, 3] [] rfl rfl (by decide) (by decide) (fun r_16 u_17 H locs hw hP hD hS => ?_)
            obtain ⟨er_16, hw⟩ := hw
            rw [er_16]
            obtain ⟨d_18, ed_18⟩ : ∃ z, z = chg d gM gB gI 1 v b (nI i) := ⟨_, rfl⟩
            rw [hw, ← ed_18] at hP hD
            have hP : va_P (dC, dI) vwCl [(h0, .inr (0, [.int (nI gW), .int (nI gC), .int (nI gV), .int (nI gB), .ref hs, .int (nI gM), .int (nI gI), .ref hd])), (hs, .inl (a1, gW, .inl st)), (hd, .inr (1, [.ref hc, .int d_18.2.1, .int d_18.2.2.1, .int d_18.2.2.2.1, .int d_18.2.2.2.2])), (hc, .inl (a2, (gI + 4), .inl d_18.1))] H := hP
            have hD : va_D A [(h0, .inr (0, [.int (nI gW), .int (nI gC), .int (nI gV), .int (nI gB), .ref hs, .int (nI gM), .int (nI gI), .ref hd])), (hs, .inl (a1, gW, .inl st)), (hd, .inr (1, [.ref hc, .int d_18.2.1, .int d_18.2.2.1, .int d_18.2.2.2.1, .int d_18.2.2.2.2])), (hc, .inl (a2, (gI + 4), .inl d_18.1))] := hD
            exact W.iret (v := ans (chg d gM gB gI 1 v b (nI i))) hx hb hr (fun t ht hW => ⟨⟨ans (chg d gM gB gI 1 v b (nI i)), (st, d_18), rfl, Or.inr (Or.inr ⟨c_3, c_6, v, b, hv, hb9, ev, eb, Or.inr ⟨i, hi, hsa, hus, Or.inr ⟨c_15, rfl, by rw [ed_18]⟩⟩⟩), by rw [ht]; exact hP, hD⟩, hS.F ht⟩) hS.2.2 dX0_writeBlock_61
          · refine lv_iconst (v := 0) hx hb dX0_writeBlock_51 (by decide) ?_
            exact W.iret (v := 0) hx hb hr (fun t ht hW => ⟨⟨0, (st, d), rfl, Or.inr (Or.inr ⟨c_3, c_6, v, b, hv, hb9, ev, eb, Or.inr ⟨i, hi, hsa, hus, Or.inl ⟨c_15, rfl, rfl⟩⟩⟩), by rw [ht]; exact hP, hD⟩, hS.F ht⟩) hS.2.2 dX0_writeBlock_52
        · exact absurd c_12 (nI_nm1 (by omega))
    · refine lv_iconst (v := (-1)) hx hb dX0_writeBlock_22 (by decide) ?_
      exact W.iret (v := (-1)) hx hb hr (fun t ht hW => ⟨⟨(-1), (st, d), rfl, Or.inr (Or.inl ⟨c_3, c_6, rfl, rfl⟩), by rw [ht]; exact hP, hD⟩, hS.F ht⟩) hS.2.2 dX0_writeBlock_23
  · refine lv_bipush (v := (-4)) hx hb dX0_writeBlock_10 (by decide) ?_
    exact W.iret (v := (-4)) hx hb hr (fun t ht hW => ⟨⟨(-4), (st, d), rfl, Or.inl ⟨c_3, rfl, rfl⟩, by rw [ht]; exact hP, hD⟩, hS.F ht⟩) hS.2.2 dX0_writeBlock_12
end
