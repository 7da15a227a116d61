def lw_okq (q : MethodName × Nat) : Prop := (q.1.cls ≠ "java/lang/invoke/MethodHandle" ∧ q.1.cls ≠ "java/lang/invoke/VarHandle") ∧ Cond.instantiable q.1.cls q.2 ∈ tables_1 ∧ Cond.privateMethod q.1 ∈ tables_1 ∧ Cond.instanceMethod q.1 ∈ tables_1
theorem lw_p0 : lw_okq (⟨"SharedVolumes$Disk", "wipe", "()V"⟩, 5) := ⟨⟨by decide +kernel, by decide +kernel⟩, List.mem_of_getElem? (i := 24) (by decide +kernel), List.mem_of_getElem? (i := 76) (by decide +kernel), List.mem_of_getElem? (i := 77) (by decide +kernel)⟩
theorem lw_p1 : lw_okq (⟨"SharedVolumes", "clearStaged", "()V"⟩, 8) := ⟨⟨by decide +kernel, by decide +kernel⟩, List.mem_of_getElem? (i := 7) (by decide +kernel), List.mem_of_getElem? (i := 83) (by decide +kernel), List.mem_of_getElem? (i := 84) (by decide +kernel)⟩
theorem lw_p2 : lw_okq (⟨"SharedVolumes$Disk", "isDown", "()Z"⟩, 5) := ⟨⟨by decide +kernel, by decide +kernel⟩, List.mem_of_getElem? (i := 24) (by decide +kernel), List.mem_of_getElem? (i := 92) (by decide +kernel), List.mem_of_getElem? (i := 93) (by decide +kernel)⟩
theorem lw_p3 : lw_okq (⟨"SharedVolumes", "isWord", "(I)Z"⟩, 8) := ⟨⟨by decide +kernel, by decide +kernel⟩, List.mem_of_getElem? (i := 7) (by decide +kernel), List.mem_of_getElem? (i := 96) (by decide +kernel), List.mem_of_getElem? (i := 97) (by decide +kernel)⟩
theorem lw_p4 : lw_okq (⟨"SharedVolumes", "isBlock", "(II)Z"⟩, 8) := ⟨⟨by decide +kernel, by decide +kernel⟩, List.mem_of_getElem? (i := 7) (by decide +kernel), List.mem_of_getElem? (i := 104) (by decide +kernel), List.mem_of_getElem? (i := 105) (by decide +kernel)⟩
theorem lw_p5 : lw_okq (⟨"SharedVolumes", "isVolume", "(I)Z"⟩, 8) := ⟨⟨by decide +kernel, by decide +kernel⟩, List.mem_of_getElem? (i := 7) (by decide +kernel), List.mem_of_getElem? (i := 108) (by decide +kernel), List.mem_of_getElem? (i := 109) (by decide +kernel)⟩
theorem lw_p6 : lw_okq (⟨"SharedVolumes", "usedSlotWithStaged", "()I"⟩, 8) := ⟨⟨by decide +kernel, by decide +kernel⟩, List.mem_of_getElem? (i := 7) (by decide +kernel), List.mem_of_getElem? (i := 112) (by decide +kernel), List.mem_of_getElem? (i := 113) (by decide +kernel)⟩
theorem lw_p7 : lw_okq (⟨"SharedVolumes", "hasStagedWords", "(I)Z"⟩, 8) := ⟨⟨by decide +kernel, by decide +kernel⟩, List.mem_of_getElem? (i := 7) (by decide +kernel), List.mem_of_getElem? (i := 116) (by decide +kernel), List.mem_of_getElem? (i := 117) (by decide +kernel)⟩
theorem lw_p8 : lw_okq (⟨"SharedVolumes", "slotCell", "(II)I"⟩, 8) := ⟨⟨by decide +kernel, by decide +kernel⟩, List.mem_of_getElem? (i := 7) (by decide +kernel), List.mem_of_getElem? (i := 120) (by decide +kernel), List.mem_of_getElem? (i := 121) (by decide +kernel)⟩
theorem lw_p9 : lw_okq (⟨"SharedVolumes$Disk", "read", "(I)I"⟩, 5) := ⟨⟨by decide +kernel, by decide +kernel⟩, List.mem_of_getElem? (i := 24) (by decide +kernel), List.mem_of_getElem? (i := 124) (by decide +kernel), List.mem_of_getElem? (i := 125) (by decide +kernel)⟩
theorem lw_p10 : lw_okq (⟨"SharedVolumes", "isUsed", "(I)Z"⟩, 8) := ⟨⟨by decide +kernel, by decide +kernel⟩, List.mem_of_getElem? (i := 7) (by decide +kernel), List.mem_of_getElem? (i := 128) (by decide +kernel), List.mem_of_getElem? (i := 129) (by decide +kernel)⟩
theorem lw_p11 : lw_okq (⟨"SharedVolumes", "blocksMappedTo", "(I)I"⟩, 8) := ⟨⟨by decide +kernel, by decide +kernel⟩, List.mem_of_getElem? (i := 7) (by decide +kernel), List.mem_of_getElem? (i := 132) (by decide +kernel), List.mem_of_getElem? (i := 133) (by decide +kernel)⟩
theorem lw_p12 : lw_okq (⟨"SharedVolumes", "writeNewContents", "(II)I"⟩, 8) := ⟨⟨by decide +kernel, by decide +kernel⟩, List.mem_of_getElem? (i := 7) (by decide +kernel), List.mem_of_getElem? (i := 136) (by decide +kernel), List.mem_of_getElem? (i := 137) (by decide +kernel)⟩
theorem lw_p13 : lw_okq (⟨"SharedVolumes", "usedSlotsWithout", "(II)I"⟩, 8) := ⟨⟨by decide +kernel, by decide +kernel⟩, List.mem_of_getElem? (i := 7) (by decide +kernel), List.mem_of_getElem? (i := 140) (by decide +kernel), List.mem_of_getElem? (i := 141) (by decide +kernel)⟩
theorem lw_p14 : lw_okq (⟨"SharedVolumes", "mappedSlot", "(II)I"⟩, 8) := ⟨⟨by decide +kernel, by decide +kernel⟩, List.mem_of_getElem? (i := 7) (by decide +kernel), List.mem_of_getElem? (i := 144) (by decide +kernel), List.mem_of_getElem? (i := 145) (by decide +kernel)⟩
theorem lw_p15 : lw_okq (⟨"SharedVolumes", "mapCell", "(II)I"⟩, 8) := ⟨⟨by decide +kernel, by decide +kernel⟩, List.mem_of_getElem? (i := 7) (by decide +kernel), List.mem_of_getElem? (i := 148) (by decide +kernel), List.mem_of_getElem? (i := 149) (by decide +kernel)⟩
def lw_privs_1 : List (MethodName × Nat) := [(⟨"SharedVolumes$Disk", "wipe", "()V"⟩, 5), (⟨"SharedVolumes", "clearStaged", "()V"⟩, 8), (⟨"SharedVolumes$Disk", "isDown", "()Z"⟩, 5), (⟨"SharedVolumes", "isWord", "(I)Z"⟩, 8), (⟨"SharedVolumes", "isBlock", "(II)Z"⟩, 8), (⟨"SharedVolumes", "isVolume", "(I)Z"⟩, 8), (⟨"SharedVolumes", "usedSlotWithStaged", "()I"⟩, 8), (⟨"SharedVolumes", "hasStagedWords", "(I)Z"⟩, 8), (⟨"SharedVolumes", "slotCell", "(II)I"⟩, 8), (⟨"SharedVolumes$Disk", "read", "(I)I"⟩, 5), (⟨"SharedVolumes", "isUsed", "(I)Z"⟩, 8), (⟨"SharedVolumes", "blocksMappedTo", "(I)I"⟩, 8), (⟨"SharedVolumes", "writeNewContents", "(II)I"⟩, 8), (⟨"SharedVolumes", "usedSlotsWithout", "(II)I"⟩, 8), (⟨"SharedVolumes", "mappedSlot", "(II)I"⟩, 8), (⟨"SharedVolumes", "mapCell", "(II)I"⟩, 8)]
theorem lw_r1 : ∀ q ∈ lw_privs_1, lw_okq q := List.forall_mem_cons.mpr ⟨lw_p0, List.forall_mem_cons.mpr ⟨lw_p1, List.forall_mem_cons.mpr ⟨lw_p2, List.forall_mem_cons.mpr ⟨lw_p3, List.forall_mem_cons.mpr ⟨lw_p4, List.forall_mem_cons.mpr ⟨lw_p5, List.forall_mem_cons.mpr ⟨lw_p6, List.forall_mem_cons.mpr ⟨lw_p7, List.forall_mem_cons.mpr ⟨lw_p8, List.forall_mem_cons.mpr ⟨lw_p9, List.forall_mem_cons.mpr ⟨lw_p10, List.forall_mem_cons.mpr ⟨lw_p11, List.forall_mem_cons.mpr ⟨lw_p12, List.forall_mem_cons.mpr ⟨lw_p13, List.forall_mem_cons.mpr ⟨lw_p14, List.forall_mem_cons.mpr ⟨lw_p15, fun _ h => absurd h List.not_mem_nil⟩⟩⟩⟩⟩⟩⟩⟩⟩⟩⟩⟩⟩⟩⟩⟩
theorem lw_p16 : lw_okq (⟨"SharedVolumes", "usedSlots", "()I"⟩, 8) := ⟨⟨by decide +kernel, by decide +kernel⟩, List.mem_of_getElem? (i := 7) (by decide +kernel), List.mem_of_getElem? (i := 152) (by decide +kernel), List.mem_of_getElem? (i := 153) (by decide +kernel)⟩
theorem lw_p17 : lw_okq (⟨"SharedVolumes", "lowestUnusedSlot", "()I"⟩, 8) := ⟨⟨by decide +kernel, by decide +kernel⟩, List.mem_of_getElem? (i := 7) (by decide +kernel), List.mem_of_getElem? (i := 156) (by decide +kernel), List.mem_of_getElem? (i := 157) (by decide +kernel)⟩
theorem lw_p18 : lw_okq (⟨"SharedVolumes$Disk", "write", "(II)V"⟩, 5) := ⟨⟨by decide +kernel, by decide +kernel⟩, List.mem_of_getElem? (i := 24) (by decide +kernel), List.mem_of_getElem? (i := 160) (by decide +kernel), List.mem_of_getElem? (i := 161) (by decide +kernel)⟩
theorem lw_p19 : lw_okq (⟨"SharedVolumes", "change", "(IIII)I"⟩, 8) := ⟨⟨by decide +kernel, by decide +kernel⟩, List.mem_of_getElem? (i := 7) (by decide +kernel), List.mem_of_getElem? (i := 164) (by decide +kernel), List.mem_of_getElem? (i := 165) (by decide +kernel)⟩
theorem lw_p20 : lw_okq (⟨"SharedVolumes", "carryOutIntent", "()V"⟩, 8) := ⟨⟨by decide +kernel, by decide +kernel⟩, List.mem_of_getElem? (i := 7) (by decide +kernel), List.mem_of_getElem? (i := 168) (by decide +kernel), List.mem_of_getElem? (i := 169) (by decide +kernel)⟩
theorem lw_p21 : lw_okq (⟨"SharedVolumes", "mapBlock", "(III)V"⟩, 8) := ⟨⟨by decide +kernel, by decide +kernel⟩, List.mem_of_getElem? (i := 7) (by decide +kernel), List.mem_of_getElem? (i := 172) (by decide +kernel), List.mem_of_getElem? (i := 173) (by decide +kernel)⟩
theorem lw_p22 : lw_okq (⟨"SharedVolumes", "mapVolumeAs", "(II)V"⟩, 8) := ⟨⟨by decide +kernel, by decide +kernel⟩, List.mem_of_getElem? (i := 7) (by decide +kernel), List.mem_of_getElem? (i := 176) (by decide +kernel), List.mem_of_getElem? (i := 177) (by decide +kernel)⟩
theorem lw_p23 : lw_okq (⟨"SharedVolumes", "unmapVolume", "(I)V"⟩, 8) := ⟨⟨by decide +kernel, by decide +kernel⟩, List.mem_of_getElem? (i := 7) (by decide +kernel), List.mem_of_getElem? (i := 180) (by decide +kernel), List.mem_of_getElem? (i := 181) (by decide +kernel)⟩
theorem lw_p24 : lw_okq (⟨"SharedVolumes$Disk", "armLoss", "(I)V"⟩, 5) := ⟨⟨by decide +kernel, by decide +kernel⟩, List.mem_of_getElem? (i := 24) (by decide +kernel), List.mem_of_getElem? (i := 220) (by decide +kernel), List.mem_of_getElem? (i := 221) (by decide +kernel)⟩
theorem lw_p25 : lw_okq (⟨"SharedVolumes$Disk", "restorePower", "()V"⟩, 5) := ⟨⟨by decide +kernel, by decide +kernel⟩, List.mem_of_getElem? (i := 24) (by decide +kernel), List.mem_of_getElem? (i := 232) (by decide +kernel), List.mem_of_getElem? (i := 233) (by decide +kernel)⟩
theorem lw_p26 : lw_okq (⟨"SharedVolumes$Disk", "writesDone", "()I"⟩, 5) := ⟨⟨by decide +kernel, by decide +kernel⟩, List.mem_of_getElem? (i := 24) (by decide +kernel), List.mem_of_getElem? (i := 240) (by decide +kernel), List.mem_of_getElem? (i := 241) (by decide +kernel)⟩
theorem lw_p27 : lw_okq (⟨"SharedVolumesModel", "clearStage", "()V"⟩, 13) := ⟨⟨by decide +kernel, by decide +kernel⟩, List.mem_of_getElem? (i := 247) (by decide +kernel), List.mem_of_getElem? (i := 300) (by decide +kernel), List.mem_of_getElem? (i := 301) (by decide +kernel)⟩
theorem lw_p28 : lw_okq (⟨"SharedVolumesModel", "isWord", "(I)Z"⟩, 13) := ⟨⟨by decide +kernel, by decide +kernel⟩, List.mem_of_getElem? (i := 247) (by decide +kernel), List.mem_of_getElem? (i := 308) (by decide +kernel), List.mem_of_getElem? (i := 309) (by decide +kernel)⟩
theorem lw_p29 : lw_okq (⟨"SharedVolumesModel", "block", "(II)Z"⟩, 13) := ⟨⟨by decide +kernel, by decide +kernel⟩, List.mem_of_getElem? (i := 247) (by decide +kernel), List.mem_of_getElem? (i := 316) (by decide +kernel), List.mem_of_getElem? (i := 317) (by decide +kernel)⟩
theorem lw_p30 : lw_okq (⟨"SharedVolumesModel", "volume", "(I)Z"⟩, 13) := ⟨⟨by decide +kernel, by decide +kernel⟩, List.mem_of_getElem? (i := 247) (by decide +kernel), List.mem_of_getElem? (i := 320) (by decide +kernel), List.mem_of_getElem? (i := 321) (by decide +kernel)⟩
theorem lw_p31 : lw_okq (⟨"SharedVolumesModel", "sharing", "()I"⟩, 13) := ⟨⟨by decide +kernel, by decide +kernel⟩, List.mem_of_getElem? (i := 247) (by decide +kernel), List.mem_of_getElem? (i := 324) (by decide +kernel), List.mem_of_getElem? (i := 325) (by decide +kernel)⟩
def lw_privs_2 : List (MethodName × Nat) := [(⟨"SharedVolumes", "usedSlots", "()I"⟩, 8), (⟨"SharedVolumes", "lowestUnusedSlot", "()I"⟩, 8), (⟨"SharedVolumes$Disk", "write", "(II)V"⟩, 5), (⟨"SharedVolumes", "change", "(IIII)I"⟩, 8), (⟨"SharedVolumes", "carryOutIntent", "()V"⟩, 8), (⟨"SharedVolumes", "mapBlock", "(III)V"⟩, 8), (⟨"SharedVolumes", "mapVolumeAs", "(II)V"⟩, 8), (⟨"SharedVolumes", "unmapVolume", "(I)V"⟩, 8), (⟨"SharedVolumes$Disk", "armLoss", "(I)V"⟩, 5), (⟨"SharedVolumes$Disk", "restorePower", "()V"⟩, 5), (⟨"SharedVolumes$Disk", "writesDone", "()I"⟩, 5), (⟨"SharedVolumesModel", "clearStage", "()V"⟩, 13), (⟨"SharedVolumesModel", "isWord", "(I)Z"⟩, 13), (⟨"SharedVolumesModel", "block", "(II)Z"⟩, 13), (⟨"SharedVolumesModel", "volume", "(I)Z"⟩, 13), (⟨"SharedVolumesModel", "sharing", "()I"⟩, 13)]
theorem lw_r2 : ∀ q ∈ lw_privs_2, lw_okq q := List.forall_mem_cons.mpr ⟨lw_p16, List.forall_mem_cons.mpr ⟨lw_p17, List.forall_mem_cons.mpr ⟨lw_p18, List.forall_mem_cons.mpr ⟨lw_p19, List.forall_mem_cons.mpr ⟨lw_p20, List.forall_mem_cons.mpr ⟨lw_p21, List.forall_mem_cons.mpr ⟨lw_p22, List.forall_mem_cons.mpr ⟨lw_p23, List.forall_mem_cons.mpr ⟨lw_p24, List.forall_mem_cons.mpr ⟨lw_p25, List.forall_mem_cons.mpr ⟨lw_p26, List.forall_mem_cons.mpr ⟨lw_p27, List.forall_mem_cons.mpr ⟨lw_p28, List.forall_mem_cons.mpr ⟨lw_p29, List.forall_mem_cons.mpr ⟨lw_p30, List.forall_mem_cons.mpr ⟨lw_p31, fun _ h => absurd h List.not_mem_nil⟩⟩⟩⟩⟩⟩⟩⟩⟩⟩⟩⟩⟩⟩⟩⟩
theorem lw_p32 : lw_okq (⟨"SharedVolumesModel", "refs", "(I)I"⟩, 13) := ⟨⟨by decide +kernel, by decide +kernel⟩, List.mem_of_getElem? (i := 247) (by decide +kernel), List.mem_of_getElem? (i := 328) (by decide +kernel), List.mem_of_getElem? (i := 329) (by decide +kernel)⟩
theorem lw_p33 : lw_okq (⟨"SharedVolumesModel", "hasStaged", "(I)Z"⟩, 13) := ⟨⟨by decide +kernel, by decide +kernel⟩, List.mem_of_getElem? (i := 247) (by decide +kernel), List.mem_of_getElem? (i := 332) (by decide +kernel), List.mem_of_getElem? (i := 333) (by decide +kernel)⟩
theorem lw_p34 : lw_okq (⟨"SharedVolumesModel", "used", "()I"⟩, 13) := ⟨⟨by decide +kernel, by decide +kernel⟩, List.mem_of_getElem? (i := 247) (by decide +kernel), List.mem_of_getElem? (i := 336) (by decide +kernel), List.mem_of_getElem? (i := 337) (by decide +kernel)⟩
theorem lw_p35 : lw_okq (⟨"SharedVolumesModel", "lowestUnused", "()I"⟩, 13) := ⟨⟨by decide +kernel, by decide +kernel⟩, List.mem_of_getElem? (i := 247) (by decide +kernel), List.mem_of_getElem? (i := 340) (by decide +kernel), List.mem_of_getElem? (i := 341) (by decide +kernel)⟩
theorem lw_p36 : lw_okq (⟨"SharedVolumesModel", "spend", "(I)I"⟩, 13) := ⟨⟨by decide +kernel, by decide +kernel⟩, List.mem_of_getElem? (i := 247) (by decide +kernel), List.mem_of_getElem? (i := 344) (by decide +kernel), List.mem_of_getElem? (i := 345) (by decide +kernel)⟩
theorem lw_p37 : lw_okq (⟨"SharedVolumesModel", "wantAsIs", "()V"⟩, 13) := ⟨⟨by decide +kernel, by decide +kernel⟩, List.mem_of_getElem? (i := 247) (by decide +kernel), List.mem_of_getElem? (i := 348) (by decide +kernel), List.mem_of_getElem? (i := 349) (by decide +kernel)⟩
theorem lw_p38 : lw_okq (⟨"SharedVolumesModel", "change", "(I)I"⟩, 13) := ⟨⟨by decide +kernel, by decide +kernel⟩, List.mem_of_getElem? (i := 247) (by decide +kernel), List.mem_of_getElem? (i := 352) (by decide +kernel), List.mem_of_getElem? (i := 353) (by decide +kernel)⟩
def lw_privs_3 : List (MethodName × Nat) := [(⟨"SharedVolumesModel", "refs", "(I)I"⟩, 13), (⟨"SharedVolumesModel", "hasStaged", "(I)Z"⟩, 13), (⟨"SharedVolumesModel", "used", "()I"⟩, 13), (⟨"SharedVolumesModel", "lowestUnused", "()I"⟩, 13), (⟨"SharedVolumesModel", "spend", "(I)I"⟩, 13), (⟨"SharedVolumesModel", "wantAsIs", "()V"⟩, 13), (⟨"SharedVolumesModel", "change", "(I)I"⟩, 13)]
theorem lw_r3 : ∀ q ∈ lw_privs_3, lw_okq q := List.forall_mem_cons.mpr ⟨lw_p32, List.forall_mem_cons.mpr ⟨lw_p33, List.forall_mem_cons.mpr ⟨lw_p34, List.forall_mem_cons.mpr ⟨lw_p35, List.forall_mem_cons.mpr ⟨lw_p36, List.forall_mem_cons.mpr ⟨lw_p37, List.forall_mem_cons.mpr ⟨lw_p38, fun _ h => absurd h List.not_mem_nil⟩⟩⟩⟩⟩⟩⟩
def lw_privs : List (MethodName × Nat) := lw_privs_1 ++ (lw_privs_2 ++ (lw_privs_3))
def lw_tbl : List Cond := k2_sels lw_privs ++ tables_1
theorem lw_privs_ok : ∀ q ∈ lw_privs, lw_okq q := by
  show ∀ q ∈ lw_privs_1 ++ (lw_privs_2 ++ (lw_privs_3)), lw_okq q
  exact List.forall_mem_append.mpr ⟨lw_r1, List.forall_mem_append.mpr ⟨lw_r2, lw_r3⟩⟩
def R_law : String := "SharedVolumesLaw"
def lw_P (b : Addr) (xs : List Int32) (args : Array Value) (s : State) : Prop := args = #[.ref b] ∧ s.IntsAt b xs ∧ xs.length ≤ 2052 ∧ (Jvm.Cond.and given_1 narrow_1).before args s = true
def lw_Q (_ : Array Value) (s : State) (o : Outcome) (t : State) : Prop := o = .returned (some (.int 1)) ∧ Framed s o t [] 600000 7302250
def lw_Z (below : List Frame) (a : Array Value) (s : State) : State → Prop := fun t => ∃ o, t.status = .running ∧ Ended t below o ∧ lw_Q a s o t
theorem lw_ret {p : Program} {l : Launch} {e : Env} {s : State} {m : MethodId} {below : List Frame} {meth : Method} {c : Code} {b : Nat} (hx : p.tables.exec = Jvm.exec) (hb : c.code = code) (hr : meth.sig.returnType = ret) (hlocks : meth.locks = false) {pc : Nat} {H : Heap} {ls : Array Slot} (hdg : decode code pc = .ok (.ireturn, 1)) : W p l e room_1 s m #[Value.ref b] below meth c H [] 600000 7302250 (lw_Z below #[Value.ref b] s) (F0 m pc ls [.int 1]) := by
  intro T hT X
  obtain ⟨fs, hret, hrun, hended, hW, hframe⟩ := X.leave (v := some (.int 1)) (hlocks := hlocks) (fun h => by rw [hr] at h; cases h)
  have hmeth' : T.vm.method? m = some meth := X.method'
  refine ⟨T.setFrames fs, ?_, .returned (some (.int 1)), hrun, hended, rfl, ⟨_, rfl⟩, hW, hframe⟩
  jvm_step X.here [X.here.top, hx, hb, hdg, hmeth', hr, ret, narrow_b1]
  (try refine ⟨rfl, ?_⟩); (try refine ⟨rfl, ?_⟩)
  first | (intro acts; rw [hret _ acts rfl rfl rfl]) | rw [hret _ _ rfl rfl rfl]
  exact Steps.refl _
def lw_At (p : Program) (s : State) (m : MethodId) (meth : Method) (c : Code) (b L : Nat) (xs : Nat → Int32) : Prop :=
  p.tables.exec = Jvm.exec ∧ c.code = code ∧ meth.sig.returnType = ret ∧ c.maxLocals = 4 ∧ s.vm.findClass R_law = some m.cls ∧ (∀ w ∈ lw_tbl, w.before #[Value.ref b] s = true) ∧ va_X b L xs s s.heap ∧ b < s.heap.size ∧ meth.locks = false ∧ (Jvm.Cond.and given_1 narrow_1).before #[Value.ref b] s = true
def RX0 : String := "SharedVolumes"
def RX1 : String := "SharedVolumes$Disk"
def RX2 : String := "SharedVolumesModel"
def RJ0 : String := "java/util/Arrays"
def RL : String := "SharedVolumesLaw"
def TX0 : u_T := fun k => match k with
  | 0 => ("SharedVolumes", "blockWords", "I", true)
  | 1 => ("SharedVolumes", "chunks", "I", true)
  | 2 => ("SharedVolumes", "volumes", "I", true)
  | 3 => ("SharedVolumes", "blocks", "I", true)
  | 4 => ("SharedVolumes", "staged", "[I", true)
  | 5 => ("SharedVolumes", "mapStart", "I", true)
  | 6 => ("SharedVolumes", "intentStart", "I", true)
  | _ => ("SharedVolumes", "disk", "LSharedVolumes$Disk;", true)
def tyX0 : Nat → FieldType := fun k => match k with
  | 0 => .int
  | 1 => .int
  | 2 => .int
  | 3 => .int
  | 4 => .array .int
  | 5 => .int
  | 6 => .int
  | _ => .object "SharedVolumes$Disk"
theorem nmX0 : ∀ a, a < 8 → ∀ b, b < 8 → a ≠ b → (TX0 a).2.1 ≠ (TX0 b).2.1 := by decide +kernel
theorem okX0 : ∀ k, k < 8 → parseFieldDescriptor (TX0 k).2.2.1 = some (tyX0 k) := by decide +kernel
def TX1 : u_T := fun k => match k with
  | 0 => ("SharedVolumes$Disk", "cells", "[I", true)
  | 1 => ("SharedVolumes$Disk", "writeCount", "I", false)
  | 2 => ("SharedVolumes$Disk", "writesToLoss", "I", false)
  | 3 => ("SharedVolumes$Disk", "lossesArmed", "I", false)
  | _ => ("SharedVolumes$Disk", "powerLost", "Z", false)
def tyX1 : Nat → FieldType := fun k => match k with
  | 0 => .array .int
  | 1 => .int
  | 2 => .int
  | 3 => .int
  | _ => .boolean
theorem nmX1 : ∀ a, a < 5 → ∀ b, b < 5 → a ≠ b → (TX1 a).2.1 ≠ (TX1 b).2.1 := by decide +kernel
theorem okX1 : ∀ k, k < 5 → parseFieldDescriptor (TX1 k).2.2.1 = some (tyX1 k) := by decide +kernel
def TX2 : u_T := fun k => match k with
  | 0 => ("SharedVolumesModel", "words", "I", true)
  | 1 => ("SharedVolumesModel", "chunks", "I", true)
  | 2 => ("SharedVolumesModel", "volumes", "I", true)
  | 3 => ("SharedVolumesModel", "blocks", "I", true)
  | 4 => ("SharedVolumesModel", "map", "[I", true)
  | 5 => ("SharedVolumesModel", "wanted", "[I", true)
  | 6 => ("SharedVolumesModel", "slots", "[I", true)
  | 7 => ("SharedVolumesModel", "staged", "[I", true)
  | 8 => ("SharedVolumesModel", "happened", "I", false)
  | 9 => ("SharedVolumesModel", "armed", "I", false)
  | 10 => ("SharedVolumesModel", "arms", "I", false)
  | 11 => ("SharedVolumesModel", "down", "Z", false)
  | _ => ("SharedVolumesModel", "redo", "I", false)
def tyX2 : Nat → FieldType := fun k => match k with
  | 0 => .int
  | 1 => .int
  | 2 => .int
  | 3 => .int
  | 4 => .array .int
  | 5 => .array .int
  | 6 => .array .int
  | 7 => .array .int
  | 8 => .int
  | 9 => .int
  | 10 => .int
  | 11 => .boolean
  | _ => .int
theorem nmX2 : ∀ a, a < 13 → ∀ b, b < 13 → a ≠ b → (TX2 a).2.1 ≠ (TX2 b).2.1 := by decide +kernel
theorem okX2 : ∀ k, k < 13 → parseFieldDescriptor (TX2 k).2.2.1 = some (tyX2 k) := by decide +kernel
abbrev vwCl : List vw_C := [(RX0, TX0, 8), (RX1, TX1, 5), (RX2, TX2, 13)]
abbrev cX0_init : ByteArray := prog_1_method_1_code
def yX0_init : MethodName := ⟨RX0, "<init>", "(IIII)V"⟩
abbrev cX0_within : ByteArray := prog_1_method_17_code
def yX0_within : MethodName := ⟨RX0, "within", "(II)I"⟩
abbrev cX1_init : ByteArray := prog_2_method_1_code
def yX1_init : MethodName := ⟨RX1, "<init>", "(I)V"⟩
abbrev cX0_format : ByteArray := prog_1_method_2_code
def yX0_format : MethodName := ⟨RX0, "format", "()I"⟩
abbrev cX1_wipe : ByteArray := prog_2_method_2_code
def yX1_wipe : MethodName := ⟨RX1, "wipe", "()V"⟩
abbrev cJ0_fill : ByteArray := prog_6_method_103_code
def yJ0_fill : MethodName := ⟨RJ0, "fill", "([II)V"⟩
abbrev cX0_clearStaged : ByteArray := prog_1_method_31_code
def yX0_clearStaged : MethodName := ⟨RX0, "clearStaged", "()V"⟩
abbrev cX0_stageWord : ByteArray := prog_1_method_3_code
def yX0_stageWord : MethodName := ⟨RX0, "stageWord", "(II)I"⟩
abbrev cX1_isDown : ByteArray := prog_2_method_7_code
def yX1_isDown : MethodName := ⟨RX1, "isDown", "()Z"⟩
abbrev cX0_isWord : ByteArray := prog_1_method_18_code
def yX0_isWord : MethodName := ⟨RX0, "isWord", "(I)Z"⟩
abbrev cX0_writeBlock : ByteArray := prog_1_method_4_code
def yX0_writeBlock : MethodName := ⟨RX0, "writeBlock", "(II)I"⟩
abbrev cX0_isBlock : ByteArray := prog_1_method_20_code
def yX0_isBlock : MethodName := ⟨RX0, "isBlock", "(II)Z"⟩
abbrev cX0_isVolume : ByteArray := prog_1_method_19_code
def yX0_isVolume : MethodName := ⟨RX0, "isVolume", "(I)Z"⟩
abbrev cX0_usedSlotWithStaged : ByteArray := prog_1_method_30_code
def yX0_usedSlotWithStaged : MethodName := ⟨RX0, "usedSlotWithStaged", "()I"⟩
abbrev cX0_hasStagedWords : ByteArray := prog_1_method_29_code
def yX0_hasStagedWords : MethodName := ⟨RX0, "hasStagedWords", "(I)Z"⟩
abbrev cX0_slotCell : ByteArray := prog_1_method_21_code
def yX0_slotCell : MethodName := ⟨RX0, "slotCell", "(II)I"⟩
abbrev cX1_read : ByteArray := prog_2_method_3_code
def yX1_read : MethodName := ⟨RX1, "read", "(I)I"⟩
abbrev cX0_isUsed : ByteArray := prog_1_method_26_code
def yX0_isUsed : MethodName := ⟨RX0, "isUsed", "(I)Z"⟩
abbrev cX0_blocksMappedTo : ByteArray := prog_1_method_25_code
def yX0_blocksMappedTo : MethodName := ⟨RX0, "blocksMappedTo", "(I)I"⟩
abbrev cX0_writeNewContents : ByteArray := prog_1_method_32_code
def yX0_writeNewContents : MethodName := ⟨RX0, "writeNewContents", "(II)I"⟩
abbrev cX0_usedSlotsWithout : ByteArray := prog_1_method_33_code
def yX0_usedSlotsWithout : MethodName := ⟨RX0, "usedSlotsWithout", "(II)I"⟩
abbrev cX0_mappedSlot : ByteArray := prog_1_method_23_code
def yX0_mappedSlot : MethodName := ⟨RX0, "mappedSlot", "(II)I"⟩
abbrev cX0_mapCell : ByteArray := prog_1_method_22_code
def yX0_mapCell : MethodName := ⟨RX0, "mapCell", "(II)I"⟩
abbrev cX0_usedSlots : ByteArray := prog_1_method_27_code
def yX0_usedSlots : MethodName := ⟨RX0, "usedSlots", "()I"⟩
abbrev cX0_lowestUnusedSlot : ByteArray := prog_1_method_28_code
def yX0_lowestUnusedSlot : MethodName := ⟨RX0, "lowestUnusedSlot", "()I"⟩
abbrev cX1_write : ByteArray := prog_2_method_4_code
def yX1_write : MethodName := ⟨RX1, "write", "(II)V"⟩
abbrev cX0_change : ByteArray := prog_1_method_34_code
def yX0_change : MethodName := ⟨RX0, "change", "(IIII)I"⟩
abbrev cX0_carryOutIntent : ByteArray := prog_1_method_35_code
def yX0_carryOutIntent : MethodName := ⟨RX0, "carryOutIntent", "()V"⟩
abbrev cX0_mapBlock : ByteArray := prog_1_method_24_code
def yX0_mapBlock : MethodName := ⟨RX0, "mapBlock", "(III)V"⟩
abbrev cX0_mapVolumeAs : ByteArray := prog_1_method_36_code
def yX0_mapVolumeAs : MethodName := ⟨RX0, "mapVolumeAs", "(II)V"⟩
abbrev cX0_unmapVolume : ByteArray := prog_1_method_37_code
def yX0_unmapVolume : MethodName := ⟨RX0, "unmapVolume", "(I)V"⟩
abbrev cX0_readWord : ByteArray := prog_1_method_5_code
def yX0_readWord : MethodName := ⟨RX0, "readWord", "(III)I"⟩
abbrev cX0_trim : ByteArray := prog_1_method_6_code
def yX0_trim : MethodName := ⟨RX0, "trim", "(II)I"⟩
abbrev cX0_cloneVol : ByteArray := prog_1_method_7_code
def yX0_cloneVol : MethodName := ⟨RX0, "cloneVol", "(II)I"⟩
abbrev cX0_dropVol : ByteArray := prog_1_method_8_code
def yX0_dropVol : MethodName := ⟨RX0, "dropVol", "(I)I"⟩
abbrev cX0_chunksUsed : ByteArray := prog_1_method_9_code
def yX0_chunksUsed : MethodName := ⟨RX0, "chunksUsed", "()I"⟩
abbrev cX0_refsOf : ByteArray := prog_1_method_10_code
def yX0_refsOf : MethodName := ⟨RX0, "refsOf", "(II)I"⟩
abbrev cX0_slotOf : ByteArray := prog_1_method_11_code
def yX0_slotOf : MethodName := ⟨RX0, "slotOf", "(II)I"⟩
abbrev cX0_slotWord : ByteArray := prog_1_method_12_code
def yX0_slotWord : MethodName := ⟨RX0, "slotWord", "(II)I"⟩
abbrev cX0_crashAfter : ByteArray := prog_1_method_13_code
def yX0_crashAfter : MethodName := ⟨RX0, "crashAfter", "(I)V"⟩
abbrev cX1_armLoss : ByteArray := prog_2_method_5_code
def yX1_armLoss : MethodName := ⟨RX1, "armLoss", "(I)V"⟩
abbrev cX0_down : ByteArray := prog_1_method_14_code
def yX0_down : MethodName := ⟨RX0, "down", "()Z"⟩
abbrev cX0_recover : ByteArray := prog_1_method_15_code
def yX0_recover : MethodName := ⟨RX0, "recover", "()I"⟩
abbrev cX1_restorePower : ByteArray := prog_2_method_6_code
def yX1_restorePower : MethodName := ⟨RX1, "restorePower", "()V"⟩
abbrev cX0_writes : ByteArray := prog_1_method_16_code
def yX0_writes : MethodName := ⟨RX0, "writes", "()I"⟩
abbrev cX1_writesDone : ByteArray := prog_2_method_8_code
def yX1_writesDone : MethodName := ⟨RX1, "writesDone", "()I"⟩
abbrev cL_cell : ByteArray := method_2_code
def yL_cell : MethodName := ⟨RL, "cell", "([II)I"⟩
abbrev cX2_init : ByteArray := prog_4_method_2_code
def yX2_init : MethodName := ⟨RX2, "<init>", "(IIII)V"⟩
abbrev cX2_cut : ByteArray := prog_4_method_1_code
def yX2_cut : MethodName := ⟨RX2, "cut", "(II)I"⟩
abbrev cX2_format : ByteArray := prog_4_method_4_code
def yX2_format : MethodName := ⟨RX2, "format", "()I"⟩
abbrev cX2_clearStage : ByteArray := prog_4_method_3_code
def yX2_clearStage : MethodName := ⟨RX2, "clearStage", "()V"⟩
abbrev cX2_stageWord : ByteArray := prog_4_method_16_code
def yX2_stageWord : MethodName := ⟨RX2, "stageWord", "(II)I"⟩
abbrev cX2_isWord : ByteArray := prog_4_method_15_code
def yX2_isWord : MethodName := ⟨RX2, "isWord", "(I)Z"⟩
abbrev cX2_writeBlock : ByteArray := prog_4_method_17_code
def yX2_writeBlock : MethodName := ⟨RX2, "writeBlock", "(II)I"⟩
abbrev cX2_block : ByteArray := prog_4_method_9_code
def yX2_block : MethodName := ⟨RX2, "block", "(II)Z"⟩
abbrev cX2_volume : ByteArray := prog_4_method_8_code
def yX2_volume : MethodName := ⟨RX2, "volume", "(I)Z"⟩
abbrev cX2_sharing : ByteArray := prog_4_method_13_code
def yX2_sharing : MethodName := ⟨RX2, "sharing", "()I"⟩
abbrev cX2_refs : ByteArray := prog_4_method_10_code
def yX2_refs : MethodName := ⟨RX2, "refs", "(I)I"⟩
abbrev cX2_hasStaged : ByteArray := prog_4_method_12_code
def yX2_hasStaged : MethodName := ⟨RX2, "hasStaged", "(I)Z"⟩
abbrev cX2_used : ByteArray := prog_4_method_11_code
def yX2_used : MethodName := ⟨RX2, "used", "()I"⟩
abbrev cX2_lowestUnused : ByteArray := prog_4_method_14_code
def yX2_lowestUnused : MethodName := ⟨RX2, "lowestUnused", "()I"⟩
abbrev cX2_spend : ByteArray := prog_4_method_5_code
def yX2_spend : MethodName := ⟨RX2, "spend", "(I)I"⟩
abbrev cX2_wantAsIs : ByteArray := prog_4_method_7_code
def yX2_wantAsIs : MethodName := ⟨RX2, "wantAsIs", "()V"⟩
abbrev cX2_change : ByteArray := prog_4_method_6_code
def yX2_change : MethodName := ⟨RX2, "change", "(I)I"⟩
abbrev cX2_readWord : ByteArray := prog_4_method_18_code
def yX2_readWord : MethodName := ⟨RX2, "readWord", "(III)I"⟩
abbrev cX2_trim : ByteArray := prog_4_method_19_code
def yX2_trim : MethodName := ⟨RX2, "trim", "(II)I"⟩
abbrev cX2_cloneVol : ByteArray := prog_4_method_20_code
def yX2_cloneVol : MethodName := ⟨RX2, "cloneVol", "(II)I"⟩
abbrev cX2_dropVol : ByteArray := prog_4_method_21_code
def yX2_dropVol : MethodName := ⟨RX2, "dropVol", "(I)I"⟩
abbrev cX2_chunksUsed : ByteArray := prog_4_method_22_code
def yX2_chunksUsed : MethodName := ⟨RX2, "chunksUsed", "()I"⟩
abbrev cX2_refsOf : ByteArray := prog_4_method_23_code
def yX2_refsOf : MethodName := ⟨RX2, "refsOf", "(II)I"⟩
abbrev cX2_slotOf : ByteArray := prog_4_method_24_code
def yX2_slotOf : MethodName := ⟨RX2, "slotOf", "(II)I"⟩
abbrev cX2_slotWord : ByteArray := prog_4_method_25_code
def yX2_slotWord : MethodName := ⟨RX2, "slotWord", "(II)I"⟩
abbrev cX2_crashAfter : ByteArray := prog_4_method_26_code
def yX2_crashAfter : MethodName := ⟨RX2, "crashAfter", "(I)V"⟩
abbrev cX2_down : ByteArray := prog_4_method_27_code
def yX2_down : MethodName := ⟨RX2, "down", "()Z"⟩
abbrev cX2_recover : ByteArray := prog_4_method_28_code
def yX2_recover : MethodName := ⟨RX2, "recover", "()I"⟩
abbrev cX2_writes : ByteArray := prog_4_method_29_code
def yX2_writes : MethodName := ⟨RX2, "writes", "()I"⟩
abbrev cL_law : ByteArray := code
def TBG : List Cond := lw_tbl.filter goodWord
theorem tb_in : ∀ w ∈ TBG, w ∈ lw_tbl := fun w h => (List.mem_filter.mp h).1
theorem tb_good : ∀ w ∈ TBG, goodWord w = true := fun w h => (List.mem_filter.mp h).2
theorem tb_0 : (.initialized RL : Cond) ∈ TBG := List.mem_filter.mpr ⟨List.mem_append_right _ (List.mem_append_left _ (List.mem_of_getElem? (l := tables_1_1) (i := 0) rfl)), rfl⟩
theorem tb_1 : (.initialized RX0 : Cond) ∈ TBG := List.mem_filter.mpr ⟨List.mem_append_right _ (List.mem_append_left _ (List.mem_of_getElem? (l := tables_1_1) (i := 1) rfl)), rfl⟩
theorem tb_2 : (.initialized "java/lang/Math" : Cond) ∈ TBG := List.mem_filter.mpr ⟨List.mem_append_right _ (List.mem_append_left _ (List.mem_of_getElem? (l := tables_1_1) (i := 2) rfl)), rfl⟩
theorem tb_3 : (.initialized RX1 : Cond) ∈ TBG := List.mem_filter.mpr ⟨List.mem_append_right _ (List.mem_append_left _ (List.mem_of_getElem? (l := tables_1_1) (i := 3) rfl)), rfl⟩
theorem tb_4 : (.initialized RX2 : Cond) ∈ TBG := List.mem_filter.mpr ⟨List.mem_append_right _ (List.mem_append_left _ (List.mem_of_getElem? (l := tables_1_1) (i := 4) rfl)), rfl⟩
theorem tb_5 : (.initialized RJ0 : Cond) ∈ TBG := List.mem_filter.mpr ⟨List.mem_append_right _ (List.mem_append_left _ (List.mem_of_getElem? (l := tables_1_1) (i := 5) rfl)), rfl⟩
theorem tb_6 : (.classLink RL 7 RX0 : Cond) ∈ TBG := List.mem_filter.mpr ⟨List.mem_append_right _ (List.mem_append_left _ (List.mem_of_getElem? (l := tables_1_1) (i := 6) rfl)), rfl⟩
theorem tb_7 : (.instantiable RX0 8 : Cond) ∈ TBG := List.mem_filter.mpr ⟨List.mem_append_right _ (List.mem_append_left _ (List.mem_of_getElem? (l := tables_1_1) (i := 7) rfl)), rfl⟩
theorem tb_8 : (.methodLink RL 15 yX0_init : Cond) ∈ TBG := List.mem_filter.mpr ⟨List.mem_append_right _ (List.mem_append_left _ (List.mem_of_getElem? (l := tables_1_1) (i := 8) rfl)), rfl⟩
theorem tb_9 : (.instanceMethod yX0_init : Cond) ∈ TBG := List.mem_filter.mpr ⟨List.mem_append_right _ (List.mem_append_left _ (List.mem_of_getElem? (l := tables_1_1) (i := 9) rfl)), rfl⟩
theorem tb_10 : (.code yX0_init cX0_init 5 none : Cond) ∈ TBG := List.mem_filter.mpr ⟨List.mem_append_right _ (List.mem_append_left _ (List.mem_of_getElem? (l := tables_1_1) (i := 10) rfl)), rfl⟩
theorem tb_11 : (.methodLink RX0 1 objectInit : Cond) ∈ TBG := List.mem_filter.mpr ⟨List.mem_append_right _ (List.mem_append_left _ (List.mem_of_getElem? (l := tables_1_1) (i := 11) rfl)), rfl⟩
theorem tb_12 : (.instanceMethod objectInit : Cond) ∈ TBG := List.mem_filter.mpr ⟨List.mem_append_right _ (List.mem_append_left _ (List.mem_of_getElem? (l := tables_1_1) (i := 12) rfl)), rfl⟩
theorem tb_13 : (.code objectInit ⟨#[0xb1]⟩ 1 none : Cond) ∈ TBG := List.mem_filter.mpr ⟨List.mem_append_right _ (List.mem_append_left _ (List.mem_of_getElem? (l := tables_1_1) (i := 13) rfl)), rfl⟩
theorem tb_14 : (.methodLink RX0 9 yX0_within : Cond) ∈ TBG := List.mem_filter.mpr ⟨List.mem_append_right _ (List.mem_append_left _ (List.mem_of_getElem? (l := tables_1_1) (i := 14) rfl)), rfl⟩
theorem tb_15 : (.static yX0_within : Cond) ∈ TBG := List.mem_filter.mpr ⟨List.mem_append_right _ (List.mem_append_left _ (List.mem_of_getElem? (l := tables_1_1) (i := 15) rfl)), rfl⟩
theorem tb_16 : (.code yX0_within cX0_within 2 (some .int) : Cond) ∈ TBG := List.mem_filter.mpr ⟨List.mem_append_right _ (List.mem_append_left _ (List.mem_of_getElem? (l := tables_1_1) (i := 16) rfl)), rfl⟩
theorem tb_17 : (.methodLink RX0 105 Lib.Math.min.name : Cond) ∈ TBG := List.mem_filter.mpr ⟨List.mem_append_right _ (List.mem_append_left _ (List.mem_of_getElem? (l := tables_1_1) (i := 17) rfl)), rfl⟩
theorem tb_18 : (.static Lib.Math.min.name : Cond) ∈ TBG := List.mem_filter.mpr ⟨List.mem_append_right _ (List.mem_append_left _ (List.mem_of_getElem? (l := tables_1_1) (i := 18) rfl)), rfl⟩
theorem tb_19 : (.code Lib.Math.min.name Lib.Math.min.code 2 (some .int) : Cond) ∈ TBG := List.mem_filter.mpr ⟨List.mem_append_right _ (List.mem_append_left _ (List.mem_of_getElem? (l := tables_1_1) (i := 19) rfl)), rfl⟩
theorem tb_20 : (.methodLink RX0 110 Lib.Math.max.name : Cond) ∈ TBG := List.mem_filter.mpr ⟨List.mem_append_right _ (List.mem_append_left _ (List.mem_of_getElem? (l := tables_1_1) (i := 20) rfl)), rfl⟩
theorem tb_21 : (.static Lib.Math.max.name : Cond) ∈ TBG := List.mem_filter.mpr ⟨List.mem_append_right _ (List.mem_append_left _ (List.mem_of_getElem? (l := tables_1_1) (i := 21) rfl)), rfl⟩
theorem tb_22 : (.code Lib.Math.max.name Lib.Math.max.code 2 (some .int) : Cond) ∈ TBG := List.mem_filter.mpr ⟨List.mem_append_right _ (List.mem_append_left _ (List.mem_of_getElem? (l := tables_1_1) (i := 22) rfl)), rfl⟩
theorem tb_23 : (.classLink RX0 36 RX1 : Cond) ∈ TBG := List.mem_filter.mpr ⟨List.mem_append_right _ (List.mem_append_left _ (List.mem_of_getElem? (l := tables_1_1) (i := 23) rfl)), rfl⟩
theorem tb_24 : (.instantiable RX1 5 : Cond) ∈ TBG := List.mem_filter.mpr ⟨List.mem_append_right _ (List.mem_append_left _ (List.mem_of_getElem? (l := tables_1_1) (i := 24) rfl)), rfl⟩
theorem tb_26 : (.instanceMethod yX1_init : Cond) ∈ TBG := List.mem_filter.mpr ⟨List.mem_append_right _ (List.mem_append_left _ (List.mem_of_getElem? (l := tables_1_1) (i := 26) rfl)), rfl⟩
theorem tb_27 : (.code yX1_init cX1_init 2 none : Cond) ∈ TBG := List.mem_filter.mpr ⟨List.mem_append_right _ (List.mem_append_left _ (List.mem_of_getElem? (l := tables_1_1) (i := 27) rfl)), rfl⟩
theorem tb_28 : (.methodLink RX1 1 objectInit : Cond) ∈ TBG := List.mem_filter.mpr ⟨List.mem_append_right _ (List.mem_append_left _ (List.mem_of_getElem? (l := tables_1_1) (i := 28) rfl)), rfl⟩
theorem tb_29 : (.fieldLink RX1 7 "SharedVolumes$Disk" "cells" "[I" : Cond) ∈ TBG := List.mem_filter.mpr ⟨List.mem_append_right _ (List.mem_append_left _ (List.mem_of_getElem? (l := tables_1_1) (i := 29) rfl)), rfl⟩
theorem tb_30 : (.fieldLink RX1 27 "SharedVolumes$Disk" "writeCount" "I" : Cond) ∈ TBG := List.mem_filter.mpr ⟨List.mem_append_right _ (List.mem_append_left _ (List.mem_of_getElem? (l := tables_1_1) (i := 30) rfl)), rfl⟩
theorem tb_31 : (.fieldLink RX1 19 "SharedVolumes$Disk" "writesToLoss" "I" : Cond) ∈ TBG := List.mem_filter.mpr ⟨List.mem_append_right _ (List.mem_append_left _ (List.mem_of_getElem? (l := tables_1_1) (i := 31) rfl)), rfl⟩
theorem tb_32 : (.fieldLink RX1 30 "SharedVolumes$Disk" "lossesArmed" "I" : Cond) ∈ TBG := List.mem_filter.mpr ⟨List.mem_append_right _ (List.mem_append_left _ (List.mem_of_getElem? (l := tables_1_1) (i := 32) rfl)), rfl⟩
theorem tb_33 : (.fieldLink RX1 23 "SharedVolumes$Disk" "powerLost" "Z" : Cond) ∈ TBG := List.mem_filter.mpr ⟨List.mem_append_right _ (List.mem_append_left _ (List.mem_of_getElem? (l := tables_1_1) (i := 33) rfl)), rfl⟩
theorem tb_45 : (.arrayClass .int : Cond) ∈ TBG := List.mem_filter.mpr ⟨List.mem_append_right _ (List.mem_append_left _ (List.mem_of_getElem? (l := tables_1_1) (i := 45) rfl)), rfl⟩
theorem tb_46 : (.fieldLink RX0 13 "SharedVolumes" "blockWords" "I" : Cond) ∈ TBG := List.mem_filter.mpr ⟨List.mem_append_right _ (List.mem_append_left _ (List.mem_of_getElem? (l := tables_1_1) (i := 46) rfl)), rfl⟩
theorem tb_47 : (.fieldLink RX0 17 "SharedVolumes" "chunks" "I" : Cond) ∈ TBG := List.mem_filter.mpr ⟨List.mem_append_right _ (List.mem_append_left _ (List.mem_of_getElem? (l := tables_1_1) (i := 47) rfl)), rfl⟩
theorem tb_48 : (.fieldLink RX0 20 "SharedVolumes" "volumes" "I" : Cond) ∈ TBG := List.mem_filter.mpr ⟨List.mem_append_right _ (List.mem_append_left _ (List.mem_of_getElem? (l := tables_1_1) (i := 48) rfl)), rfl⟩
theorem tb_49 : (.fieldLink RX0 23 "SharedVolumes" "blocks" "I" : Cond) ∈ TBG := List.mem_filter.mpr ⟨List.mem_append_right _ (List.mem_append_left _ (List.mem_of_getElem? (l := tables_1_1) (i := 49) rfl)), rfl⟩
theorem tb_50 : (.fieldLink RX0 26 "SharedVolumes" "staged" "[I" : Cond) ∈ TBG := List.mem_filter.mpr ⟨List.mem_append_right _ (List.mem_append_left _ (List.mem_of_getElem? (l := tables_1_1) (i := 50) rfl)), rfl⟩
theorem tb_51 : (.fieldLink RX0 30 "SharedVolumes" "mapStart" "I" : Cond) ∈ TBG := List.mem_filter.mpr ⟨List.mem_append_right _ (List.mem_append_left _ (List.mem_of_getElem? (l := tables_1_1) (i := 51) rfl)), rfl⟩
theorem tb_52 : (.fieldLink RX0 33 "SharedVolumes" "intentStart" "I" : Cond) ∈ TBG := List.mem_filter.mpr ⟨List.mem_append_right _ (List.mem_append_left _ (List.mem_of_getElem? (l := tables_1_1) (i := 52) rfl)), rfl⟩
theorem tb_53 : (.fieldLink RX0 41 "SharedVolumes" "disk" "LSharedVolumes$Disk;" : Cond) ∈ TBG := List.mem_filter.mpr ⟨List.mem_append_right _ (List.mem_append_left _ (List.mem_of_getElem? (l := tables_1_1) (i := 53) rfl)), rfl⟩
theorem tb_71 : (.methodLink RL 21 yX0_format : Cond) ∈ TBG := List.mem_filter.mpr ⟨List.mem_append_right _ (List.mem_append_left _ (List.mem_of_getElem? (l := tables_1_1) (i := 71) rfl)), rfl⟩
theorem tb_72 : (.instanceMethod yX0_format : Cond) ∈ TBG := List.mem_filter.mpr ⟨List.mem_append_right _ (List.mem_append_left _ (List.mem_of_getElem? (l := tables_1_1) (i := 72) rfl)), rfl⟩
theorem tb_73 : (.selects RX0 yX0_format yX0_format : Cond) ∈ TBG := List.mem_filter.mpr ⟨List.mem_append_right _ (List.mem_append_left _ (List.mem_of_getElem? (l := tables_1_1) (i := 73) rfl)), rfl⟩
theorem tb_74 : (.code yX0_format cX0_format 1 (some .int) : Cond) ∈ TBG := List.mem_filter.mpr ⟨List.mem_append_right _ (List.mem_append_left _ (List.mem_of_getElem? (l := tables_1_1) (i := 74) rfl)), rfl⟩
theorem tb_77 : (.instanceMethod yX1_wipe : Cond) ∈ TBG := List.mem_filter.mpr ⟨List.mem_append_right _ (List.mem_append_left _ (List.mem_of_getElem? (l := tables_1_1) (i := 77) rfl)), rfl⟩
theorem tb_78 : (.code yX1_wipe cX1_wipe 1 none : Cond) ∈ TBG := List.mem_filter.mpr ⟨List.mem_append_right _ (List.mem_append_left _ (List.mem_of_getElem? (l := tables_1_1) (i := 78) rfl)), rfl⟩
theorem tb_79 : (.methodLink RX1 13 yJ0_fill : Cond) ∈ TBG := List.mem_filter.mpr ⟨List.mem_append_right _ (List.mem_append_left _ (List.mem_of_getElem? (l := tables_1_1) (i := 79) rfl)), rfl⟩
theorem tb_80 : (.static yJ0_fill : Cond) ∈ TBG := List.mem_filter.mpr ⟨List.mem_append_right _ (List.mem_append_left _ (List.mem_of_getElem? (l := tables_1_1) (i := 80) rfl)), rfl⟩
theorem tb_81 : (.code yJ0_fill cJ0_fill 4 none : Cond) ∈ TBG := List.mem_filter.mpr ⟨List.mem_append_right _ (List.mem_append_left _ (List.mem_of_getElem? (l := tables_1_1) (i := 81) rfl)), rfl⟩
theorem tb_82 : (.methodLink RX0 48 yX0_clearStaged : Cond) ∈ TBG := List.mem_filter.mpr ⟨List.mem_append_right _ (List.mem_append_left _ (List.mem_of_getElem? (l := tables_1_1) (i := 82) rfl)), rfl⟩
theorem tb_84 : (.instanceMethod yX0_clearStaged : Cond) ∈ TBG := List.mem_filter.mpr ⟨List.mem_append_right _ (List.mem_append_left _ (List.mem_of_getElem? (l := tables_1_1) (i := 84) rfl)), rfl⟩
theorem tb_85 : (.code yX0_clearStaged cX0_clearStaged 1 none : Cond) ∈ TBG := List.mem_filter.mpr ⟨List.mem_append_right _ (List.mem_append_left _ (List.mem_of_getElem? (l := tables_1_1) (i := 85) rfl)), rfl⟩
theorem tb_86 : (.methodLink RX0 126 yJ0_fill : Cond) ∈ TBG := List.mem_filter.mpr ⟨List.mem_append_right _ (List.mem_append_left _ (List.mem_of_getElem? (l := tables_1_1) (i := 86) rfl)), rfl⟩
theorem tb_87 : (.methodLink RL 26 yX0_stageWord : Cond) ∈ TBG := List.mem_filter.mpr ⟨List.mem_append_right _ (List.mem_append_left _ (List.mem_of_getElem? (l := tables_1_1) (i := 87) rfl)), rfl⟩
theorem tb_88 : (.instanceMethod yX0_stageWord : Cond) ∈ TBG := List.mem_filter.mpr ⟨List.mem_append_right _ (List.mem_append_left _ (List.mem_of_getElem? (l := tables_1_1) (i := 88) rfl)), rfl⟩
theorem tb_89 : (.selects RX0 yX0_stageWord yX0_stageWord : Cond) ∈ TBG := List.mem_filter.mpr ⟨List.mem_append_right _ (List.mem_append_left _ (List.mem_of_getElem? (l := tables_1_1) (i := 89) rfl)), rfl⟩
theorem tb_90 : (.code yX0_stageWord cX0_stageWord 3 (some .int) : Cond) ∈ TBG := List.mem_filter.mpr ⟨List.mem_append_right _ (List.mem_append_left _ (List.mem_of_getElem? (l := tables_1_1) (i := 90) rfl)), rfl⟩
theorem tb_93 : (.instanceMethod yX1_isDown : Cond) ∈ TBG := List.mem_filter.mpr ⟨List.mem_append_right _ (List.mem_append_left _ (List.mem_of_getElem? (l := tables_1_1) (i := 93) rfl)), rfl⟩
theorem tb_94 : (.code yX1_isDown cX1_isDown 1 (some .boolean) : Cond) ∈ TBG := List.mem_filter.mpr ⟨List.mem_append_right _ (List.mem_append_left _ (List.mem_of_getElem? (l := tables_1_1) (i := 94) rfl)), rfl⟩
theorem tb_95 : (.methodLink RX0 55 yX0_isWord : Cond) ∈ TBG := List.mem_filter.mpr ⟨List.mem_append_right _ (List.mem_append_left _ (List.mem_of_getElem? (l := tables_1_1) (i := 95) rfl)), rfl⟩
theorem tb_97 : (.instanceMethod yX0_isWord : Cond) ∈ TBG := List.mem_filter.mpr ⟨List.mem_append_right _ (List.mem_append_left _ (List.mem_of_getElem? (l := tables_1_1) (i := 97) rfl)), rfl⟩
theorem tb_98 : (.code yX0_isWord cX0_isWord 2 (some .boolean) : Cond) ∈ TBG := List.mem_filter.mpr ⟨List.mem_append_right _ (List.mem_append_left _ (List.mem_of_getElem? (l := tables_1_1) (i := 98) rfl)), rfl⟩
theorem tb_99 : (.methodLink RL 31 yX0_writeBlock : Cond) ∈ TBG := List.mem_filter.mpr ⟨List.mem_append_right _ (List.mem_append_left _ (List.mem_of_getElem? (l := tables_1_1) (i := 99) rfl)), rfl⟩
theorem tb_100 : (.instanceMethod yX0_writeBlock : Cond) ∈ TBG := List.mem_filter.mpr ⟨List.mem_append_right _ (List.mem_append_left _ (List.mem_of_getElem? (l := tables_1_1) (i := 100) rfl)), rfl⟩
theorem tb_101 : (.selects RX0 yX0_writeBlock yX0_writeBlock : Cond) ∈ TBG := List.mem_filter.mpr ⟨List.mem_append_right _ (List.mem_append_left _ (List.mem_of_getElem? (l := tables_1_1) (i := 101) rfl)), rfl⟩
theorem tb_102 : (.code yX0_writeBlock cX0_writeBlock 4 (some .int) : Cond) ∈ TBG := List.mem_filter.mpr ⟨List.mem_append_right _ (List.mem_append_left _ (List.mem_of_getElem? (l := tables_1_1) (i := 102) rfl)), rfl⟩
theorem tb_103 : (.methodLink RX0 59 yX0_isBlock : Cond) ∈ TBG := List.mem_filter.mpr ⟨List.mem_append_right _ (List.mem_append_left _ (List.mem_of_getElem? (l := tables_1_1) (i := 103) rfl)), rfl⟩
theorem tb_105 : (.instanceMethod yX0_isBlock : Cond) ∈ TBG := List.mem_filter.mpr ⟨List.mem_append_right _ (List.mem_append_left _ (List.mem_of_getElem? (l := tables_1_1) (i := 105) rfl)), rfl⟩
theorem tb_106 : (.code yX0_isBlock cX0_isBlock 3 (some .boolean) : Cond) ∈ TBG := List.mem_filter.mpr ⟨List.mem_append_right _ (List.mem_append_left _ (List.mem_of_getElem? (l := tables_1_1) (i := 106) rfl)), rfl⟩
theorem tb_107 : (.methodLink RX0 84 yX0_isVolume : Cond) ∈ TBG := List.mem_filter.mpr ⟨List.mem_append_right _ (List.mem_append_left _ (List.mem_of_getElem? (l := tables_1_1) (i := 107) rfl)), rfl⟩
theorem tb_109 : (.instanceMethod yX0_isVolume : Cond) ∈ TBG := List.mem_filter.mpr ⟨List.mem_append_right _ (List.mem_append_left _ (List.mem_of_getElem? (l := tables_1_1) (i := 109) rfl)), rfl⟩
theorem tb_110 : (.code yX0_isVolume cX0_isVolume 2 (some .boolean) : Cond) ∈ TBG := List.mem_filter.mpr ⟨List.mem_append_right _ (List.mem_append_left _ (List.mem_of_getElem? (l := tables_1_1) (i := 110) rfl)), rfl⟩
theorem tb_111 : (.methodLink RX0 63 yX0_usedSlotWithStaged : Cond) ∈ TBG := List.mem_filter.mpr ⟨List.mem_append_right _ (List.mem_append_left _ (List.mem_of_getElem? (l := tables_1_1) (i := 111) rfl)), rfl⟩
theorem tb_113 : (.instanceMethod yX0_usedSlotWithStaged : Cond) ∈ TBG := List.mem_filter.mpr ⟨List.mem_append_right _ (List.mem_append_left _ (List.mem_of_getElem? (l := tables_1_1) (i := 113) rfl)), rfl⟩
theorem tb_114 : (.code yX0_usedSlotWithStaged cX0_usedSlotWithStaged 2 (some .int) : Cond) ∈ TBG := List.mem_filter.mpr ⟨List.mem_append_right _ (List.mem_append_left _ (List.mem_of_getElem? (l := tables_1_1) (i := 114) rfl)), rfl⟩
theorem tb_115 : (.methodLink RX0 123 yX0_hasStagedWords : Cond) ∈ TBG := List.mem_filter.mpr ⟨List.mem_append_right _ (List.mem_append_left _ (List.mem_of_getElem? (l := tables_1_1) (i := 115) rfl)), rfl⟩
theorem tb_117 : (.instanceMethod yX0_hasStagedWords : Cond) ∈ TBG := List.mem_filter.mpr ⟨List.mem_append_right _ (List.mem_append_left _ (List.mem_of_getElem? (l := tables_1_1) (i := 117) rfl)), rfl⟩
theorem tb_118 : (.code yX0_hasStagedWords cX0_hasStagedWords 3 (some .boolean) : Cond) ∈ TBG := List.mem_filter.mpr ⟨List.mem_append_right _ (List.mem_append_left _ (List.mem_of_getElem? (l := tables_1_1) (i := 118) rfl)), rfl⟩
theorem tb_119 : (.methodLink RX0 77 yX0_slotCell : Cond) ∈ TBG := List.mem_filter.mpr ⟨List.mem_append_right _ (List.mem_append_left _ (List.mem_of_getElem? (l := tables_1_1) (i := 119) rfl)), rfl⟩
theorem tb_121 : (.instanceMethod yX0_slotCell : Cond) ∈ TBG := List.mem_filter.mpr ⟨List.mem_append_right _ (List.mem_append_left _ (List.mem_of_getElem? (l := tables_1_1) (i := 121) rfl)), rfl⟩
theorem tb_122 : (.code yX0_slotCell cX0_slotCell 3 (some .int) : Cond) ∈ TBG := List.mem_filter.mpr ⟨List.mem_append_right _ (List.mem_append_left _ (List.mem_of_getElem? (l := tables_1_1) (i := 122) rfl)), rfl⟩
theorem tb_125 : (.instanceMethod yX1_read : Cond) ∈ TBG := List.mem_filter.mpr ⟨List.mem_append_right _ (List.mem_append_left _ (List.mem_of_getElem? (l := tables_1_1) (i := 125) rfl)), rfl⟩
theorem tb_126 : (.code yX1_read cX1_read 2 (some .int) : Cond) ∈ TBG := List.mem_filter.mpr ⟨List.mem_append_right _ (List.mem_append_left _ (List.mem_of_getElem? (l := tables_1_1) (i := 126) rfl)), rfl⟩
theorem tb_127 : (.methodLink RX0 120 yX0_isUsed : Cond) ∈ TBG := List.mem_filter.mpr ⟨List.mem_append_right _ (List.mem_append_left _ (List.mem_of_getElem? (l := tables_1_1) (i := 127) rfl)), rfl⟩
theorem tb_129 : (.instanceMethod yX0_isUsed : Cond) ∈ TBG := List.mem_filter.mpr ⟨List.mem_append_right _ (List.mem_append_left _ (List.mem_of_getElem? (l := tables_1_1) (i := 129) rfl)), rfl⟩
theorem tb_130 : (.code yX0_isUsed cX0_isUsed 2 (some .boolean) : Cond) ∈ TBG := List.mem_filter.mpr ⟨List.mem_append_right _ (List.mem_append_left _ (List.mem_of_getElem? (l := tables_1_1) (i := 130) rfl)), rfl⟩
theorem tb_131 : (.methodLink RX0 90 yX0_blocksMappedTo : Cond) ∈ TBG := List.mem_filter.mpr ⟨List.mem_append_right _ (List.mem_append_left _ (List.mem_of_getElem? (l := tables_1_1) (i := 131) rfl)), rfl⟩
theorem tb_133 : (.instanceMethod yX0_blocksMappedTo : Cond) ∈ TBG := List.mem_filter.mpr ⟨List.mem_append_right _ (List.mem_append_left _ (List.mem_of_getElem? (l := tables_1_1) (i := 133) rfl)), rfl⟩
theorem tb_134 : (.code yX0_blocksMappedTo cX0_blocksMappedTo 4 (some .int) : Cond) ∈ TBG := List.mem_filter.mpr ⟨List.mem_append_right _ (List.mem_append_left _ (List.mem_of_getElem? (l := tables_1_1) (i := 134) rfl)), rfl⟩
theorem tb_135 : (.methodLink RX0 67 yX0_writeNewContents : Cond) ∈ TBG := List.mem_filter.mpr ⟨List.mem_append_right _ (List.mem_append_left _ (List.mem_of_getElem? (l := tables_1_1) (i := 135) rfl)), rfl⟩
theorem tb_137 : (.instanceMethod yX0_writeNewContents : Cond) ∈ TBG := List.mem_filter.mpr ⟨List.mem_append_right _ (List.mem_append_left _ (List.mem_of_getElem? (l := tables_1_1) (i := 137) rfl)), rfl⟩
theorem tb_138 : (.code yX0_writeNewContents cX0_writeNewContents 5 (some .int) : Cond) ∈ TBG := List.mem_filter.mpr ⟨List.mem_append_right _ (List.mem_append_left _ (List.mem_of_getElem? (l := tables_1_1) (i := 138) rfl)), rfl⟩
theorem tb_139 : (.methodLink RX0 132 yX0_usedSlotsWithout : Cond) ∈ TBG := List.mem_filter.mpr ⟨List.mem_append_right _ (List.mem_append_left _ (List.mem_of_getElem? (l := tables_1_1) (i := 139) rfl)), rfl⟩
theorem tb_141 : (.instanceMethod yX0_usedSlotsWithout : Cond) ∈ TBG := List.mem_filter.mpr ⟨List.mem_append_right _ (List.mem_append_left _ (List.mem_of_getElem? (l := tables_1_1) (i := 141) rfl)), rfl⟩
theorem tb_142 : (.code yX0_usedSlotsWithout cX0_usedSlotsWithout 5 (some .int) : Cond) ∈ TBG := List.mem_filter.mpr ⟨List.mem_append_right _ (List.mem_append_left _ (List.mem_of_getElem? (l := tables_1_1) (i := 142) rfl)), rfl⟩
theorem tb_143 : (.methodLink RX0 70 yX0_mappedSlot : Cond) ∈ TBG := List.mem_filter.mpr ⟨List.mem_append_right _ (List.mem_append_left _ (List.mem_of_getElem? (l := tables_1_1) (i := 143) rfl)), rfl⟩
theorem tb_145 : (.instanceMethod yX0_mappedSlot : Cond) ∈ TBG := List.mem_filter.mpr ⟨List.mem_append_right _ (List.mem_append_left _ (List.mem_of_getElem? (l := tables_1_1) (i := 145) rfl)), rfl⟩
theorem tb_146 : (.code yX0_mappedSlot cX0_mappedSlot 3 (some .int) : Cond) ∈ TBG := List.mem_filter.mpr ⟨List.mem_append_right _ (List.mem_append_left _ (List.mem_of_getElem? (l := tables_1_1) (i := 146) rfl)), rfl⟩
theorem tb_147 : (.methodLink RX0 113 yX0_mapCell : Cond) ∈ TBG := List.mem_filter.mpr ⟨List.mem_append_right _ (List.mem_append_left _ (List.mem_of_getElem? (l := tables_1_1) (i := 147) rfl)), rfl⟩
theorem tb_149 : (.instanceMethod yX0_mapCell : Cond) ∈ TBG := List.mem_filter.mpr ⟨List.mem_append_right _ (List.mem_append_left _ (List.mem_of_getElem? (l := tables_1_1) (i := 149) rfl)), rfl⟩
theorem tb_150 : (.code yX0_mapCell cX0_mapCell 3 (some .int) : Cond) ∈ TBG := List.mem_filter.mpr ⟨List.mem_append_right _ (List.mem_append_left _ (List.mem_of_getElem? (l := tables_1_1) (i := 150) rfl)), rfl⟩
theorem tb_151 : (.methodLink RX0 87 yX0_usedSlots : Cond) ∈ TBG := List.mem_filter.mpr ⟨List.mem_append_right _ (List.mem_append_left _ (List.mem_of_getElem? (l := tables_1_1) (i := 151) rfl)), rfl⟩
theorem tb_153 : (.instanceMethod yX0_usedSlots : Cond) ∈ TBG := List.mem_filter.mpr ⟨List.mem_append_right _ (List.mem_append_left _ (List.mem_of_getElem? (l := tables_1_1) (i := 153) rfl)), rfl⟩
theorem tb_154 : (.code yX0_usedSlots cX0_usedSlots 3 (some .int) : Cond) ∈ TBG := List.mem_filter.mpr ⟨List.mem_append_right _ (List.mem_append_left _ (List.mem_of_getElem? (l := tables_1_1) (i := 154) rfl)), rfl⟩
theorem tb_155 : (.methodLink RX0 135 yX0_lowestUnusedSlot : Cond) ∈ TBG := List.mem_filter.mpr ⟨List.mem_append_right _ (List.mem_append_left _ (List.mem_of_getElem? (l := tables_1_1) (i := 155) rfl)), rfl⟩
theorem tb_157 : (.instanceMethod yX0_lowestUnusedSlot : Cond) ∈ TBG := List.mem_filter.mpr ⟨List.mem_append_right _ (List.mem_append_left _ (List.mem_of_getElem? (l := tables_1_1) (i := 157) rfl)), rfl⟩
theorem tb_158 : (.code yX0_lowestUnusedSlot cX0_lowestUnusedSlot 2 (some .int) : Cond) ∈ TBG := List.mem_filter.mpr ⟨List.mem_append_right _ (List.mem_append_left _ (List.mem_of_getElem? (l := tables_1_1) (i := 158) rfl)), rfl⟩
theorem tb_161 : (.instanceMethod yX1_write : Cond) ∈ TBG := List.mem_filter.mpr ⟨List.mem_append_right _ (List.mem_append_left _ (List.mem_of_getElem? (l := tables_1_1) (i := 161) rfl)), rfl⟩
theorem tb_162 : (.code yX1_write cX1_write 3 none : Cond) ∈ TBG := List.mem_filter.mpr ⟨List.mem_append_right _ (List.mem_append_left _ (List.mem_of_getElem? (l := tables_1_1) (i := 162) rfl)), rfl⟩
theorem tb_163 : (.methodLink RX0 73 yX0_change : Cond) ∈ TBG := List.mem_filter.mpr ⟨List.mem_append_right _ (List.mem_append_left _ (List.mem_of_getElem? (l := tables_1_1) (i := 163) rfl)), rfl⟩
theorem tb_165 : (.instanceMethod yX0_change : Cond) ∈ TBG := List.mem_filter.mpr ⟨List.mem_append_right _ (List.mem_append_left _ (List.mem_of_getElem? (l := tables_1_1) (i := 165) rfl)), rfl⟩
theorem tb_166 : (.code yX0_change cX0_change 5 (some .int) : Cond) ∈ TBG := List.mem_filter.mpr ⟨List.mem_append_right _ (List.mem_append_left _ (List.mem_of_getElem? (l := tables_1_1) (i := 166) rfl)), rfl⟩
theorem tb_167 : (.methodLink RX0 99 yX0_carryOutIntent : Cond) ∈ TBG := List.mem_filter.mpr ⟨List.mem_append_right _ (List.mem_append_left _ (List.mem_of_getElem? (l := tables_1_1) (i := 167) rfl)), rfl⟩
theorem tb_169 : (.instanceMethod yX0_carryOutIntent : Cond) ∈ TBG := List.mem_filter.mpr ⟨List.mem_append_right _ (List.mem_append_left _ (List.mem_of_getElem? (l := tables_1_1) (i := 169) rfl)), rfl⟩
theorem tb_170 : (.code yX0_carryOutIntent cX0_carryOutIntent 4 none : Cond) ∈ TBG := List.mem_filter.mpr ⟨List.mem_append_right _ (List.mem_append_left _ (List.mem_of_getElem? (l := tables_1_1) (i := 170) rfl)), rfl⟩
theorem tb_171 : (.methodLink RX0 138 yX0_mapBlock : Cond) ∈ TBG := List.mem_filter.mpr ⟨List.mem_append_right _ (List.mem_append_left _ (List.mem_of_getElem? (l := tables_1_1) (i := 171) rfl)), rfl⟩
theorem tb_173 : (.instanceMethod yX0_mapBlock : Cond) ∈ TBG := List.mem_filter.mpr ⟨List.mem_append_right _ (List.mem_append_left _ (List.mem_of_getElem? (l := tables_1_1) (i := 173) rfl)), rfl⟩
theorem tb_174 : (.code yX0_mapBlock cX0_mapBlock 4 none : Cond) ∈ TBG := List.mem_filter.mpr ⟨List.mem_append_right _ (List.mem_append_left _ (List.mem_of_getElem? (l := tables_1_1) (i := 174) rfl)), rfl⟩
theorem tb_175 : (.methodLink RX0 142 yX0_mapVolumeAs : Cond) ∈ TBG := List.mem_filter.mpr ⟨List.mem_append_right _ (List.mem_append_left _ (List.mem_of_getElem? (l := tables_1_1) (i := 175) rfl)), rfl⟩
theorem tb_177 : (.instanceMethod yX0_mapVolumeAs : Cond) ∈ TBG := List.mem_filter.mpr ⟨List.mem_append_right _ (List.mem_append_left _ (List.mem_of_getElem? (l := tables_1_1) (i := 177) rfl)), rfl⟩
theorem tb_178 : (.code yX0_mapVolumeAs cX0_mapVolumeAs 4 none : Cond) ∈ TBG := List.mem_filter.mpr ⟨List.mem_append_right _ (List.mem_append_left _ (List.mem_of_getElem? (l := tables_1_1) (i := 178) rfl)), rfl⟩
theorem tb_179 : (.methodLink RX0 145 yX0_unmapVolume : Cond) ∈ TBG := List.mem_filter.mpr ⟨List.mem_append_right _ (List.mem_append_left _ (List.mem_of_getElem? (l := tables_1_1) (i := 179) rfl)), rfl⟩
theorem tb_181 : (.instanceMethod yX0_unmapVolume : Cond) ∈ TBG := List.mem_filter.mpr ⟨List.mem_append_right _ (List.mem_append_left _ (List.mem_of_getElem? (l := tables_1_1) (i := 181) rfl)), rfl⟩
theorem tb_182 : (.code yX0_unmapVolume cX0_unmapVolume 3 none : Cond) ∈ TBG := List.mem_filter.mpr ⟨List.mem_append_right _ (List.mem_append_left _ (List.mem_of_getElem? (l := tables_1_1) (i := 182) rfl)), rfl⟩
theorem tb_183 : (.methodLink RL 35 yX0_readWord : Cond) ∈ TBG := List.mem_filter.mpr ⟨List.mem_append_right _ (List.mem_append_left _ (List.mem_of_getElem? (l := tables_1_1) (i := 183) rfl)), rfl⟩
theorem tb_184 : (.instanceMethod yX0_readWord : Cond) ∈ TBG := List.mem_filter.mpr ⟨List.mem_append_right _ (List.mem_append_left _ (List.mem_of_getElem? (l := tables_1_1) (i := 184) rfl)), rfl⟩
theorem tb_185 : (.selects RX0 yX0_readWord yX0_readWord : Cond) ∈ TBG := List.mem_filter.mpr ⟨List.mem_append_right _ (List.mem_append_left _ (List.mem_of_getElem? (l := tables_1_1) (i := 185) rfl)), rfl⟩
theorem tb_186 : (.code yX0_readWord cX0_readWord 5 (some .int) : Cond) ∈ TBG := List.mem_filter.mpr ⟨List.mem_append_right _ (List.mem_append_left _ (List.mem_of_getElem? (l := tables_1_1) (i := 186) rfl)), rfl⟩
theorem tb_187 : (.methodLink RL 40 yX0_trim : Cond) ∈ TBG := List.mem_filter.mpr ⟨List.mem_append_right _ (List.mem_append_left _ (List.mem_of_getElem? (l := tables_1_1) (i := 187) rfl)), rfl⟩
theorem tb_188 : (.instanceMethod yX0_trim : Cond) ∈ TBG := List.mem_filter.mpr ⟨List.mem_append_right _ (List.mem_append_left _ (List.mem_of_getElem? (l := tables_1_1) (i := 188) rfl)), rfl⟩
theorem tb_189 : (.selects RX0 yX0_trim yX0_trim : Cond) ∈ TBG := List.mem_filter.mpr ⟨List.mem_append_right _ (List.mem_append_left _ (List.mem_of_getElem? (l := tables_1_1) (i := 189) rfl)), rfl⟩
theorem tb_190 : (.code yX0_trim cX0_trim 3 (some .int) : Cond) ∈ TBG := List.mem_filter.mpr ⟨List.mem_append_right _ (List.mem_append_left _ (List.mem_of_getElem? (l := tables_1_1) (i := 190) rfl)), rfl⟩
theorem tb_191 : (.methodLink RL 44 yX0_cloneVol : Cond) ∈ TBG := List.mem_filter.mpr ⟨List.mem_append_right _ (List.mem_append_left _ (List.mem_of_getElem? (l := tables_1_1) (i := 191) rfl)), rfl⟩
theorem tb_192 : (.instanceMethod yX0_cloneVol : Cond) ∈ TBG := List.mem_filter.mpr ⟨List.mem_append_right _ (List.mem_append_left _ (List.mem_of_getElem? (l := tables_1_1) (i := 192) rfl)), rfl⟩
theorem tb_193 : (.selects RX0 yX0_cloneVol yX0_cloneVol : Cond) ∈ TBG := List.mem_filter.mpr ⟨List.mem_append_right _ (List.mem_append_left _ (List.mem_of_getElem? (l := tables_1_1) (i := 193) rfl)), rfl⟩
theorem tb_194 : (.code yX0_cloneVol cX0_cloneVol 3 (some .int) : Cond) ∈ TBG := List.mem_filter.mpr ⟨List.mem_append_right _ (List.mem_append_left _ (List.mem_of_getElem? (l := tables_1_1) (i := 194) rfl)), rfl⟩
theorem tb_195 : (.methodLink RL 48 yX0_dropVol : Cond) ∈ TBG := List.mem_filter.mpr ⟨List.mem_append_right _ (List.mem_append_left _ (List.mem_of_getElem? (l := tables_1_1) (i := 195) rfl)), rfl⟩
theorem tb_196 : (.instanceMethod yX0_dropVol : Cond) ∈ TBG := List.mem_filter.mpr ⟨List.mem_append_right _ (List.mem_append_left _ (List.mem_of_getElem? (l := tables_1_1) (i := 196) rfl)), rfl⟩
theorem tb_197 : (.selects RX0 yX0_dropVol yX0_dropVol : Cond) ∈ TBG := List.mem_filter.mpr ⟨List.mem_append_right _ (List.mem_append_left _ (List.mem_of_getElem? (l := tables_1_1) (i := 197) rfl)), rfl⟩
theorem tb_198 : (.code yX0_dropVol cX0_dropVol 2 (some .int) : Cond) ∈ TBG := List.mem_filter.mpr ⟨List.mem_append_right _ (List.mem_append_left _ (List.mem_of_getElem? (l := tables_1_1) (i := 198) rfl)), rfl⟩
theorem tb_199 : (.methodLink RL 53 yX0_chunksUsed : Cond) ∈ TBG := List.mem_filter.mpr ⟨List.mem_append_right _ (List.mem_append_left _ (List.mem_of_getElem? (l := tables_1_1) (i := 199) rfl)), rfl⟩
theorem tb_200 : (.instanceMethod yX0_chunksUsed : Cond) ∈ TBG := List.mem_filter.mpr ⟨List.mem_append_right _ (List.mem_append_left _ (List.mem_of_getElem? (l := tables_1_1) (i := 200) rfl)), rfl⟩
theorem tb_201 : (.selects RX0 yX0_chunksUsed yX0_chunksUsed : Cond) ∈ TBG := List.mem_filter.mpr ⟨List.mem_append_right _ (List.mem_append_left _ (List.mem_of_getElem? (l := tables_1_1) (i := 201) rfl)), rfl⟩
theorem tb_202 : (.code yX0_chunksUsed cX0_chunksUsed 1 (some .int) : Cond) ∈ TBG := List.mem_filter.mpr ⟨List.mem_append_right _ (List.mem_append_left _ (List.mem_of_getElem? (l := tables_1_1) (i := 202) rfl)), rfl⟩
theorem tb_203 : (.methodLink RL 57 yX0_refsOf : Cond) ∈ TBG := List.mem_filter.mpr ⟨List.mem_append_right _ (List.mem_append_left _ (List.mem_of_getElem? (l := tables_1_1) (i := 203) rfl)), rfl⟩
theorem tb_204 : (.instanceMethod yX0_refsOf : Cond) ∈ TBG := List.mem_filter.mpr ⟨List.mem_append_right _ (List.mem_append_left _ (List.mem_of_getElem? (l := tables_1_1) (i := 204) rfl)), rfl⟩
theorem tb_205 : (.selects RX0 yX0_refsOf yX0_refsOf : Cond) ∈ TBG := List.mem_filter.mpr ⟨List.mem_append_right _ (List.mem_append_left _ (List.mem_of_getElem? (l := tables_1_1) (i := 205) rfl)), rfl⟩
theorem tb_206 : (.code yX0_refsOf cX0_refsOf 4 (some .int) : Cond) ∈ TBG := List.mem_filter.mpr ⟨List.mem_append_right _ (List.mem_append_left _ (List.mem_of_getElem? (l := tables_1_1) (i := 206) rfl)), rfl⟩
theorem tb_207 : (.methodLink RL 61 yX0_slotOf : Cond) ∈ TBG := List.mem_filter.mpr ⟨List.mem_append_right _ (List.mem_append_left _ (List.mem_of_getElem? (l := tables_1_1) (i := 207) rfl)), rfl⟩
theorem tb_208 : (.instanceMethod yX0_slotOf : Cond) ∈ TBG := List.mem_filter.mpr ⟨List.mem_append_right _ (List.mem_append_left _ (List.mem_of_getElem? (l := tables_1_1) (i := 208) rfl)), rfl⟩
theorem tb_209 : (.selects RX0 yX0_slotOf yX0_slotOf : Cond) ∈ TBG := List.mem_filter.mpr ⟨List.mem_append_right _ (List.mem_append_left _ (List.mem_of_getElem? (l := tables_1_1) (i := 209) rfl)), rfl⟩
theorem tb_210 : (.code yX0_slotOf cX0_slotOf 4 (some .int) : Cond) ∈ TBG := List.mem_filter.mpr ⟨List.mem_append_right _ (List.mem_append_left _ (List.mem_of_getElem? (l := tables_1_1) (i := 210) rfl)), rfl⟩
theorem tb_211 : (.methodLink RL 65 yX0_slotWord : Cond) ∈ TBG := List.mem_filter.mpr ⟨List.mem_append_right _ (List.mem_append_left _ (List.mem_of_getElem? (l := tables_1_1) (i := 211) rfl)), rfl⟩
theorem tb_212 : (.instanceMethod yX0_slotWord : Cond) ∈ TBG := List.mem_filter.mpr ⟨List.mem_append_right _ (List.mem_append_left _ (List.mem_of_getElem? (l := tables_1_1) (i := 212) rfl)), rfl⟩
theorem tb_213 : (.selects RX0 yX0_slotWord yX0_slotWord : Cond) ∈ TBG := List.mem_filter.mpr ⟨List.mem_append_right _ (List.mem_append_left _ (List.mem_of_getElem? (l := tables_1_1) (i := 213) rfl)), rfl⟩
theorem tb_214 : (.code yX0_slotWord cX0_slotWord 3 (some .int) : Cond) ∈ TBG := List.mem_filter.mpr ⟨List.mem_append_right _ (List.mem_append_left _ (List.mem_of_getElem? (l := tables_1_1) (i := 214) rfl)), rfl⟩
theorem tb_215 : (.methodLink RL 69 yX0_crashAfter : Cond) ∈ TBG := List.mem_filter.mpr ⟨List.mem_append_right _ (List.mem_append_left _ (List.mem_of_getElem? (l := tables_1_1) (i := 215) rfl)), rfl⟩
theorem tb_216 : (.instanceMethod yX0_crashAfter : Cond) ∈ TBG := List.mem_filter.mpr ⟨List.mem_append_right _ (List.mem_append_left _ (List.mem_of_getElem? (l := tables_1_1) (i := 216) rfl)), rfl⟩
theorem tb_217 : (.selects RX0 yX0_crashAfter yX0_crashAfter : Cond) ∈ TBG := List.mem_filter.mpr ⟨List.mem_append_right _ (List.mem_append_left _ (List.mem_of_getElem? (l := tables_1_1) (i := 217) rfl)), rfl⟩
theorem tb_218 : (.code yX0_crashAfter cX0_crashAfter 2 none : Cond) ∈ TBG := List.mem_filter.mpr ⟨List.mem_append_right _ (List.mem_append_left _ (List.mem_of_getElem? (l := tables_1_1) (i := 218) rfl)), rfl⟩
theorem tb_221 : (.instanceMethod yX1_armLoss : Cond) ∈ TBG := List.mem_filter.mpr ⟨List.mem_append_right _ (List.mem_append_left _ (List.mem_of_getElem? (l := tables_1_1) (i := 221) rfl)), rfl⟩
theorem tb_222 : (.code yX1_armLoss cX1_armLoss 2 none : Cond) ∈ TBG := List.mem_filter.mpr ⟨List.mem_append_right _ (List.mem_append_left _ (List.mem_of_getElem? (l := tables_1_1) (i := 222) rfl)), rfl⟩
theorem tb_223 : (.methodLink RL 74 yX0_down : Cond) ∈ TBG := List.mem_filter.mpr ⟨List.mem_append_right _ (List.mem_append_left _ (List.mem_of_getElem? (l := tables_1_1) (i := 223) rfl)), rfl⟩
theorem tb_224 : (.instanceMethod yX0_down : Cond) ∈ TBG := List.mem_filter.mpr ⟨List.mem_append_right _ (List.mem_append_left _ (List.mem_of_getElem? (l := tables_1_1) (i := 224) rfl)), rfl⟩
theorem tb_225 : (.selects RX0 yX0_down yX0_down : Cond) ∈ TBG := List.mem_filter.mpr ⟨List.mem_append_right _ (List.mem_append_left _ (List.mem_of_getElem? (l := tables_1_1) (i := 225) rfl)), rfl⟩
theorem tb_226 : (.code yX0_down cX0_down 1 (some .boolean) : Cond) ∈ TBG := List.mem_filter.mpr ⟨List.mem_append_right _ (List.mem_append_left _ (List.mem_of_getElem? (l := tables_1_1) (i := 226) rfl)), rfl⟩
theorem tb_227 : (.methodLink RL 79 yX0_recover : Cond) ∈ TBG := List.mem_filter.mpr ⟨List.mem_append_right _ (List.mem_append_left _ (List.mem_of_getElem? (l := tables_1_1) (i := 227) rfl)), rfl⟩
theorem tb_228 : (.instanceMethod yX0_recover : Cond) ∈ TBG := List.mem_filter.mpr ⟨List.mem_append_right _ (List.mem_append_left _ (List.mem_of_getElem? (l := tables_1_1) (i := 228) rfl)), rfl⟩
theorem tb_229 : (.selects RX0 yX0_recover yX0_recover : Cond) ∈ TBG := List.mem_filter.mpr ⟨List.mem_append_right _ (List.mem_append_left _ (List.mem_of_getElem? (l := tables_1_1) (i := 229) rfl)), rfl⟩
theorem tb_230 : (.code yX0_recover cX0_recover 1 (some .int) : Cond) ∈ TBG := List.mem_filter.mpr ⟨List.mem_append_right _ (List.mem_append_left _ (List.mem_of_getElem? (l := tables_1_1) (i := 230) rfl)), rfl⟩
theorem tb_233 : (.instanceMethod yX1_restorePower : Cond) ∈ TBG := List.mem_filter.mpr ⟨List.mem_append_right _ (List.mem_append_left _ (List.mem_of_getElem? (l := tables_1_1) (i := 233) rfl)), rfl⟩
theorem tb_234 : (.code yX1_restorePower cX1_restorePower 1 none : Cond) ∈ TBG := List.mem_filter.mpr ⟨List.mem_append_right _ (List.mem_append_left _ (List.mem_of_getElem? (l := tables_1_1) (i := 234) rfl)), rfl⟩
theorem tb_235 : (.methodLink RL 83 yX0_writes : Cond) ∈ TBG := List.mem_filter.mpr ⟨List.mem_append_right _ (List.mem_append_left _ (List.mem_of_getElem? (l := tables_1_1) (i := 235) rfl)), rfl⟩
theorem tb_236 : (.instanceMethod yX0_writes : Cond) ∈ TBG := List.mem_filter.mpr ⟨List.mem_append_right _ (List.mem_append_left _ (List.mem_of_getElem? (l := tables_1_1) (i := 236) rfl)), rfl⟩
theorem tb_237 : (.selects RX0 yX0_writes yX0_writes : Cond) ∈ TBG := List.mem_filter.mpr ⟨List.mem_append_right _ (List.mem_append_left _ (List.mem_of_getElem? (l := tables_1_1) (i := 237) rfl)), rfl⟩
theorem tb_238 : (.code yX0_writes cX0_writes 1 (some .int) : Cond) ∈ TBG := List.mem_filter.mpr ⟨List.mem_append_right _ (List.mem_append_left _ (List.mem_of_getElem? (l := tables_1_1) (i := 238) rfl)), rfl⟩
theorem tb_241 : (.instanceMethod yX1_writesDone : Cond) ∈ TBG := List.mem_filter.mpr ⟨List.mem_append_right _ (List.mem_append_right _ (List.mem_of_getElem? (l := tables_1_2) (i := 1) rfl)), rfl⟩
theorem tb_242 : (.code yX1_writesDone cX1_writesDone 1 (some .int) : Cond) ∈ TBG := List.mem_filter.mpr ⟨List.mem_append_right _ (List.mem_append_right _ (List.mem_of_getElem? (l := tables_1_2) (i := 2) rfl)), rfl⟩
theorem tb_243 : (.methodLink RL 9 yL_cell : Cond) ∈ TBG := List.mem_filter.mpr ⟨List.mem_append_right _ (List.mem_append_right _ (List.mem_of_getElem? (l := tables_1_2) (i := 3) rfl)), rfl⟩
theorem tb_244 : (.static yL_cell : Cond) ∈ TBG := List.mem_filter.mpr ⟨List.mem_append_right _ (List.mem_append_right _ (List.mem_of_getElem? (l := tables_1_2) (i := 4) rfl)), rfl⟩
theorem tb_245 : (.code yL_cell cL_cell 2 (some .int) : Cond) ∈ TBG := List.mem_filter.mpr ⟨List.mem_append_right _ (List.mem_append_right _ (List.mem_of_getElem? (l := tables_1_2) (i := 5) rfl)), rfl⟩
theorem tb_246 : (.classLink RL 18 RX2 : Cond) ∈ TBG := List.mem_filter.mpr ⟨List.mem_append_right _ (List.mem_append_right _ (List.mem_of_getElem? (l := tables_1_2) (i := 6) rfl)), rfl⟩
theorem tb_247 : (.instantiable RX2 13 : Cond) ∈ TBG := List.mem_filter.mpr ⟨List.mem_append_right _ (List.mem_append_right _ (List.mem_of_getElem? (l := tables_1_2) (i := 7) rfl)), rfl⟩
theorem tb_248 : (.methodLink RL 20 yX2_init : Cond) ∈ TBG := List.mem_filter.mpr ⟨List.mem_append_right _ (List.mem_append_right _ (List.mem_of_getElem? (l := tables_1_2) (i := 8) rfl)), rfl⟩
theorem tb_249 : (.instanceMethod yX2_init : Cond) ∈ TBG := List.mem_filter.mpr ⟨List.mem_append_right _ (List.mem_append_right _ (List.mem_of_getElem? (l := tables_1_2) (i := 9) rfl)), rfl⟩
theorem tb_250 : (.code yX2_init cX2_init 5 none : Cond) ∈ TBG := List.mem_filter.mpr ⟨List.mem_append_right _ (List.mem_append_right _ (List.mem_of_getElem? (l := tables_1_2) (i := 10) rfl)), rfl⟩
theorem tb_251 : (.methodLink RX2 1 objectInit : Cond) ∈ TBG := List.mem_filter.mpr ⟨List.mem_append_right _ (List.mem_append_right _ (List.mem_of_getElem? (l := tables_1_2) (i := 11) rfl)), rfl⟩
theorem tb_252 : (.methodLink RX2 22 yX2_cut : Cond) ∈ TBG := List.mem_filter.mpr ⟨List.mem_append_right _ (List.mem_append_right _ (List.mem_of_getElem? (l := tables_1_2) (i := 12) rfl)), rfl⟩
theorem tb_253 : (.static yX2_cut : Cond) ∈ TBG := List.mem_filter.mpr ⟨List.mem_append_right _ (List.mem_append_right _ (List.mem_of_getElem? (l := tables_1_2) (i := 13) rfl)), rfl⟩
theorem tb_254 : (.code yX2_cut cX2_cut 2 (some .int) : Cond) ∈ TBG := List.mem_filter.mpr ⟨List.mem_append_right _ (List.mem_append_right _ (List.mem_of_getElem? (l := tables_1_2) (i := 14) rfl)), rfl⟩
theorem tb_255 : (.fieldLink RX2 26 "SharedVolumesModel" "words" "I" : Cond) ∈ TBG := List.mem_filter.mpr ⟨List.mem_append_right _ (List.mem_append_right _ (List.mem_of_getElem? (l := tables_1_2) (i := 15) rfl)), rfl⟩
theorem tb_256 : (.fieldLink RX2 30 "SharedVolumesModel" "chunks" "I" : Cond) ∈ TBG := List.mem_filter.mpr ⟨List.mem_append_right _ (List.mem_append_right _ (List.mem_of_getElem? (l := tables_1_2) (i := 16) rfl)), rfl⟩
theorem tb_257 : (.fieldLink RX2 33 "SharedVolumesModel" "volumes" "I" : Cond) ∈ TBG := List.mem_filter.mpr ⟨List.mem_append_right _ (List.mem_append_right _ (List.mem_of_getElem? (l := tables_1_2) (i := 17) rfl)), rfl⟩
theorem tb_258 : (.fieldLink RX2 36 "SharedVolumesModel" "blocks" "I" : Cond) ∈ TBG := List.mem_filter.mpr ⟨List.mem_append_right _ (List.mem_append_right _ (List.mem_of_getElem? (l := tables_1_2) (i := 18) rfl)), rfl⟩
theorem tb_259 : (.fieldLink RX2 7 "SharedVolumesModel" "map" "[I" : Cond) ∈ TBG := List.mem_filter.mpr ⟨List.mem_append_right _ (List.mem_append_right _ (List.mem_of_getElem? (l := tables_1_2) (i := 19) rfl)), rfl⟩
theorem tb_260 : (.fieldLink RX2 13 "SharedVolumesModel" "wanted" "[I" : Cond) ∈ TBG := List.mem_filter.mpr ⟨List.mem_append_right _ (List.mem_append_right _ (List.mem_of_getElem? (l := tables_1_2) (i := 20) rfl)), rfl⟩
theorem tb_261 : (.fieldLink RX2 16 "SharedVolumesModel" "slots" "[I" : Cond) ∈ TBG := List.mem_filter.mpr ⟨List.mem_append_right _ (List.mem_append_right _ (List.mem_of_getElem? (l := tables_1_2) (i := 21) rfl)), rfl⟩
theorem tb_262 : (.fieldLink RX2 19 "SharedVolumesModel" "staged" "[I" : Cond) ∈ TBG := List.mem_filter.mpr ⟨List.mem_append_right _ (List.mem_append_right _ (List.mem_of_getElem? (l := tables_1_2) (i := 22) rfl)), rfl⟩
theorem tb_263 : (.fieldLink RX2 52 "SharedVolumesModel" "happened" "I" : Cond) ∈ TBG := List.mem_filter.mpr ⟨List.mem_append_right _ (List.mem_append_right _ (List.mem_of_getElem? (l := tables_1_2) (i := 23) rfl)), rfl⟩
theorem tb_264 : (.fieldLink RX2 46 "SharedVolumesModel" "armed" "I" : Cond) ∈ TBG := List.mem_filter.mpr ⟨List.mem_append_right _ (List.mem_append_right _ (List.mem_of_getElem? (l := tables_1_2) (i := 24) rfl)), rfl⟩
theorem tb_265 : (.fieldLink RX2 92 "SharedVolumesModel" "arms" "I" : Cond) ∈ TBG := List.mem_filter.mpr ⟨List.mem_append_right _ (List.mem_append_right _ (List.mem_of_getElem? (l := tables_1_2) (i := 25) rfl)), rfl⟩
theorem tb_266 : (.fieldLink RX2 42 "SharedVolumesModel" "down" "Z" : Cond) ∈ TBG := List.mem_filter.mpr ⟨List.mem_append_right _ (List.mem_append_right _ (List.mem_of_getElem? (l := tables_1_2) (i := 26) rfl)), rfl⟩
theorem tb_267 : (.fieldLink RX2 49 "SharedVolumesModel" "redo" "I" : Cond) ∈ TBG := List.mem_filter.mpr ⟨List.mem_append_right _ (List.mem_append_right _ (List.mem_of_getElem? (l := tables_1_2) (i := 27) rfl)), rfl⟩
theorem tb_295 : (.methodLink RL 25 yX2_format : Cond) ∈ TBG := List.mem_filter.mpr ⟨List.mem_append_right _ (List.mem_append_right _ (List.mem_of_getElem? (l := tables_1_2) (i := 55) rfl)), rfl⟩
theorem tb_296 : (.instanceMethod yX2_format : Cond) ∈ TBG := List.mem_filter.mpr ⟨List.mem_append_right _ (List.mem_append_right _ (List.mem_of_getElem? (l := tables_1_2) (i := 56) rfl)), rfl⟩
theorem tb_297 : (.selects RX2 yX2_format yX2_format : Cond) ∈ TBG := List.mem_filter.mpr ⟨List.mem_append_right _ (List.mem_append_right _ (List.mem_of_getElem? (l := tables_1_2) (i := 57) rfl)), rfl⟩
theorem tb_298 : (.code yX2_format cX2_format 2 (some .int) : Cond) ∈ TBG := List.mem_filter.mpr ⟨List.mem_append_right _ (List.mem_append_right _ (List.mem_of_getElem? (l := tables_1_2) (i := 58) rfl)), rfl⟩
theorem tb_299 : (.methodLink RX2 39 yX2_clearStage : Cond) ∈ TBG := List.mem_filter.mpr ⟨List.mem_append_right _ (List.mem_append_right _ (List.mem_of_getElem? (l := tables_1_2) (i := 59) rfl)), rfl⟩
theorem tb_301 : (.instanceMethod yX2_clearStage : Cond) ∈ TBG := List.mem_filter.mpr ⟨List.mem_append_right _ (List.mem_append_right _ (List.mem_of_getElem? (l := tables_1_2) (i := 61) rfl)), rfl⟩
theorem tb_302 : (.code yX2_clearStage cX2_clearStage 2 none : Cond) ∈ TBG := List.mem_filter.mpr ⟨List.mem_append_right _ (List.mem_append_right _ (List.mem_of_getElem? (l := tables_1_2) (i := 62) rfl)), rfl⟩
theorem tb_303 : (.methodLink RL 30 yX2_stageWord : Cond) ∈ TBG := List.mem_filter.mpr ⟨List.mem_append_right _ (List.mem_append_right _ (List.mem_of_getElem? (l := tables_1_2) (i := 63) rfl)), rfl⟩
theorem tb_304 : (.instanceMethod yX2_stageWord : Cond) ∈ TBG := List.mem_filter.mpr ⟨List.mem_append_right _ (List.mem_append_right _ (List.mem_of_getElem? (l := tables_1_2) (i := 64) rfl)), rfl⟩
theorem tb_305 : (.selects RX2 yX2_stageWord yX2_stageWord : Cond) ∈ TBG := List.mem_filter.mpr ⟨List.mem_append_right _ (List.mem_append_right _ (List.mem_of_getElem? (l := tables_1_2) (i := 65) rfl)), rfl⟩
theorem tb_306 : (.code yX2_stageWord cX2_stageWord 3 (some .int) : Cond) ∈ TBG := List.mem_filter.mpr ⟨List.mem_append_right _ (List.mem_append_right _ (List.mem_of_getElem? (l := tables_1_2) (i := 66) rfl)), rfl⟩
theorem tb_307 : (.methodLink RX2 69 yX2_isWord : Cond) ∈ TBG := List.mem_filter.mpr ⟨List.mem_append_right _ (List.mem_append_right _ (List.mem_of_getElem? (l := tables_1_2) (i := 67) rfl)), rfl⟩
theorem tb_309 : (.instanceMethod yX2_isWord : Cond) ∈ TBG := List.mem_filter.mpr ⟨List.mem_append_right _ (List.mem_append_right _ (List.mem_of_getElem? (l := tables_1_2) (i := 69) rfl)), rfl⟩
theorem tb_310 : (.code yX2_isWord cX2_isWord 2 (some .boolean) : Cond) ∈ TBG := List.mem_filter.mpr ⟨List.mem_append_right _ (List.mem_append_right _ (List.mem_of_getElem? (l := tables_1_2) (i := 70) rfl)), rfl⟩
theorem tb_311 : (.methodLink RL 34 yX2_writeBlock : Cond) ∈ TBG := List.mem_filter.mpr ⟨List.mem_append_right _ (List.mem_append_right _ (List.mem_of_getElem? (l := tables_1_2) (i := 71) rfl)), rfl⟩
theorem tb_312 : (.instanceMethod yX2_writeBlock : Cond) ∈ TBG := List.mem_filter.mpr ⟨List.mem_append_right _ (List.mem_append_right _ (List.mem_of_getElem? (l := tables_1_2) (i := 72) rfl)), rfl⟩
theorem tb_313 : (.selects RX2 yX2_writeBlock yX2_writeBlock : Cond) ∈ TBG := List.mem_filter.mpr ⟨List.mem_append_right _ (List.mem_append_right _ (List.mem_of_getElem? (l := tables_1_2) (i := 73) rfl)), rfl⟩
theorem tb_314 : (.code yX2_writeBlock cX2_writeBlock 8 (some .int) : Cond) ∈ TBG := List.mem_filter.mpr ⟨List.mem_append_right _ (List.mem_append_right _ (List.mem_of_getElem? (l := tables_1_2) (i := 74) rfl)), rfl⟩
theorem tb_315 : (.methodLink RX2 72 yX2_block : Cond) ∈ TBG := List.mem_filter.mpr ⟨List.mem_append_right _ (List.mem_append_right _ (List.mem_of_getElem? (l := tables_1_2) (i := 75) rfl)), rfl⟩
theorem tb_317 : (.instanceMethod yX2_block : Cond) ∈ TBG := List.mem_filter.mpr ⟨List.mem_append_right _ (List.mem_append_right _ (List.mem_of_getElem? (l := tables_1_2) (i := 77) rfl)), rfl⟩
theorem tb_318 : (.code yX2_block cX2_block 3 (some .boolean) : Cond) ∈ TBG := List.mem_filter.mpr ⟨List.mem_append_right _ (List.mem_append_right _ (List.mem_of_getElem? (l := tables_1_2) (i := 78) rfl)), rfl⟩
theorem tb_319 : (.methodLink RX2 59 yX2_volume : Cond) ∈ TBG := List.mem_filter.mpr ⟨List.mem_append_right _ (List.mem_append_right _ (List.mem_of_getElem? (l := tables_1_2) (i := 79) rfl)), rfl⟩
theorem tb_321 : (.instanceMethod yX2_volume : Cond) ∈ TBG := List.mem_filter.mpr ⟨List.mem_append_right _ (List.mem_append_right _ (List.mem_of_getElem? (l := tables_1_2) (i := 81) rfl)), rfl⟩
theorem tb_322 : (.code yX2_volume cX2_volume 2 (some .boolean) : Cond) ∈ TBG := List.mem_filter.mpr ⟨List.mem_append_right _ (List.mem_append_right _ (List.mem_of_getElem? (l := tables_1_2) (i := 82) rfl)), rfl⟩
theorem tb_323 : (.methodLink RX2 76 yX2_sharing : Cond) ∈ TBG := List.mem_filter.mpr ⟨List.mem_append_right _ (List.mem_append_right _ (List.mem_of_getElem? (l := tables_1_2) (i := 83) rfl)), rfl⟩
theorem tb_325 : (.instanceMethod yX2_sharing : Cond) ∈ TBG := List.mem_filter.mpr ⟨List.mem_append_right _ (List.mem_append_right _ (List.mem_of_getElem? (l := tables_1_2) (i := 85) rfl)), rfl⟩
theorem tb_326 : (.code yX2_sharing cX2_sharing 3 (some .int) : Cond) ∈ TBG := List.mem_filter.mpr ⟨List.mem_append_right _ (List.mem_append_right _ (List.mem_of_getElem? (l := tables_1_2) (i := 86) rfl)), rfl⟩
theorem tb_327 : (.methodLink RX2 63 yX2_refs : Cond) ∈ TBG := List.mem_filter.mpr ⟨List.mem_append_right _ (List.mem_append_right _ (List.mem_of_getElem? (l := tables_1_2) (i := 87) rfl)), rfl⟩
theorem tb_329 : (.instanceMethod yX2_refs : Cond) ∈ TBG := List.mem_filter.mpr ⟨List.mem_append_right _ (List.mem_append_right _ (List.mem_of_getElem? (l := tables_1_2) (i := 89) rfl)), rfl⟩
theorem tb_330 : (.code yX2_refs cX2_refs 4 (some .int) : Cond) ∈ TBG := List.mem_filter.mpr ⟨List.mem_append_right _ (List.mem_append_right _ (List.mem_of_getElem? (l := tables_1_2) (i := 90) rfl)), rfl⟩
theorem tb_331 : (.methodLink RX2 66 yX2_hasStaged : Cond) ∈ TBG := List.mem_filter.mpr ⟨List.mem_append_right _ (List.mem_append_right _ (List.mem_of_getElem? (l := tables_1_2) (i := 91) rfl)), rfl⟩
theorem tb_333 : (.instanceMethod yX2_hasStaged : Cond) ∈ TBG := List.mem_filter.mpr ⟨List.mem_append_right _ (List.mem_append_right _ (List.mem_of_getElem? (l := tables_1_2) (i := 93) rfl)), rfl⟩
theorem tb_334 : (.code yX2_hasStaged cX2_hasStaged 4 (some .boolean) : Cond) ∈ TBG := List.mem_filter.mpr ⟨List.mem_append_right _ (List.mem_append_right _ (List.mem_of_getElem? (l := tables_1_2) (i := 94) rfl)), rfl⟩
theorem tb_335 : (.methodLink RX2 80 yX2_used : Cond) ∈ TBG := List.mem_filter.mpr ⟨List.mem_append_right _ (List.mem_append_right _ (List.mem_of_getElem? (l := tables_1_2) (i := 95) rfl)), rfl⟩
theorem tb_337 : (.instanceMethod yX2_used : Cond) ∈ TBG := List.mem_filter.mpr ⟨List.mem_append_right _ (List.mem_append_right _ (List.mem_of_getElem? (l := tables_1_2) (i := 97) rfl)), rfl⟩
theorem tb_338 : (.code yX2_used cX2_used 3 (some .int) : Cond) ∈ TBG := List.mem_filter.mpr ⟨List.mem_append_right _ (List.mem_append_right _ (List.mem_of_getElem? (l := tables_1_2) (i := 98) rfl)), rfl⟩
theorem tb_339 : (.methodLink RX2 83 yX2_lowestUnused : Cond) ∈ TBG := List.mem_filter.mpr ⟨List.mem_append_right _ (List.mem_append_right _ (List.mem_of_getElem? (l := tables_1_2) (i := 99) rfl)), rfl⟩
theorem tb_341 : (.instanceMethod yX2_lowestUnused : Cond) ∈ TBG := List.mem_filter.mpr ⟨List.mem_append_right _ (List.mem_append_right _ (List.mem_of_getElem? (l := tables_1_2) (i := 101) rfl)), rfl⟩
theorem tb_342 : (.code yX2_lowestUnused cX2_lowestUnused 2 (some .int) : Cond) ∈ TBG := List.mem_filter.mpr ⟨List.mem_append_right _ (List.mem_append_right _ (List.mem_of_getElem? (l := tables_1_2) (i := 102) rfl)), rfl⟩
theorem tb_343 : (.methodLink RX2 55 yX2_spend : Cond) ∈ TBG := List.mem_filter.mpr ⟨List.mem_append_right _ (List.mem_append_right _ (List.mem_of_getElem? (l := tables_1_2) (i := 103) rfl)), rfl⟩
theorem tb_345 : (.instanceMethod yX2_spend : Cond) ∈ TBG := List.mem_filter.mpr ⟨List.mem_append_right _ (List.mem_append_right _ (List.mem_of_getElem? (l := tables_1_2) (i := 105) rfl)), rfl⟩
theorem tb_346 : (.code yX2_spend cX2_spend 3 (some .int) : Cond) ∈ TBG := List.mem_filter.mpr ⟨List.mem_append_right _ (List.mem_append_right _ (List.mem_of_getElem? (l := tables_1_2) (i := 106) rfl)), rfl⟩
theorem tb_347 : (.methodLink RX2 86 yX2_wantAsIs : Cond) ∈ TBG := List.mem_filter.mpr ⟨List.mem_append_right _ (List.mem_append_right _ (List.mem_of_getElem? (l := tables_1_2) (i := 107) rfl)), rfl⟩
theorem tb_349 : (.instanceMethod yX2_wantAsIs : Cond) ∈ TBG := List.mem_filter.mpr ⟨List.mem_append_right _ (List.mem_append_right _ (List.mem_of_getElem? (l := tables_1_2) (i := 109) rfl)), rfl⟩
theorem tb_350 : (.code yX2_wantAsIs cX2_wantAsIs 2 none : Cond) ∈ TBG := List.mem_filter.mpr ⟨List.mem_append_right _ (List.mem_append_right _ (List.mem_of_getElem? (l := tables_1_2) (i := 110) rfl)), rfl⟩
theorem tb_351 : (.methodLink RX2 89 yX2_change : Cond) ∈ TBG := List.mem_filter.mpr ⟨List.mem_append_right _ (List.mem_append_right _ (List.mem_of_getElem? (l := tables_1_2) (i := 111) rfl)), rfl⟩
theorem tb_353 : (.instanceMethod yX2_change : Cond) ∈ TBG := List.mem_filter.mpr ⟨List.mem_append_right _ (List.mem_append_right _ (List.mem_of_getElem? (l := tables_1_2) (i := 113) rfl)), rfl⟩
theorem tb_354 : (.code yX2_change cX2_change 4 (some .int) : Cond) ∈ TBG := List.mem_filter.mpr ⟨List.mem_append_right _ (List.mem_append_right _ (List.mem_of_getElem? (l := tables_1_2) (i := 114) rfl)), rfl⟩
theorem tb_355 : (.methodLink RL 39 yX2_readWord : Cond) ∈ TBG := List.mem_filter.mpr ⟨List.mem_append_right _ (List.mem_append_right _ (List.mem_of_getElem? (l := tables_1_2) (i := 115) rfl)), rfl⟩
theorem tb_356 : (.instanceMethod yX2_readWord : Cond) ∈ TBG := List.mem_filter.mpr ⟨List.mem_append_right _ (List.mem_append_right _ (List.mem_of_getElem? (l := tables_1_2) (i := 116) rfl)), rfl⟩
theorem tb_357 : (.selects RX2 yX2_readWord yX2_readWord : Cond) ∈ TBG := List.mem_filter.mpr ⟨List.mem_append_right _ (List.mem_append_right _ (List.mem_of_getElem? (l := tables_1_2) (i := 117) rfl)), rfl⟩
theorem tb_358 : (.code yX2_readWord cX2_readWord 4 (some .int) : Cond) ∈ TBG := List.mem_filter.mpr ⟨List.mem_append_right _ (List.mem_append_right _ (List.mem_of_getElem? (l := tables_1_2) (i := 118) rfl)), rfl⟩
theorem tb_359 : (.methodLink RL 43 yX2_trim : Cond) ∈ TBG := List.mem_filter.mpr ⟨List.mem_append_right _ (List.mem_append_right _ (List.mem_of_getElem? (l := tables_1_2) (i := 119) rfl)), rfl⟩
theorem tb_360 : (.instanceMethod yX2_trim : Cond) ∈ TBG := List.mem_filter.mpr ⟨List.mem_append_right _ (List.mem_append_right _ (List.mem_of_getElem? (l := tables_1_2) (i := 120) rfl)), rfl⟩
theorem tb_361 : (.selects RX2 yX2_trim yX2_trim : Cond) ∈ TBG := List.mem_filter.mpr ⟨List.mem_append_right _ (List.mem_append_right _ (List.mem_of_getElem? (l := tables_1_2) (i := 121) rfl)), rfl⟩
theorem tb_362 : (.code yX2_trim cX2_trim 3 (some .int) : Cond) ∈ TBG := List.mem_filter.mpr ⟨List.mem_append_right _ (List.mem_append_right _ (List.mem_of_getElem? (l := tables_1_2) (i := 122) rfl)), rfl⟩
theorem tb_363 : (.methodLink RL 47 yX2_cloneVol : Cond) ∈ TBG := List.mem_filter.mpr ⟨List.mem_append_right _ (List.mem_append_right _ (List.mem_of_getElem? (l := tables_1_2) (i := 123) rfl)), rfl⟩
theorem tb_364 : (.instanceMethod yX2_cloneVol : Cond) ∈ TBG := List.mem_filter.mpr ⟨List.mem_append_right _ (List.mem_append_right _ (List.mem_of_getElem? (l := tables_1_2) (i := 124) rfl)), rfl⟩
theorem tb_365 : (.selects RX2 yX2_cloneVol yX2_cloneVol : Cond) ∈ TBG := List.mem_filter.mpr ⟨List.mem_append_right _ (List.mem_append_right _ (List.mem_of_getElem? (l := tables_1_2) (i := 125) rfl)), rfl⟩
theorem tb_366 : (.code yX2_cloneVol cX2_cloneVol 4 (some .int) : Cond) ∈ TBG := List.mem_filter.mpr ⟨List.mem_append_right _ (List.mem_append_right _ (List.mem_of_getElem? (l := tables_1_2) (i := 126) rfl)), rfl⟩
theorem tb_367 : (.methodLink RL 52 yX2_dropVol : Cond) ∈ TBG := List.mem_filter.mpr ⟨List.mem_append_right _ (List.mem_append_right _ (List.mem_of_getElem? (l := tables_1_2) (i := 127) rfl)), rfl⟩
theorem tb_368 : (.instanceMethod yX2_dropVol : Cond) ∈ TBG := List.mem_filter.mpr ⟨List.mem_append_right _ (List.mem_append_right _ (List.mem_of_getElem? (l := tables_1_2) (i := 128) rfl)), rfl⟩
theorem tb_369 : (.selects RX2 yX2_dropVol yX2_dropVol : Cond) ∈ TBG := List.mem_filter.mpr ⟨List.mem_append_right _ (List.mem_append_right _ (List.mem_of_getElem? (l := tables_1_2) (i := 129) rfl)), rfl⟩
theorem tb_370 : (.code yX2_dropVol cX2_dropVol 3 (some .int) : Cond) ∈ TBG := List.mem_filter.mpr ⟨List.mem_append_right _ (List.mem_append_right _ (List.mem_of_getElem? (l := tables_1_2) (i := 130) rfl)), rfl⟩
theorem tb_371 : (.methodLink RL 56 yX2_chunksUsed : Cond) ∈ TBG := List.mem_filter.mpr ⟨List.mem_append_right _ (List.mem_append_right _ (List.mem_of_getElem? (l := tables_1_2) (i := 131) rfl)), rfl⟩
theorem tb_372 : (.instanceMethod yX2_chunksUsed : Cond) ∈ TBG := List.mem_filter.mpr ⟨List.mem_append_right _ (List.mem_append_right _ (List.mem_of_getElem? (l := tables_1_2) (i := 132) rfl)), rfl⟩
theorem tb_373 : (.selects RX2 yX2_chunksUsed yX2_chunksUsed : Cond) ∈ TBG := List.mem_filter.mpr ⟨List.mem_append_right _ (List.mem_append_right _ (List.mem_of_getElem? (l := tables_1_2) (i := 133) rfl)), rfl⟩
theorem tb_374 : (.code yX2_chunksUsed cX2_chunksUsed 1 (some .int) : Cond) ∈ TBG := List.mem_filter.mpr ⟨List.mem_append_right _ (List.mem_append_right _ (List.mem_of_getElem? (l := tables_1_2) (i := 134) rfl)), rfl⟩
theorem tb_375 : (.methodLink RL 60 yX2_refsOf : Cond) ∈ TBG := List.mem_filter.mpr ⟨List.mem_append_right _ (List.mem_append_right _ (List.mem_of_getElem? (l := tables_1_2) (i := 135) rfl)), rfl⟩
theorem tb_376 : (.instanceMethod yX2_refsOf : Cond) ∈ TBG := List.mem_filter.mpr ⟨List.mem_append_right _ (List.mem_append_right _ (List.mem_of_getElem? (l := tables_1_2) (i := 136) rfl)), rfl⟩
theorem tb_377 : (.selects RX2 yX2_refsOf yX2_refsOf : Cond) ∈ TBG := List.mem_filter.mpr ⟨List.mem_append_right _ (List.mem_append_right _ (List.mem_of_getElem? (l := tables_1_2) (i := 137) rfl)), rfl⟩
theorem tb_378 : (.code yX2_refsOf cX2_refsOf 3 (some .int) : Cond) ∈ TBG := List.mem_filter.mpr ⟨List.mem_append_right _ (List.mem_append_right _ (List.mem_of_getElem? (l := tables_1_2) (i := 138) rfl)), rfl⟩
theorem tb_379 : (.methodLink RL 64 yX2_slotOf : Cond) ∈ TBG := List.mem_filter.mpr ⟨List.mem_append_right _ (List.mem_append_right _ (List.mem_of_getElem? (l := tables_1_2) (i := 139) rfl)), rfl⟩
theorem tb_380 : (.instanceMethod yX2_slotOf : Cond) ∈ TBG := List.mem_filter.mpr ⟨List.mem_append_right _ (List.mem_append_right _ (List.mem_of_getElem? (l := tables_1_2) (i := 140) rfl)), rfl⟩
theorem tb_381 : (.selects RX2 yX2_slotOf yX2_slotOf : Cond) ∈ TBG := List.mem_filter.mpr ⟨List.mem_append_right _ (List.mem_append_right _ (List.mem_of_getElem? (l := tables_1_2) (i := 141) rfl)), rfl⟩
theorem tb_382 : (.code yX2_slotOf cX2_slotOf 3 (some .int) : Cond) ∈ TBG := List.mem_filter.mpr ⟨List.mem_append_right _ (List.mem_append_right _ (List.mem_of_getElem? (l := tables_1_2) (i := 142) rfl)), rfl⟩
theorem tb_383 : (.methodLink RL 68 yX2_slotWord : Cond) ∈ TBG := List.mem_filter.mpr ⟨List.mem_append_right _ (List.mem_append_right _ (List.mem_of_getElem? (l := tables_1_2) (i := 143) rfl)), rfl⟩
theorem tb_384 : (.instanceMethod yX2_slotWord : Cond) ∈ TBG := List.mem_filter.mpr ⟨List.mem_append_right _ (List.mem_append_right _ (List.mem_of_getElem? (l := tables_1_2) (i := 144) rfl)), rfl⟩
theorem tb_385 : (.selects RX2 yX2_slotWord yX2_slotWord : Cond) ∈ TBG := List.mem_filter.mpr ⟨List.mem_append_right _ (List.mem_append_right _ (List.mem_of_getElem? (l := tables_1_2) (i := 145) rfl)), rfl⟩
theorem tb_386 : (.code yX2_slotWord cX2_slotWord 3 (some .int) : Cond) ∈ TBG := List.mem_filter.mpr ⟨List.mem_append_right _ (List.mem_append_right _ (List.mem_of_getElem? (l := tables_1_2) (i := 146) rfl)), rfl⟩
theorem tb_387 : (.methodLink RL 73 yX2_crashAfter : Cond) ∈ TBG := List.mem_filter.mpr ⟨List.mem_append_right _ (List.mem_append_right _ (List.mem_of_getElem? (l := tables_1_2) (i := 147) rfl)), rfl⟩
theorem tb_388 : (.instanceMethod yX2_crashAfter : Cond) ∈ TBG := List.mem_filter.mpr ⟨List.mem_append_right _ (List.mem_append_right _ (List.mem_of_getElem? (l := tables_1_2) (i := 148) rfl)), rfl⟩
theorem tb_389 : (.selects RX2 yX2_crashAfter yX2_crashAfter : Cond) ∈ TBG := List.mem_filter.mpr ⟨List.mem_append_right _ (List.mem_append_right _ (List.mem_of_getElem? (l := tables_1_2) (i := 149) rfl)), rfl⟩
theorem tb_390 : (.code yX2_crashAfter cX2_crashAfter 2 none : Cond) ∈ TBG := List.mem_filter.mpr ⟨List.mem_append_right _ (List.mem_append_right _ (List.mem_of_getElem? (l := tables_1_2) (i := 150) rfl)), rfl⟩
theorem tb_391 : (.methodLink RL 78 yX2_down : Cond) ∈ TBG := List.mem_filter.mpr ⟨List.mem_append_right _ (List.mem_append_right _ (List.mem_of_getElem? (l := tables_1_2) (i := 151) rfl)), rfl⟩
theorem tb_392 : (.instanceMethod yX2_down : Cond) ∈ TBG := List.mem_filter.mpr ⟨List.mem_append_right _ (List.mem_append_right _ (List.mem_of_getElem? (l := tables_1_2) (i := 152) rfl)), rfl⟩
theorem tb_393 : (.selects RX2 yX2_down yX2_down : Cond) ∈ TBG := List.mem_filter.mpr ⟨List.mem_append_right _ (List.mem_append_right _ (List.mem_of_getElem? (l := tables_1_2) (i := 153) rfl)), rfl⟩
theorem tb_394 : (.code yX2_down cX2_down 1 (some .boolean) : Cond) ∈ TBG := List.mem_filter.mpr ⟨List.mem_append_right _ (List.mem_append_right _ (List.mem_of_getElem? (l := tables_1_2) (i := 154) rfl)), rfl⟩
theorem tb_395 : (.methodLink RL 82 yX2_recover : Cond) ∈ TBG := List.mem_filter.mpr ⟨List.mem_append_right _ (List.mem_append_right _ (List.mem_of_getElem? (l := tables_1_2) (i := 155) rfl)), rfl⟩
theorem tb_396 : (.instanceMethod yX2_recover : Cond) ∈ TBG := List.mem_filter.mpr ⟨List.mem_append_right _ (List.mem_append_right _ (List.mem_of_getElem? (l := tables_1_2) (i := 156) rfl)), rfl⟩
theorem tb_397 : (.selects RX2 yX2_recover yX2_recover : Cond) ∈ TBG := List.mem_filter.mpr ⟨List.mem_append_right _ (List.mem_append_right _ (List.mem_of_getElem? (l := tables_1_2) (i := 157) rfl)), rfl⟩
theorem tb_398 : (.code yX2_recover cX2_recover 1 (some .int) : Cond) ∈ TBG := List.mem_filter.mpr ⟨List.mem_append_right _ (List.mem_append_right _ (List.mem_of_getElem? (l := tables_1_2) (i := 158) rfl)), rfl⟩
theorem tb_399 : (.methodLink RL 86 yX2_writes : Cond) ∈ TBG := List.mem_filter.mpr ⟨List.mem_append_right _ (List.mem_append_right _ (List.mem_of_getElem? (l := tables_1_2) (i := 159) rfl)), rfl⟩
theorem tb_400 : (.instanceMethod yX2_writes : Cond) ∈ TBG := List.mem_filter.mpr ⟨List.mem_append_right _ (List.mem_append_right _ (List.mem_of_getElem? (l := tables_1_2) (i := 160) rfl)), rfl⟩
theorem tb_401 : (.selects RX2 yX2_writes yX2_writes : Cond) ∈ TBG := List.mem_filter.mpr ⟨List.mem_append_right _ (List.mem_append_right _ (List.mem_of_getElem? (l := tables_1_2) (i := 161) rfl)), rfl⟩
theorem tb_402 : (.code yX2_writes cX2_writes 1 (some .int) : Cond) ∈ TBG := List.mem_filter.mpr ⟨List.mem_append_right _ (List.mem_append_right _ (List.mem_of_getElem? (l := tables_1_2) (i := 162) rfl)), rfl⟩
theorem ts_0 : (.selects RX1 yX1_wipe yX1_wipe : Cond) ∈ TBG := List.mem_filter.mpr ⟨List.mem_append_left _ (List.mem_of_getElem? (l := k2_sels lw_privs) (i := 0) rfl), rfl⟩
theorem ts_1 : (.selects RX0 yX0_clearStaged yX0_clearStaged : Cond) ∈ TBG := List.mem_filter.mpr ⟨List.mem_append_left _ (List.mem_of_getElem? (l := k2_sels lw_privs) (i := 1) rfl), rfl⟩
theorem ts_2 : (.selects RX1 yX1_isDown yX1_isDown : Cond) ∈ TBG := List.mem_filter.mpr ⟨List.mem_append_left _ (List.mem_of_getElem? (l := k2_sels lw_privs) (i := 2) rfl), rfl⟩
theorem ts_3 : (.selects RX0 yX0_isWord yX0_isWord : Cond) ∈ TBG := List.mem_filter.mpr ⟨List.mem_append_left _ (List.mem_of_getElem? (l := k2_sels lw_privs) (i := 3) rfl), rfl⟩
theorem ts_4 : (.selects RX0 yX0_isBlock yX0_isBlock : Cond) ∈ TBG := List.mem_filter.mpr ⟨List.mem_append_left _ (List.mem_of_getElem? (l := k2_sels lw_privs) (i := 4) rfl), rfl⟩
theorem ts_5 : (.selects RX0 yX0_isVolume yX0_isVolume : Cond) ∈ TBG := List.mem_filter.mpr ⟨List.mem_append_left _ (List.mem_of_getElem? (l := k2_sels lw_privs) (i := 5) rfl), rfl⟩
theorem ts_6 : (.selects RX0 yX0_usedSlotWithStaged yX0_usedSlotWithStaged : Cond) ∈ TBG := List.mem_filter.mpr ⟨List.mem_append_left _ (List.mem_of_getElem? (l := k2_sels lw_privs) (i := 6) rfl), rfl⟩
theorem ts_7 : (.selects RX0 yX0_hasStagedWords yX0_hasStagedWords : Cond) ∈ TBG := List.mem_filter.mpr ⟨List.mem_append_left _ (List.mem_of_getElem? (l := k2_sels lw_privs) (i := 7) rfl), rfl⟩
theorem ts_8 : (.selects RX0 yX0_slotCell yX0_slotCell : Cond) ∈ TBG := List.mem_filter.mpr ⟨List.mem_append_left _ (List.mem_of_getElem? (l := k2_sels lw_privs) (i := 8) rfl), rfl⟩
theorem ts_9 : (.selects RX1 yX1_read yX1_read : Cond) ∈ TBG := List.mem_filter.mpr ⟨List.mem_append_left _ (List.mem_of_getElem? (l := k2_sels lw_privs) (i := 9) rfl), rfl⟩
theorem ts_10 : (.selects RX0 yX0_isUsed yX0_isUsed : Cond) ∈ TBG := List.mem_filter.mpr ⟨List.mem_append_left _ (List.mem_of_getElem? (l := k2_sels lw_privs) (i := 10) rfl), rfl⟩
theorem ts_11 : (.selects RX0 yX0_blocksMappedTo yX0_blocksMappedTo : Cond) ∈ TBG := List.mem_filter.mpr ⟨List.mem_append_left _ (List.mem_of_getElem? (l := k2_sels lw_privs) (i := 11) rfl), rfl⟩
theorem ts_12 : (.selects RX0 yX0_writeNewContents yX0_writeNewContents : Cond) ∈ TBG := List.mem_filter.mpr ⟨List.mem_append_left _ (List.mem_of_getElem? (l := k2_sels lw_privs) (i := 12) rfl), rfl⟩
theorem ts_13 : (.selects RX0 yX0_usedSlotsWithout yX0_usedSlotsWithout : Cond) ∈ TBG := List.mem_filter.mpr ⟨List.mem_append_left _ (List.mem_of_getElem? (l := k2_sels lw_privs) (i := 13) rfl), rfl⟩
theorem ts_14 : (.selects RX0 yX0_mappedSlot yX0_mappedSlot : Cond) ∈ TBG := List.mem_filter.mpr ⟨List.mem_append_left _ (List.mem_of_getElem? (l := k2_sels lw_privs) (i := 14) rfl), rfl⟩
theorem ts_15 : (.selects RX0 yX0_mapCell yX0_mapCell : Cond) ∈ TBG := List.mem_filter.mpr ⟨List.mem_append_left _ (List.mem_of_getElem? (l := k2_sels lw_privs) (i := 15) rfl), rfl⟩
theorem ts_16 : (.selects RX0 yX0_usedSlots yX0_usedSlots : Cond) ∈ TBG := List.mem_filter.mpr ⟨List.mem_append_left _ (List.mem_of_getElem? (l := k2_sels lw_privs) (i := 16) rfl), rfl⟩
theorem ts_17 : (.selects RX0 yX0_lowestUnusedSlot yX0_lowestUnusedSlot : Cond) ∈ TBG := List.mem_filter.mpr ⟨List.mem_append_left _ (List.mem_of_getElem? (l := k2_sels lw_privs) (i := 17) rfl), rfl⟩
theorem ts_18 : (.selects RX1 yX1_write yX1_write : Cond) ∈ TBG := List.mem_filter.mpr ⟨List.mem_append_left _ (List.mem_of_getElem? (l := k2_sels lw_privs) (i := 18) rfl), rfl⟩
theorem ts_19 : (.selects RX0 yX0_change yX0_change : Cond) ∈ TBG := List.mem_filter.mpr ⟨List.mem_append_left _ (List.mem_of_getElem? (l := k2_sels lw_privs) (i := 19) rfl), rfl⟩
theorem ts_20 : (.selects RX0 yX0_carryOutIntent yX0_carryOutIntent : Cond) ∈ TBG := List.mem_filter.mpr ⟨List.mem_append_left _ (List.mem_of_getElem? (l := k2_sels lw_privs) (i := 20) rfl), rfl⟩
theorem ts_21 : (.selects RX0 yX0_mapBlock yX0_mapBlock : Cond) ∈ TBG := List.mem_filter.mpr ⟨List.mem_append_left _ (List.mem_of_getElem? (l := k2_sels lw_privs) (i := 21) rfl), rfl⟩
theorem ts_22 : (.selects RX0 yX0_mapVolumeAs yX0_mapVolumeAs : Cond) ∈ TBG := List.mem_filter.mpr ⟨List.mem_append_left _ (List.mem_of_getElem? (l := k2_sels lw_privs) (i := 22) rfl), rfl⟩
theorem ts_23 : (.selects RX0 yX0_unmapVolume yX0_unmapVolume : Cond) ∈ TBG := List.mem_filter.mpr ⟨List.mem_append_left _ (List.mem_of_getElem? (l := k2_sels lw_privs) (i := 23) rfl), rfl⟩
theorem ts_24 : (.selects RX1 yX1_armLoss yX1_armLoss : Cond) ∈ TBG := List.mem_filter.mpr ⟨List.mem_append_left _ (List.mem_of_getElem? (l := k2_sels lw_privs) (i := 24) rfl), rfl⟩
theorem ts_25 : (.selects RX1 yX1_restorePower yX1_restorePower : Cond) ∈ TBG := List.mem_filter.mpr ⟨List.mem_append_left _ (List.mem_of_getElem? (l := k2_sels lw_privs) (i := 25) rfl), rfl⟩
theorem ts_26 : (.selects RX1 yX1_writesDone yX1_writesDone : Cond) ∈ TBG := List.mem_filter.mpr ⟨List.mem_append_left _ (List.mem_of_getElem? (l := k2_sels lw_privs) (i := 26) rfl), rfl⟩
theorem ts_27 : (.selects RX2 yX2_clearStage yX2_clearStage : Cond) ∈ TBG := List.mem_filter.mpr ⟨List.mem_append_left _ (List.mem_of_getElem? (l := k2_sels lw_privs) (i := 27) rfl), rfl⟩
theorem ts_28 : (.selects RX2 yX2_isWord yX2_isWord : Cond) ∈ TBG := List.mem_filter.mpr ⟨List.mem_append_left _ (List.mem_of_getElem? (l := k2_sels lw_privs) (i := 28) rfl), rfl⟩
theorem ts_29 : (.selects RX2 yX2_block yX2_block : Cond) ∈ TBG := List.mem_filter.mpr ⟨List.mem_append_left _ (List.mem_of_getElem? (l := k2_sels lw_privs) (i := 29) rfl), rfl⟩
theorem ts_30 : (.selects RX2 yX2_volume yX2_volume : Cond) ∈ TBG := List.mem_filter.mpr ⟨List.mem_append_left _ (List.mem_of_getElem? (l := k2_sels lw_privs) (i := 30) rfl), rfl⟩
theorem ts_31 : (.selects RX2 yX2_sharing yX2_sharing : Cond) ∈ TBG := List.mem_filter.mpr ⟨List.mem_append_left _ (List.mem_of_getElem? (l := k2_sels lw_privs) (i := 31) rfl), rfl⟩
theorem ts_32 : (.selects RX2 yX2_refs yX2_refs : Cond) ∈ TBG := List.mem_filter.mpr ⟨List.mem_append_left _ (List.mem_of_getElem? (l := k2_sels lw_privs) (i := 32) rfl), rfl⟩
theorem ts_33 : (.selects RX2 yX2_hasStaged yX2_hasStaged : Cond) ∈ TBG := List.mem_filter.mpr ⟨List.mem_append_left _ (List.mem_of_getElem? (l := k2_sels lw_privs) (i := 33) rfl), rfl⟩
theorem ts_34 : (.selects RX2 yX2_used yX2_used : Cond) ∈ TBG := List.mem_filter.mpr ⟨List.mem_append_left _ (List.mem_of_getElem? (l := k2_sels lw_privs) (i := 34) rfl), rfl⟩
theorem ts_35 : (.selects RX2 yX2_lowestUnused yX2_lowestUnused : Cond) ∈ TBG := List.mem_filter.mpr ⟨List.mem_append_left _ (List.mem_of_getElem? (l := k2_sels lw_privs) (i := 35) rfl), rfl⟩
theorem ts_36 : (.selects RX2 yX2_spend yX2_spend : Cond) ∈ TBG := List.mem_filter.mpr ⟨List.mem_append_left _ (List.mem_of_getElem? (l := k2_sels lw_privs) (i := 36) rfl), rfl⟩
theorem ts_37 : (.selects RX2 yX2_wantAsIs yX2_wantAsIs : Cond) ∈ TBG := List.mem_filter.mpr ⟨List.mem_append_left _ (List.mem_of_getElem? (l := k2_sels lw_privs) (i := 37) rfl), rfl⟩
theorem ts_38 : (.selects RX2 yX2_change yX2_change : Cond) ∈ TBG := List.mem_filter.mpr ⟨List.mem_append_left _ (List.mem_of_getElem? (l := k2_sels lw_privs) (i := 38) rfl), rfl⟩
theorem inX0 : ∀ w ∈ u_ws RX0 TX0 8, w ∈ TBG := fun w h => List.mem_filter.mpr ⟨(by decide +kernel : ∀ w ∈ u_ws RX0 TX0 8, w ∈ lw_tbl) w h, List.all_eq_true.mp (by decide +kernel : (u_ws RX0 TX0 8).all goodWord = true) w h⟩
theorem inX1 : ∀ w ∈ u_ws RX1 TX1 5, w ∈ TBG := fun w h => List.mem_filter.mpr ⟨(by decide +kernel : ∀ w ∈ u_ws RX1 TX1 5, w ∈ lw_tbl) w h, List.all_eq_true.mp (by decide +kernel : (u_ws RX1 TX1 5).all goodWord = true) w h⟩
theorem inX2 : ∀ w ∈ u_ws RX2 TX2 13, w ∈ TBG := fun w h => List.mem_filter.mpr ⟨(by decide +kernel : ∀ w ∈ u_ws RX2 TX2 13, w ∈ lw_tbl) w h, List.all_eq_true.mp (by decide +kernel : (u_ws RX2 TX2 13).all goodWord = true) w h⟩
theorem gw {y : MethodName} {c : ByteArray} {n : Nat} {r : Option FieldType} (h : Cond.code y c n r ∈ TBG) : GoodIn TBG (Cond.code y c n r :: TBG) := fun w hw => by
  rcases List.mem_cons.mp hw with q | q
  · rw [q]; exact ⟨h, good_of_word (tb_good _ h)⟩
  · exact ⟨q, good_of_word (tb_good _ q)⟩
theorem gx {a ws : List Cond} (h : GoodIn TBG ws) (ha : ∀ w ∈ a, w ∈ TBG) : GoodIn TBG (a ++ ws) := fun w hw => by
  rcases List.mem_append.mp hw with q | q
  · exact ⟨ha w q, good_of_word (tb_good _ (ha w q))⟩
  · exact h w q
theorem gv {own C : String} {i : Nat} {y : MethodName} {c : ByteArray} {n : Nat} {r : Option FieldType} (h1 : Cond.methodLink own i y ∈ TBG) (h2 : Cond.instanceMethod y ∈ TBG) (h3 : Cond.selects C y y ∈ TBG) (h4 : Cond.initialized C ∈ TBG) (h5 : Cond.code y c n r ∈ TBG) : GoodIn TBG (wsV own i C y (Cond.code y c n r :: TBG)) :=
  gx (gw h5) (fun w hw => by
    simp only [List.mem_cons, List.not_mem_nil, or_false] at hw
    rcases hw with q | q | q | q <;> rw [q] <;> assumption)
theorem gs {own : String} {i : Nat} {y : MethodName} {c : ByteArray} {n : Nat} {r : Option FieldType} (h1 : Cond.methodLink own i y ∈ TBG) (h2 : Cond.static y ∈ TBG) (h3 : Cond.initialized own ∈ TBG) (h5 : Cond.code y c n r ∈ TBG) : GoodIn TBG (wsS own i y (Cond.code y c n r :: TBG)) :=
  gx (gw h5) (fun w hw => by
    simp only [List.mem_cons, List.not_mem_nil, or_false] at hw
    rcases hw with q | q | q <;> rw [q] <;> assumption)
theorem gu {own : String} {i : Nat} {y : MethodName} {c : ByteArray} {n : Nat} {r : Option FieldType} (h1 : Cond.methodLink own i y ∈ TBG) (h2 : Cond.static y ∈ TBG) (h3 : Cond.initialized y.cls ∈ TBG) (h5 : Cond.code y c n r ∈ TBG) : GoodIn TBG (va_wsS own i y (Cond.code y c n r :: TBG)) :=
  gx (gw h5) (fun w hw => by
    simp only [List.mem_cons, List.not_mem_nil, or_false] at hw
    rcases hw with q | q | q <;> rw [q] <;> assumption)
def wsX0_init : List Cond := .code yX0_init cX0_init 5 none :: TBG
def wsX0_within : List Cond := .code yX0_within cX0_within 2 (some .int) :: TBG
def wsX1_init : List Cond := .code yX1_init cX1_init 2 none :: TBG
def wsX0_format : List Cond := .code yX0_format cX0_format 1 (some .int) :: TBG
def wsX1_wipe : List Cond := .code yX1_wipe cX1_wipe 1 none :: TBG
def wsJ0_fill : List Cond := .code yJ0_fill cJ0_fill 4 none :: TBG
def wsX0_clearStaged : List Cond := .code yX0_clearStaged cX0_clearStaged 1 none :: TBG
def wsX0_stageWord : List Cond := .code yX0_stageWord cX0_stageWord 3 (some .int) :: TBG
def wsX1_isDown : List Cond := .code yX1_isDown cX1_isDown 1 (some .boolean) :: TBG
def wsX0_isWord : List Cond := .code yX0_isWord cX0_isWord 2 (some .boolean) :: TBG
def wsX0_writeBlock : List Cond := .code yX0_writeBlock cX0_writeBlock 4 (some .int) :: TBG
def wsX0_isBlock : List Cond := .code yX0_isBlock cX0_isBlock 3 (some .boolean) :: TBG
def wsX0_isVolume : List Cond := .code yX0_isVolume cX0_isVolume 2 (some .boolean) :: TBG
def wsX0_usedSlotWithStaged : List Cond := .code yX0_usedSlotWithStaged cX0_usedSlotWithStaged 2 (some .int) :: TBG
def wsX0_hasStagedWords : List Cond := .code yX0_hasStagedWords cX0_hasStagedWords 3 (some .boolean) :: TBG
def wsX0_slotCell : List Cond := .code yX0_slotCell cX0_slotCell 3 (some .int) :: TBG
def wsX1_read : List Cond := .code yX1_read cX1_read 2 (some .int) :: TBG
def wsX0_isUsed : List Cond := .code yX0_isUsed cX0_isUsed 2 (some .boolean) :: TBG
def wsX0_blocksMappedTo : List Cond := .code yX0_blocksMappedTo cX0_blocksMappedTo 4 (some .int) :: TBG
def wsX0_writeNewContents : List Cond := .code yX0_writeNewContents cX0_writeNewContents 5 (some .int) :: TBG
def wsX0_usedSlotsWithout : List Cond := .code yX0_usedSlotsWithout cX0_usedSlotsWithout 5 (some .int) :: TBG
def wsX0_mappedSlot : List Cond := .code yX0_mappedSlot cX0_mappedSlot 3 (some .int) :: TBG
def wsX0_mapCell : List Cond := .code yX0_mapCell cX0_mapCell 3 (some .int) :: TBG
def wsX0_usedSlots : List Cond := .code yX0_usedSlots cX0_usedSlots 3 (some .int) :: TBG
def wsX0_lowestUnusedSlot : List Cond := .code yX0_lowestUnusedSlot cX0_lowestUnusedSlot 2 (some .int) :: TBG
def wsX1_write : List Cond := .code yX1_write cX1_write 3 none :: TBG
def wsX0_change : List Cond := .code yX0_change cX0_change 5 (some .int) :: TBG
def wsX0_carryOutIntent : List Cond := .code yX0_carryOutIntent cX0_carryOutIntent 4 none :: TBG
def wsX0_mapBlock : List Cond := .code yX0_mapBlock cX0_mapBlock 4 none :: TBG
def wsX0_mapVolumeAs : List Cond := .code yX0_mapVolumeAs cX0_mapVolumeAs 4 none :: TBG
def wsX0_unmapVolume : List Cond := .code yX0_unmapVolume cX0_unmapVolume 3 none :: TBG
def wsX0_readWord : List Cond := .code yX0_readWord cX0_readWord 5 (some .int) :: TBG
def wsX0_trim : List Cond := .code yX0_trim cX0_trim 3 (some .int) :: TBG
def wsX0_cloneVol : List Cond := .code yX0_cloneVol cX0_cloneVol 3 (some .int) :: TBG
def wsX0_dropVol : List Cond := .code yX0_dropVol cX0_dropVol 2 (some .int) :: TBG
def wsX0_chunksUsed : List Cond := .code yX0_chunksUsed cX0_chunksUsed 1 (some .int) :: TBG
def wsX0_refsOf : List Cond := .code yX0_refsOf cX0_refsOf 4 (some .int) :: TBG
def wsX0_slotOf : List Cond := .code yX0_slotOf cX0_slotOf 4 (some .int) :: TBG
def wsX0_slotWord : List Cond := .code yX0_slotWord cX0_slotWord 3 (some .int) :: TBG
def wsX0_crashAfter : List Cond := .code yX0_crashAfter cX0_crashAfter 2 none :: TBG
def wsX1_armLoss : List Cond := .code yX1_armLoss cX1_armLoss 2 none :: TBG
def wsX0_down : List Cond := .code yX0_down cX0_down 1 (some .boolean) :: TBG
def wsX0_recover : List Cond := .code yX0_recover cX0_recover 1 (some .int) :: TBG
def wsX1_restorePower : List Cond := .code yX1_restorePower cX1_restorePower 1 none :: TBG
def wsX0_writes : List Cond := .code yX0_writes cX0_writes 1 (some .int) :: TBG
def wsX1_writesDone : List Cond := .code yX1_writesDone cX1_writesDone 1 (some .int) :: TBG
def wsL_cell : List Cond := .code yL_cell cL_cell 2 (some .int) :: TBG
def wsX2_init : List Cond := .code yX2_init cX2_init 5 none :: TBG
def wsX2_cut : List Cond := .code yX2_cut cX2_cut 2 (some .int) :: TBG
def wsX2_format : List Cond := .code yX2_format cX2_format 2 (some .int) :: TBG
def wsX2_clearStage : List Cond := .code yX2_clearStage cX2_clearStage 2 none :: TBG
def wsX2_stageWord : List Cond := .code yX2_stageWord cX2_stageWord 3 (some .int) :: TBG
def wsX2_isWord : List Cond := .code yX2_isWord cX2_isWord 2 (some .boolean) :: TBG
def wsX2_writeBlock : List Cond := .code yX2_writeBlock cX2_writeBlock 8 (some .int) :: TBG
def wsX2_block : List Cond := .code yX2_block cX2_block 3 (some .boolean) :: TBG
def wsX2_volume : List Cond := .code yX2_volume cX2_volume 2 (some .boolean) :: TBG
def wsX2_sharing : List Cond := .code yX2_sharing cX2_sharing 3 (some .int) :: TBG
def wsX2_refs : List Cond := .code yX2_refs cX2_refs 4 (some .int) :: TBG
def wsX2_hasStaged : List Cond := .code yX2_hasStaged cX2_hasStaged 4 (some .boolean) :: TBG
def wsX2_used : List Cond := .code yX2_used cX2_used 3 (some .int) :: TBG
def wsX2_lowestUnused : List Cond := .code yX2_lowestUnused cX2_lowestUnused 2 (some .int) :: TBG
def wsX2_spend : List Cond := .code yX2_spend cX2_spend 3 (some .int) :: TBG
def wsX2_wantAsIs : List Cond := .code yX2_wantAsIs cX2_wantAsIs 2 none :: TBG
def wsX2_change : List Cond := .code yX2_change cX2_change 4 (some .int) :: TBG
def wsX2_readWord : List Cond := .code yX2_readWord cX2_readWord 4 (some .int) :: TBG
def wsX2_trim : List Cond := .code yX2_trim cX2_trim 3 (some .int) :: TBG
def wsX2_cloneVol : List Cond := .code yX2_cloneVol cX2_cloneVol 4 (some .int) :: TBG
def wsX2_dropVol : List Cond := .code yX2_dropVol cX2_dropVol 3 (some .int) :: TBG
def wsX2_chunksUsed : List Cond := .code yX2_chunksUsed cX2_chunksUsed 1 (some .int) :: TBG
def wsX2_refsOf : List Cond := .code yX2_refsOf cX2_refsOf 3 (some .int) :: TBG
def wsX2_slotOf : List Cond := .code yX2_slotOf cX2_slotOf 3 (some .int) :: TBG
def wsX2_slotWord : List Cond := .code yX2_slotWord cX2_slotWord 3 (some .int) :: TBG
def wsX2_crashAfter : List Cond := .code yX2_crashAfter cX2_crashAfter 2 none :: TBG
def wsX2_down : List Cond := .code yX2_down cX2_down 1 (some .boolean) :: TBG
def wsX2_recover : List Cond := .code yX2_recover cX2_recover 1 (some .int) :: TBG
def wsX2_writes : List Cond := .code yX2_writes cX2_writes 1 (some .int) :: TBG
def nwL : List Cond := [.methodLinkNest RX0 38 yX1_init "SharedVolumes", .methodLinkNest RX0 45 yX1_wipe "SharedVolumes", .methodLinkNest RX0 51 yX1_isDown "SharedVolumes", .methodLinkNest RX0 80 yX1_read "SharedVolumes", .methodLinkNest RX0 116 yX1_write "SharedVolumes", .methodLinkNest RX0 93 yX1_armLoss "SharedVolumes", .methodLinkNest RX0 96 yX1_restorePower "SharedVolumes", .methodLinkNest RX0 102 yX1_writesDone "SharedVolumes"]
theorem nw_in : ∀ w ∈ nwL, w ∈ lw_tbl := fun w h => by
  unfold nwL at h
  simp only [List.mem_cons, List.not_mem_nil, or_false] at h
  rcases h with q | q | q | q | q | q | q | q
  · rw [q]; exact List.mem_append_right _ (List.mem_append_left _ (List.mem_of_getElem? (l := tables_1_1) (i := 25) rfl))
  · rw [q]; exact List.mem_append_right _ (List.mem_append_left _ (List.mem_of_getElem? (l := tables_1_1) (i := 75) rfl))
  · rw [q]; exact List.mem_append_right _ (List.mem_append_left _ (List.mem_of_getElem? (l := tables_1_1) (i := 91) rfl))
  · rw [q]; exact List.mem_append_right _ (List.mem_append_left _ (List.mem_of_getElem? (l := tables_1_1) (i := 123) rfl))
  · rw [q]; exact List.mem_append_right _ (List.mem_append_left _ (List.mem_of_getElem? (l := tables_1_1) (i := 159) rfl))
  · rw [q]; exact List.mem_append_right _ (List.mem_append_left _ (List.mem_of_getElem? (l := tables_1_1) (i := 219) rfl))
  · rw [q]; exact List.mem_append_right _ (List.mem_append_left _ (List.mem_of_getElem? (l := tables_1_1) (i := 231) rfl))
  · rw [q]; exact List.mem_append_right _ (List.mem_append_left _ (List.mem_of_getElem? (l := tables_1_1) (i := 239) rfl))
theorem nn_38 : (.methodLinkNest RX0 38 yX1_init "SharedVolumes" : Cond) ∈ nwL := List.mem_of_getElem? (i := 0) rfl
theorem nn_45 : (.methodLinkNest RX0 45 yX1_wipe "SharedVolumes" : Cond) ∈ nwL := List.mem_of_getElem? (i := 1) rfl
theorem nn_51 : (.methodLinkNest RX0 51 yX1_isDown "SharedVolumes" : Cond) ∈ nwL := List.mem_of_getElem? (i := 2) rfl
theorem nn_80 : (.methodLinkNest RX0 80 yX1_read "SharedVolumes" : Cond) ∈ nwL := List.mem_of_getElem? (i := 3) rfl
theorem nn_116 : (.methodLinkNest RX0 116 yX1_write "SharedVolumes" : Cond) ∈ nwL := List.mem_of_getElem? (i := 4) rfl
theorem nn_93 : (.methodLinkNest RX0 93 yX1_armLoss "SharedVolumes" : Cond) ∈ nwL := List.mem_of_getElem? (i := 5) rfl
theorem nn_96 : (.methodLinkNest RX0 96 yX1_restorePower "SharedVolumes" : Cond) ∈ nwL := List.mem_of_getElem? (i := 6) rfl
theorem nn_102 : (.methodLinkNest RX0 102 yX1_writesDone "SharedVolumes" : Cond) ∈ nwL := List.mem_of_getElem? (i := 7) rfl
theorem gL_15 : GoodIn TBG wsX0_init := gw tb_10
theorem gX0_9 : GoodIn TBG (wsS RX0 9 yX0_within wsX0_within) := gs tb_14 tb_15 tb_1 tb_16
theorem gL_21 : GoodIn TBG (wsV RL 21 RX0 yX0_format wsX0_format) := gv tb_71 tb_72 tb_73 tb_1 tb_74
theorem gX1_13 : GoodIn TBG (va_wsS RX1 13 yJ0_fill wsJ0_fill) := gu tb_79 tb_80 tb_5 tb_81
theorem gX0_48 : GoodIn TBG (wsV RX0 48 RX0 yX0_clearStaged wsX0_clearStaged) := gv tb_82 tb_84 ts_1 tb_1 tb_85
theorem gX0_126 : GoodIn TBG (va_wsS RX0 126 yJ0_fill wsJ0_fill) := gu tb_86 tb_80 tb_5 tb_81
theorem gL_26 : GoodIn TBG (wsV RL 26 RX0 yX0_stageWord wsX0_stageWord) := gv tb_87 tb_88 tb_89 tb_1 tb_90
theorem gX0_55 : GoodIn TBG (wsV RX0 55 RX0 yX0_isWord wsX0_isWord) := gv tb_95 tb_97 ts_3 tb_1 tb_98
theorem gL_31 : GoodIn TBG (wsV RL 31 RX0 yX0_writeBlock wsX0_writeBlock) := gv tb_99 tb_100 tb_101 tb_1 tb_102
theorem gX0_59 : GoodIn TBG (wsV RX0 59 RX0 yX0_isBlock wsX0_isBlock) := gv tb_103 tb_105 ts_4 tb_1 tb_106
theorem gX0_84 : GoodIn TBG (wsV RX0 84 RX0 yX0_isVolume wsX0_isVolume) := gv tb_107 tb_109 ts_5 tb_1 tb_110
theorem gX0_63 : GoodIn TBG (wsV RX0 63 RX0 yX0_usedSlotWithStaged wsX0_usedSlotWithStaged) := gv tb_111 tb_113 ts_6 tb_1 tb_114
theorem gX0_123 : GoodIn TBG (wsV RX0 123 RX0 yX0_hasStagedWords wsX0_hasStagedWords) := gv tb_115 tb_117 ts_7 tb_1 tb_118
theorem gX0_77 : GoodIn TBG (wsV RX0 77 RX0 yX0_slotCell wsX0_slotCell) := gv tb_119 tb_121 ts_8 tb_1 tb_122
theorem gX0_120 : GoodIn TBG (wsV RX0 120 RX0 yX0_isUsed wsX0_isUsed) := gv tb_127 tb_129 ts_10 tb_1 tb_130
theorem gX0_90 : GoodIn TBG (wsV RX0 90 RX0 yX0_blocksMappedTo wsX0_blocksMappedTo) := gv tb_131 tb_133 ts_11 tb_1 tb_134
theorem gX0_67 : GoodIn TBG (wsV RX0 67 RX0 yX0_writeNewContents wsX0_writeNewContents) := gv tb_135 tb_137 ts_12 tb_1 tb_138
theorem gX0_132 : GoodIn TBG (wsV RX0 132 RX0 yX0_usedSlotsWithout wsX0_usedSlotsWithout) := gv tb_139 tb_141 ts_13 tb_1 tb_142
theorem gX0_70 : GoodIn TBG (wsV RX0 70 RX0 yX0_mappedSlot wsX0_mappedSlot) := gv tb_143 tb_145 ts_14 tb_1 tb_146
theorem gX0_113 : GoodIn TBG (wsV RX0 113 RX0 yX0_mapCell wsX0_mapCell) := gv tb_147 tb_149 ts_15 tb_1 tb_150
theorem gX0_87 : GoodIn TBG (wsV RX0 87 RX0 yX0_usedSlots wsX0_usedSlots) := gv tb_151 tb_153 ts_16 tb_1 tb_154
theorem gX0_135 : GoodIn TBG (wsV RX0 135 RX0 yX0_lowestUnusedSlot wsX0_lowestUnusedSlot) := gv tb_155 tb_157 ts_17 tb_1 tb_158
theorem gX0_73 : GoodIn TBG (wsV RX0 73 RX0 yX0_change wsX0_change) := gv tb_163 tb_165 ts_19 tb_1 tb_166
theorem gX0_99 : GoodIn TBG (wsV RX0 99 RX0 yX0_carryOutIntent wsX0_carryOutIntent) := gv tb_167 tb_169 ts_20 tb_1 tb_170
theorem gX0_138 : GoodIn TBG (wsV RX0 138 RX0 yX0_mapBlock wsX0_mapBlock) := gv tb_171 tb_173 ts_21 tb_1 tb_174
theorem gX0_142 : GoodIn TBG (wsV RX0 142 RX0 yX0_mapVolumeAs wsX0_mapVolumeAs) := gv tb_175 tb_177 ts_22 tb_1 tb_178
theorem gX0_145 : GoodIn TBG (wsV RX0 145 RX0 yX0_unmapVolume wsX0_unmapVolume) := gv tb_179 tb_181 ts_23 tb_1 tb_182
theorem gL_35 : GoodIn TBG (wsV RL 35 RX0 yX0_readWord wsX0_readWord) := gv tb_183 tb_184 tb_185 tb_1 tb_186
theorem gL_40 : GoodIn TBG (wsV RL 40 RX0 yX0_trim wsX0_trim) := gv tb_187 tb_188 tb_189 tb_1 tb_190
theorem gL_44 : GoodIn TBG (wsV RL 44 RX0 yX0_cloneVol wsX0_cloneVol) := gv tb_191 tb_192 tb_193 tb_1 tb_194
theorem gL_48 : GoodIn TBG (wsV RL 48 RX0 yX0_dropVol wsX0_dropVol) := gv tb_195 tb_196 tb_197 tb_1 tb_198
theorem gL_53 : GoodIn TBG (wsV RL 53 RX0 yX0_chunksUsed wsX0_chunksUsed) := gv tb_199 tb_200 tb_201 tb_1 tb_202
theorem gL_57 : GoodIn TBG (wsV RL 57 RX0 yX0_refsOf wsX0_refsOf) := gv tb_203 tb_204 tb_205 tb_1 tb_206
theorem gL_61 : GoodIn TBG (wsV RL 61 RX0 yX0_slotOf wsX0_slotOf) := gv tb_207 tb_208 tb_209 tb_1 tb_210
theorem gL_65 : GoodIn TBG (wsV RL 65 RX0 yX0_slotWord wsX0_slotWord) := gv tb_211 tb_212 tb_213 tb_1 tb_214
theorem gL_69 : GoodIn TBG (wsV RL 69 RX0 yX0_crashAfter wsX0_crashAfter) := gv tb_215 tb_216 tb_217 tb_1 tb_218
theorem gL_74 : GoodIn TBG (wsV RL 74 RX0 yX0_down wsX0_down) := gv tb_223 tb_224 tb_225 tb_1 tb_226
theorem gL_79 : GoodIn TBG (wsV RL 79 RX0 yX0_recover wsX0_recover) := gv tb_227 tb_228 tb_229 tb_1 tb_230
theorem gL_83 : GoodIn TBG (wsV RL 83 RX0 yX0_writes wsX0_writes) := gv tb_235 tb_236 tb_237 tb_1 tb_238
theorem gL_9 : GoodIn TBG (wsS RL 9 yL_cell wsL_cell) := gs tb_243 tb_244 tb_0 tb_245
theorem gL_20 : GoodIn TBG wsX2_init := gw tb_250
theorem gX2_22 : GoodIn TBG (wsS RX2 22 yX2_cut wsX2_cut) := gs tb_252 tb_253 tb_4 tb_254
theorem gL_25 : GoodIn TBG (wsV RL 25 RX2 yX2_format wsX2_format) := gv tb_295 tb_296 tb_297 tb_4 tb_298
theorem gX2_39 : GoodIn TBG (wsV RX2 39 RX2 yX2_clearStage wsX2_clearStage) := gv tb_299 tb_301 ts_27 tb_4 tb_302
theorem gL_30 : GoodIn TBG (wsV RL 30 RX2 yX2_stageWord wsX2_stageWord) := gv tb_303 tb_304 tb_305 tb_4 tb_306
theorem gX2_69 : GoodIn TBG (wsV RX2 69 RX2 yX2_isWord wsX2_isWord) := gv tb_307 tb_309 ts_28 tb_4 tb_310
theorem gL_34 : GoodIn TBG (wsV RL 34 RX2 yX2_writeBlock wsX2_writeBlock) := gv tb_311 tb_312 tb_313 tb_4 tb_314
theorem gX2_72 : GoodIn TBG (wsV RX2 72 RX2 yX2_block wsX2_block) := gv tb_315 tb_317 ts_29 tb_4 tb_318
theorem gX2_59 : GoodIn TBG (wsV RX2 59 RX2 yX2_volume wsX2_volume) := gv tb_319 tb_321 ts_30 tb_4 tb_322
theorem gX2_76 : GoodIn TBG (wsV RX2 76 RX2 yX2_sharing wsX2_sharing) := gv tb_323 tb_325 ts_31 tb_4 tb_326
theorem gX2_63 : GoodIn TBG (wsV RX2 63 RX2 yX2_refs wsX2_refs) := gv tb_327 tb_329 ts_32 tb_4 tb_330
theorem gX2_66 : GoodIn TBG (wsV RX2 66 RX2 yX2_hasStaged wsX2_hasStaged) := gv tb_331 tb_333 ts_33 tb_4 tb_334
theorem gX2_80 : GoodIn TBG (wsV RX2 80 RX2 yX2_used wsX2_used) := gv tb_335 tb_337 ts_34 tb_4 tb_338
theorem gX2_83 : GoodIn TBG (wsV RX2 83 RX2 yX2_lowestUnused wsX2_lowestUnused) := gv tb_339 tb_341 ts_35 tb_4 tb_342
theorem gX2_55 : GoodIn TBG (wsV RX2 55 RX2 yX2_spend wsX2_spend) := gv tb_343 tb_345 ts_36 tb_4 tb_346
theorem gX2_86 : GoodIn TBG (wsV RX2 86 RX2 yX2_wantAsIs wsX2_wantAsIs) := gv tb_347 tb_349 ts_37 tb_4 tb_350
theorem gX2_89 : GoodIn TBG (wsV RX2 89 RX2 yX2_change wsX2_change) := gv tb_351 tb_353 ts_38 tb_4 tb_354
theorem gL_39 : GoodIn TBG (wsV RL 39 RX2 yX2_readWord wsX2_readWord) := gv tb_355 tb_356 tb_357 tb_4 tb_358
theorem gL_43 : GoodIn TBG (wsV RL 43 RX2 yX2_trim wsX2_trim) := gv tb_359 tb_360 tb_361 tb_4 tb_362
theorem gL_47 : GoodIn TBG (wsV RL 47 RX2 yX2_cloneVol wsX2_cloneVol) := gv tb_363 tb_364 tb_365 tb_4 tb_366
theorem gL_52 : GoodIn TBG (wsV RL 52 RX2 yX2_dropVol wsX2_dropVol) := gv tb_367 tb_368 tb_369 tb_4 tb_370
theorem gL_56 : GoodIn TBG (wsV RL 56 RX2 yX2_chunksUsed wsX2_chunksUsed) := gv tb_371 tb_372 tb_373 tb_4 tb_374
theorem gL_60 : GoodIn TBG (wsV RL 60 RX2 yX2_refsOf wsX2_refsOf) := gv tb_375 tb_376 tb_377 tb_4 tb_378
theorem gL_64 : GoodIn TBG (wsV RL 64 RX2 yX2_slotOf wsX2_slotOf) := gv tb_379 tb_380 tb_381 tb_4 tb_382
theorem gL_68 : GoodIn TBG (wsV RL 68 RX2 yX2_slotWord wsX2_slotWord) := gv tb_383 tb_384 tb_385 tb_4 tb_386
theorem gL_73 : GoodIn TBG (wsV RL 73 RX2 yX2_crashAfter wsX2_crashAfter) := gv tb_387 tb_388 tb_389 tb_4 tb_390
theorem gL_78 : GoodIn TBG (wsV RL 78 RX2 yX2_down wsX2_down) := gv tb_391 tb_392 tb_393 tb_4 tb_394
theorem gL_82 : GoodIn TBG (wsV RL 82 RX2 yX2_recover wsX2_recover) := gv tb_395 tb_396 tb_397 tb_4 tb_398
theorem gL_86 : GoodIn TBG (wsV RL 86 RX2 yX2_writes wsX2_writes) := gv tb_399 tb_400 tb_401 tb_4 tb_402
theorem gX0_38 : GoodIn TBG wsX1_init := gw tb_27
theorem gX0_45 : GoodIn TBG wsX1_wipe := gw tb_78
theorem gX0_51 : GoodIn TBG wsX1_isDown := gw tb_94
theorem gX0_80 : GoodIn TBG wsX1_read := gw tb_126
theorem gX0_116 : GoodIn TBG wsX1_write := gw tb_162
theorem gX0_93 : GoodIn TBG wsX1_armLoss := gw tb_222
theorem gX0_96 : GoodIn TBG wsX1_restorePower := gw tb_234
theorem gX0_102 : GoodIn TBG wsX1_writesDone := gw tb_242
