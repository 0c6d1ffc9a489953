section
-- ===== PART A: goes FIRST, ahead of the names: the tables' words, and 'selects' of the private methods out of them =====
/-- a private method of a class that the tables say can be made, by its rows of tables_1 -/
def lw_okq (q : MethodName × Nat) : Prop := (q.1.cls ≠ "java/lang/invoke/MethodHandle" ∧ q.1.cls ≠ "java/lang/invoke/VarHandle") ∧ Cond.instantiable q.1.cls q.2 ∈ tables_1 ∧ Cond.privateMethod q.1 ∈ tables_1 ∧ Cond.instanceMethod q.1 ∈ tables_1
theorem lw_p0 : lw_okq (⟨"SplitChannelModel", "next", "()V"⟩, 47) := ⟨⟨by decide +kernel, by decide +kernel⟩, List.mem_of_getElem? (i := 897) (by decide +kernel), List.mem_of_getElem? (i := 1060) (by decide +kernel), List.mem_of_getElem? (i := 1061) (by decide +kernel)⟩
theorem lw_p1 : lw_okq (⟨"SplitChannelModel", "isAt", "(II)Z"⟩, 47) := ⟨⟨by decide +kernel, by decide +kernel⟩, List.mem_of_getElem? (i := 897) (by decide +kernel), List.mem_of_getElem? (i := 1064) (by decide +kernel), List.mem_of_getElem? (i := 1065) (by decide +kernel)⟩
theorem lw_p2 : lw_okq (⟨"SplitChannelModel", "readsChannel", "()V"⟩, 47) := ⟨⟨by decide +kernel, by decide +kernel⟩, List.mem_of_getElem? (i := 897) (by decide +kernel), List.mem_of_getElem? (i := 1070) (by decide +kernel), List.mem_of_getElem? (i := 1071) (by decide +kernel)⟩
theorem lw_p3 : lw_okq (⟨"SplitChannelModel", "isWord", "(Ljava/lang/String;)Z"⟩, 47) := ⟨⟨by decide +kernel, by decide +kernel⟩, List.mem_of_getElem? (i := 897) (by decide +kernel), List.mem_of_getElem? (i := 1075) (by decide +kernel), List.mem_of_getElem? (i := 1076) (by decide +kernel)⟩
theorem lw_p4 : lw_okq (⟨"SplitChannelModel", "passes", "(Z)V"⟩, 47) := ⟨⟨by decide +kernel, by decide +kernel⟩, List.mem_of_getElem? (i := 897) (by decide +kernel), List.mem_of_getElem? (i := 1081) (by decide +kernel), List.mem_of_getElem? (i := 1082) (by decide +kernel)⟩
theorem lw_p5 : lw_okq (⟨"SplitChannelModel", "faults", "(I)V"⟩, 47) := ⟨⟨by decide +kernel, by decide +kernel⟩, List.mem_of_getElem? (i := 897) (by decide +kernel), List.mem_of_getElem? (i := 1085) (by decide +kernel), List.mem_of_getElem? (i := 1086) (by decide +kernel)⟩
theorem lw_p6 : lw_okq (⟨"SplitChannelModel", "named", "(Ljava/lang/String;II)I"⟩, 47) := ⟨⟨by decide +kernel, by decide +kernel⟩, List.mem_of_getElem? (i := 897) (by decide +kernel), List.mem_of_getElem? (i := 1090) (by decide +kernel), List.mem_of_getElem? (i := 1091) (by decide +kernel)⟩
theorem lw_p7 : lw_okq (⟨"SplitChannelModel", "reads", "(II)I"⟩, 47) := ⟨⟨by decide +kernel, by decide +kernel⟩, List.mem_of_getElem? (i := 897) (by decide +kernel), List.mem_of_getElem? (i := 1094) (by decide +kernel), List.mem_of_getElem? (i := 1095) (by decide +kernel)⟩
theorem lw_p8 : lw_okq (⟨"SplitChannelModel", "readsSender", "()V"⟩, 47) := ⟨⟨by decide +kernel, by decide +kernel⟩, List.mem_of_getElem? (i := 897) (by decide +kernel), List.mem_of_getElem? (i := 1102) (by decide +kernel), List.mem_of_getElem? (i := 1103) (by decide +kernel)⟩
theorem lw_p9 : lw_okq (⟨"SplitChannelModel", "readsNoise", "()V"⟩, 47) := ⟨⟨by decide +kernel, by decide +kernel⟩, List.mem_of_getElem? (i := 897) (by decide +kernel), List.mem_of_getElem? (i := 1109) (by decide +kernel), List.mem_of_getElem? (i := 1110) (by decide +kernel)⟩
theorem lw_p10 : lw_okq (⟨"SplitChannelModel", "isNoisy", "(I)Z"⟩, 47) := ⟨⟨by decide +kernel, by decide +kernel⟩, List.mem_of_getElem? (i := 897) (by decide +kernel), List.mem_of_getElem? (i := 1113) (by decide +kernel), List.mem_of_getElem? (i := 1114) (by decide +kernel)⟩
theorem lw_p11 : lw_okq (⟨"SplitChannelModel", "isSender", "(I)Z"⟩, 47) := ⟨⟨by decide +kernel, by decide +kernel⟩, List.mem_of_getElem? (i := 897) (by decide +kernel), List.mem_of_getElem? (i := 1133) (by decide +kernel), List.mem_of_getElem? (i := 1134) (by decide +kernel)⟩
theorem lw_p12 : lw_okq (⟨"SplitChannelModel", "bitOf", "(II)I"⟩, 47) := ⟨⟨by decide +kernel, by decide +kernel⟩, List.mem_of_getElem? (i := 897) (by decide +kernel), List.mem_of_getElem? (i := 1138) (by decide +kernel), List.mem_of_getElem? (i := 1139) (by decide +kernel)⟩
theorem lw_p13 : lw_okq (⟨"SplitChannelModel", "isSlot", "(I)Z"⟩, 47) := ⟨⟨by decide +kernel, by decide +kernel⟩, List.mem_of_getElem? (i := 897) (by decide +kernel), List.mem_of_getElem? (i := 1150) (by decide +kernel), List.mem_of_getElem? (i := 1151) (by decide +kernel)⟩
theorem lw_p14 : lw_okq (⟨"SplitChannelModel", "is", "()Z"⟩, 47) := ⟨⟨by decide +kernel, by decide +kernel⟩, List.mem_of_getElem? (i := 897) (by decide +kernel), List.mem_of_getElem? (i := 1154) (by decide +kernel), List.mem_of_getElem? (i := 1155) (by decide +kernel)⟩
theorem lw_p15 : lw_okq (⟨"SplitChannelModel", "runs", "()V"⟩, 47) := ⟨⟨by decide +kernel, by decide +kernel⟩, List.mem_of_getElem? (i := 897) (by decide +kernel), List.mem_of_getElem? (i := 1159) (by decide +kernel), List.mem_of_getElem? (i := 1160) (by decide +kernel)⟩
def lw_privs_1 : List (MethodName × Nat) := [(⟨"SplitChannelModel", "next", "()V"⟩, 47), (⟨"SplitChannelModel", "isAt", "(II)Z"⟩, 47), (⟨"SplitChannelModel", "readsChannel", "()V"⟩, 47), (⟨"SplitChannelModel", "isWord", "(Ljava/lang/String;)Z"⟩, 47), (⟨"SplitChannelModel", "passes", "(Z)V"⟩, 47), (⟨"SplitChannelModel", "faults", "(I)V"⟩, 47), (⟨"SplitChannelModel", "named", "(Ljava/lang/String;II)I"⟩, 47), (⟨"SplitChannelModel", "reads", "(II)I"⟩, 47), (⟨"SplitChannelModel", "readsSender", "()V"⟩, 47), (⟨"SplitChannelModel", "readsNoise", "()V"⟩, 47), (⟨"SplitChannelModel", "isNoisy", "(I)Z"⟩, 47), (⟨"SplitChannelModel", "isSender", "(I)Z"⟩, 47), (⟨"SplitChannelModel", "bitOf", "(II)I"⟩, 47), (⟨"SplitChannelModel", "isSlot", "(I)Z"⟩, 47), (⟨"SplitChannelModel", "is", "()Z"⟩, 47), (⟨"SplitChannelModel", "runs", "()V"⟩, 47)]
theorem lw_r1 : ∀ q ∈ lw_privs_1, lw_okq q := List.forall_mem_cons.mpr ⟨lw_p0, List.forall_mem_cons.mpr ⟨lw_p1, List.forall_mem_cons.mpr ⟨lw_p2, List.forall_mem_cons.mpr ⟨lw_p3, List.forall_mem_cons.mpr ⟨lw_p4, List.forall_mem_cons.mpr ⟨lw_p5, List.forall_mem_cons.mpr ⟨lw_p6, List.forall_mem_cons.mpr ⟨lw_p7, List.forall_mem_cons.mpr ⟨lw_p8, List.forall_mem_cons.mpr ⟨lw_p9, List.forall_mem_cons.mpr ⟨lw_p10, List.forall_mem_cons.mpr ⟨lw_p11, List.forall_mem_cons.mpr ⟨lw_p12, List.forall_mem_cons.mpr ⟨lw_p13, List.forall_mem_cons.mpr ⟨lw_p14, List.forall_mem_cons.mpr ⟨lw_p15, fun _ h => absurd h List.not_mem_nil⟩⟩⟩⟩⟩⟩⟩⟩⟩⟩⟩⟩⟩⟩⟩⟩
theorem lw_p16 : lw_okq (⟨"SplitChannelModel", "runsBy", "(III)V"⟩, 47) := ⟨⟨by decide +kernel, by decide +kernel⟩, List.mem_of_getElem? (i := 897) (by decide +kernel), List.mem_of_getElem? (i := 1163) (by decide +kernel), List.mem_of_getElem? (i := 1164) (by decide +kernel)⟩
theorem lw_p17 : lw_okq (⟨"SplitChannelModel", "waiting", "(I)I"⟩, 47) := ⟨⟨by decide +kernel, by decide +kernel⟩, List.mem_of_getElem? (i := 897) (by decide +kernel), List.mem_of_getElem? (i := 1167) (by decide +kernel), List.mem_of_getElem? (i := 1168) (by decide +kernel)⟩
theorem lw_p18 : lw_okq (⟨"SplitChannelModel", "goesByCounters", "(I)V"⟩, 47) := ⟨⟨by decide +kernel, by decide +kernel⟩, List.mem_of_getElem? (i := 897) (by decide +kernel), List.mem_of_getElem? (i := 1171) (by decide +kernel), List.mem_of_getElem? (i := 1172) (by decide +kernel)⟩
theorem lw_p19 : lw_okq (⟨"SplitChannelModel", "sent", "(II)I"⟩, 47) := ⟨⟨by decide +kernel, by decide +kernel⟩, List.mem_of_getElem? (i := 897) (by decide +kernel), List.mem_of_getElem? (i := 1178) (by decide +kernel), List.mem_of_getElem? (i := 1179) (by decide +kernel)⟩
theorem lw_p20 : lw_okq (⟨"SplitChannelModel", "heardAt", "(II)I"⟩, 47) := ⟨⟨by decide +kernel, by decide +kernel⟩, List.mem_of_getElem? (i := 897) (by decide +kernel), List.mem_of_getElem? (i := 1185) (by decide +kernel), List.mem_of_getElem? (i := 1186) (by decide +kernel)⟩
theorem lw_p21 : lw_okq (⟨"SplitChannelModel", "takesBit", "(I)I"⟩, 47) := ⟨⟨by decide +kernel, by decide +kernel⟩, List.mem_of_getElem? (i := 897) (by decide +kernel), List.mem_of_getElem? (i := 1189) (by decide +kernel), List.mem_of_getElem? (i := 1190) (by decide +kernel)⟩
theorem lw_p22 : lw_okq (⟨"SplitChannelModel", "goesByGroups", "(I)V"⟩, 47) := ⟨⟨by decide +kernel, by decide +kernel⟩, List.mem_of_getElem? (i := 897) (by decide +kernel), List.mem_of_getElem? (i := 1194) (by decide +kernel), List.mem_of_getElem? (i := 1195) (by decide +kernel)⟩
theorem lw_p23 : lw_okq (⟨"SplitChannelModel", "begins", "(I)V"⟩, 47) := ⟨⟨by decide +kernel, by decide +kernel⟩, List.mem_of_getElem? (i := 897) (by decide +kernel), List.mem_of_getElem? (i := 1198) (by decide +kernel), List.mem_of_getElem? (i := 1199) (by decide +kernel)⟩
theorem lw_p24 : lw_okq (⟨"SplitChannelModel", "between", "(III)I"⟩, 47) := ⟨⟨by decide +kernel, by decide +kernel⟩, List.mem_of_getElem? (i := 897) (by decide +kernel), List.mem_of_getElem? (i := 1202) (by decide +kernel), List.mem_of_getElem? (i := 1203) (by decide +kernel)⟩
theorem lw_p25 : lw_okq (⟨"SplitChannelModel", "splits", "()V"⟩, 47) := ⟨⟨by decide +kernel, by decide +kernel⟩, List.mem_of_getElem? (i := 897) (by decide +kernel), List.mem_of_getElem? (i := 1209) (by decide +kernel), List.mem_of_getElem? (i := 1210) (by decide +kernel)⟩
theorem lw_p26 : lw_okq (⟨"SplitChannelModel", "ends", "(I)V"⟩, 47) := ⟨⟨by decide +kernel, by decide +kernel⟩, List.mem_of_getElem? (i := 897) (by decide +kernel), List.mem_of_getElem? (i := 1213) (by decide +kernel), List.mem_of_getElem? (i := 1214) (by decide +kernel)⟩
theorem lw_p27 : lw_okq (⟨"SplitChannelModel", "lastOf", "()I"⟩, 47) := ⟨⟨by decide +kernel, by decide +kernel⟩, List.mem_of_getElem? (i := 897) (by decide +kernel), List.mem_of_getElem? (i := 1245) (by decide +kernel), List.mem_of_getElem? (i := 1246) (by decide +kernel)⟩
theorem lw_p28 : lw_okq (⟨"SplitChannelModel", "collisions", "()I"⟩, 47) := ⟨⟨by decide +kernel, by decide +kernel⟩, List.mem_of_getElem? (i := 897) (by decide +kernel), List.mem_of_getElem? (i := 1258) (by decide +kernel), List.mem_of_getElem? (i := 1259) (by decide +kernel)⟩
theorem lw_p29 : lw_okq (⟨"SplitChannelModel", "skipsAll", "()I"⟩, 47) := ⟨⟨by decide +kernel, by decide +kernel⟩, List.mem_of_getElem? (i := 897) (by decide +kernel), List.mem_of_getElem? (i := 1266) (by decide +kernel), List.mem_of_getElem? (i := 1267) (by decide +kernel)⟩
theorem lw_p30 : lw_okq (⟨"SplitChannelModel", "moreWithout", "(I)I"⟩, 47) := ⟨⟨by decide +kernel, by decide +kernel⟩, List.mem_of_getElem? (i := 897) (by decide +kernel), List.mem_of_getElem? (i := 1295) (by decide +kernel), List.mem_of_getElem? (i := 1296) (by decide +kernel)⟩
theorem lw_p31 : lw_okq (⟨"SplitChannelModel", "means", "(IIJJ)V"⟩, 47) := ⟨⟨by decide +kernel, by decide +kernel⟩, List.mem_of_getElem? (i := 897) (by decide +kernel), List.mem_of_getElem? (i := 1315) (by decide +kernel), List.mem_of_getElem? (i := 1316) (by decide +kernel)⟩
def lw_privs_2 : List (MethodName × Nat) := [(⟨"SplitChannelModel", "runsBy", "(III)V"⟩, 47), (⟨"SplitChannelModel", "waiting", "(I)I"⟩, 47), (⟨"SplitChannelModel", "goesByCounters", "(I)V"⟩, 47), (⟨"SplitChannelModel", "sent", "(II)I"⟩, 47), (⟨"SplitChannelModel", "heardAt", "(II)I"⟩, 47), (⟨"SplitChannelModel", "takesBit", "(I)I"⟩, 47), (⟨"SplitChannelModel", "goesByGroups", "(I)V"⟩, 47), (⟨"SplitChannelModel", "begins", "(I)V"⟩, 47), (⟨"SplitChannelModel", "between", "(III)I"⟩, 47), (⟨"SplitChannelModel", "splits", "()V"⟩, 47), (⟨"SplitChannelModel", "ends", "(I)V"⟩, 47), (⟨"SplitChannelModel", "lastOf", "()I"⟩, 47), (⟨"SplitChannelModel", "collisions", "()I"⟩, 47), (⟨"SplitChannelModel", "skipsAll", "()I"⟩, 47), (⟨"SplitChannelModel", "moreWithout", "(I)I"⟩, 47), (⟨"SplitChannelModel", "means", "(IIJJ)V"⟩, 47)]
theorem lw_r2 : ∀ q ∈ lw_privs_2, lw_okq q := List.forall_mem_cons.mpr ⟨lw_p16, List.forall_mem_cons.mpr ⟨lw_p17, List.forall_mem_cons.mpr ⟨lw_p18, List.forall_mem_cons.mpr ⟨lw_p19, List.forall_mem_cons.mpr ⟨lw_p20, List.forall_mem_cons.mpr ⟨lw_p21, List.forall_mem_cons.mpr ⟨lw_p22, List.forall_mem_cons.mpr ⟨lw_p23, List.forall_mem_cons.mpr ⟨lw_p24, List.forall_mem_cons.mpr ⟨lw_p25, List.forall_mem_cons.mpr ⟨lw_p26, List.forall_mem_cons.mpr ⟨lw_p27, List.forall_mem_cons.mpr ⟨lw_p28, List.forall_mem_cons.mpr ⟨lw_p29, List.forall_mem_cons.mpr ⟨lw_p30, List.forall_mem_cons.mpr ⟨lw_p31, fun _ h => absurd h List.not_mem_nil⟩⟩⟩⟩⟩⟩⟩⟩⟩⟩⟩⟩⟩⟩⟩⟩
theorem lw_p32 : lw_okq (⟨"SplitChannelModel", "is", "(JJ)V"⟩, 47) := ⟨⟨by decide +kernel, by decide +kernel⟩, List.mem_of_getElem? (i := 897) (by decide +kernel), List.mem_of_getElem? (i := 1325) (by decide +kernel), List.mem_of_getElem? (i := 1326) (by decide +kernel)⟩
theorem lw_p33 : lw_okq (⟨"SplitChannelModel", "adds", "(JJ)V"⟩, 47) := ⟨⟨by decide +kernel, by decide +kernel⟩, List.mem_of_getElem? (i := 897) (by decide +kernel), List.mem_of_getElem? (i := 1335) (by decide +kernel), List.mem_of_getElem? (i := 1336) (by decide +kernel)⟩
theorem lw_p34 : lw_okq (⟨"SplitChannelModel", "times", "(JJ)V"⟩, 47) := ⟨⟨by decide +kernel, by decide +kernel⟩, List.mem_of_getElem? (i := 897) (by decide +kernel), List.mem_of_getElem? (i := 1339) (by decide +kernel), List.mem_of_getElem? (i := 1340) (by decide +kernel)⟩
theorem lw_p35 : lw_okq (⟨"SplitChannelModel", "chances", "(III)V"⟩, 47) := ⟨⟨by decide +kernel, by decide +kernel⟩, List.mem_of_getElem? (i := 897) (by decide +kernel), List.mem_of_getElem? (i := 1353) (by decide +kernel), List.mem_of_getElem? (i := 1354) (by decide +kernel)⟩
theorem lw_p36 : lw_okq (⟨"SplitChannelModel", "chanceOf", "(III)V"⟩, 47) := ⟨⟨by decide +kernel, by decide +kernel⟩, List.mem_of_getElem? (i := 897) (by decide +kernel), List.mem_of_getElem? (i := 1357) (by decide +kernel), List.mem_of_getElem? (i := 1358) (by decide +kernel)⟩
theorem lw_p37 : lw_okq (⟨"SplitChannelModel", "keeps", "()V"⟩, 47) := ⟨⟨by decide +kernel, by decide +kernel⟩, List.mem_of_getElem? (i := 897) (by decide +kernel), List.mem_of_getElem? (i := 1370) (by decide +kernel), List.mem_of_getElem? (i := 1371) (by decide +kernel)⟩
theorem lw_p38 : lw_okq (⟨"SplitChannelModel", "allNow", "()I"⟩, 47) := ⟨⟨by decide +kernel, by decide +kernel⟩, List.mem_of_getElem? (i := 897) (by decide +kernel), List.mem_of_getElem? (i := 1374) (by decide +kernel), List.mem_of_getElem? (i := 1375) (by decide +kernel)⟩
theorem lw_p39 : lw_okq (⟨"SplitChannelModel", "goesBack", "(I)V"⟩, 47) := ⟨⟨by decide +kernel, by decide +kernel⟩, List.mem_of_getElem? (i := 897) (by decide +kernel), List.mem_of_getElem? (i := 1390) (by decide +kernel), List.mem_of_getElem? (i := 1391) (by decide +kernel)⟩
def lw_privs_3 : List (MethodName × Nat) := [(⟨"SplitChannelModel", "is", "(JJ)V"⟩, 47), (⟨"SplitChannelModel", "adds", "(JJ)V"⟩, 47), (⟨"SplitChannelModel", "times", "(JJ)V"⟩, 47), (⟨"SplitChannelModel", "chances", "(III)V"⟩, 47), (⟨"SplitChannelModel", "chanceOf", "(III)V"⟩, 47), (⟨"SplitChannelModel", "keeps", "()V"⟩, 47), (⟨"SplitChannelModel", "allNow", "()I"⟩, 47), (⟨"SplitChannelModel", "goesBack", "(I)V"⟩, 47)]
theorem lw_r3 : ∀ q ∈ lw_privs_3, lw_okq q := List.forall_mem_cons.mpr ⟨lw_p32, List.forall_mem_cons.mpr ⟨lw_p33, List.forall_mem_cons.mpr ⟨lw_p34, List.forall_mem_cons.mpr ⟨lw_p35, List.forall_mem_cons.mpr ⟨lw_p36, List.forall_mem_cons.mpr ⟨lw_p37, List.forall_mem_cons.mpr ⟨lw_p38, List.forall_mem_cons.mpr ⟨lw_p39, fun _ h => absurd h List.not_mem_nil⟩⟩⟩⟩⟩⟩⟩⟩
def lw_privs : List (MethodName × Nat) := lw_privs_1 ++ (lw_privs_2 ++ (lw_privs_3))
def lw_tbl : List Cond := k2_sels lw_privs ++ tables_1
theorem lw_privs_ok : ∀ q ∈ lw_privs, lw_okq q := by
  show ∀ q ∈ lw_privs_1 ++ (lw_privs_2 ++ (lw_privs_3)), lw_okq q
  exact List.forall_mem_append.mpr ⟨lw_r1, List.forall_mem_append.mpr ⟨lw_r2, lw_r3⟩⟩
end
section
/-! ===== BEGIN words of one list among another's, by their places ===== -/
theorem goodIn_r {big : List Cond} (ws : List Cond) (ps : List Nat) (hp : ws = ps.filterMap (fun i => big[i]?)) (h : ws.all goodWord = true) : GoodIn big ws := by
  intro w hw
  have h1 := List.all_eq_true.mp h w hw
  rw [hp] at hw
  obtain ⟨i, -, hi⟩ := List.mem_filterMap.mp hw
  have hm : w ∈ big := by first | exact List.mem_of_getElem? hi | exact List.getElem?_mem hi
  exact ⟨hm, good_of_word h1⟩
theorem goodIn_app {big a b : List Cond} (ha : GoodIn big a) (hb : GoodIn big b) : GoodIn big (a ++ b) := fun w h => (List.mem_append.mp h).elim (ha w) (hb w)
theorem goodIn_ca {big a b : List Cond} {c : Cond} (ha : GoodIn big (c :: a)) (hb : GoodIn big b) : GoodIn big (c :: (a ++ b)) := fun w h => (List.mem_cons.mp h).elim (fun e => ha w (List.mem_cons.mpr (Or.inl e))) (fun h => (List.mem_append.mp h).elim (fun h => ha w (List.mem_cons.mpr (Or.inr h))) (hb w))
theorem goodIn_sub {big ws : List Cond} (hm : ∀ w ∈ ws, w ∈ big) (h : ws.all goodWord = true) : GoodIn big ws := fun w hw => ⟨hm w hw, good_of_word (List.all_eq_true.mp h w hw)⟩
/-! ===== END ===== -/

/-! ===== BEGIN printed: names, fields, word lists, decode rows ===== -/
def RX0 : String := "SplitChannel$Acts"
def TX0 : u_T := fun k => match k with
  | 0 => ("SplitChannel$Acts", "kinds", "[I", true)
  | 1 => ("SplitChannel$Acts", "lawsBefore", "[I", true)
  | _ => ("SplitChannel$Acts", "made", "I", false)
def tyX0 : Nat → FieldType := fun k => match k with
  | 0 => .array .int
  | 1 => .array .int
  | _ => .int
abbrev wsX00 : List Cond := u_ws RX0 TX0 3
theorem nmX0 : ∀ a, a < 3 → ∀ b, b < 3 → a ≠ b → (TX0 a).2.1 ≠ (TX0 b).2.1 := by decide +kernel
theorem tyX0_ok : ∀ k, k < 3 → parseFieldDescriptor (TX0 k).2.2.1 = some (tyX0 k) := by decide +kernel
abbrev cX0_init : ByteArray := prog_2_method_1_code
def yX0_init : MethodName := ⟨RX0, "<init>", "()V"⟩
abbrev cX0_note : ByteArray := prog_2_method_2_code
def yX0_note : MethodName := ⟨RX0, "note", "(II)V"⟩
abbrev cX0_takeBack : ByteArray := prog_2_method_3_code
def yX0_takeBack : MethodName := ⟨RX0, "takeBack", "(LSplitChannel$Plan;)V"⟩
def RX1 : String := "SplitChannel$Course"
def TX1 : u_T := fun k => match k with
  | 0 => ("SplitChannel$Course", "sent", "[I", true)
  | 1 => ("SplitChannel$Course", "heard", "[I", true)
  | 2 => ("SplitChannel$Course", "through", "[I", true)
  | 3 => ("SplitChannel$Course", "depth", "[I", true)
  | 4 => ("SplitChannel$Course", "skipped", "[I", true)
  | 5 => ("SplitChannel$Course", "slotThrough", "[I", true)
  | 6 => ("SplitChannel$Course", "tried", "[I", true)
  | 7 => ("SplitChannel$Course", "bitsTaken", "[I", true)
  | 8 => ("SplitChannel$Course", "throughOrder", "[I", true)
  | 9 => ("SplitChannel$Course", "throughCount", "I", false)
  | 10 => ("SplitChannel$Course", "epochFirst", "[I", true)
  | 11 => ("SplitChannel$Course", "epochLast", "[I", true)
  | 12 => ("SplitChannel$Course", "epochWho", "[I", true)
  | _ => ("SplitChannel$Course", "epochCount", "I", false)
def tyX1 : Nat → FieldType := fun k => match k with
  | 0 => .array .int
  | 1 => .array .int
  | 2 => .array .int
  | 3 => .array .int
  | 4 => .array .int
  | 5 => .array .int
  | 6 => .array .int
  | 7 => .array .int
  | 8 => .array .int
  | 9 => .int
  | 10 => .array .int
  | 11 => .array .int
  | 12 => .array .int
  | _ => .int
abbrev wsX10 : List Cond := u_ws RX1 TX1 14
theorem nmX1 : ∀ a, a < 14 → ∀ b, b < 14 → a ≠ b → (TX1 a).2.1 ≠ (TX1 b).2.1 := by decide +kernel
theorem tyX1_ok : ∀ k, k < 14 → parseFieldDescriptor (TX1 k).2.2.1 = some (tyX1 k) := by decide +kernel
abbrev cX1_init : ByteArray := prog_3_method_1_code
def yX1_init : MethodName := ⟨RX1, "<init>", "()V"⟩
abbrev cX1_clear : ByteArray := prog_3_method_2_code
def yX1_clear : MethodName := ⟨RX1, "clear", "()V"⟩
abbrev cX1_deliver : ByteArray := prog_3_method_3_code
def yX1_deliver : MethodName := ⟨RX1, "deliver", "(II)V"⟩
abbrev cX1_openEpoch : ByteArray := prog_3_method_4_code
def yX1_openEpoch : MethodName := ⟨RX1, "openEpoch", "(II)V"⟩
abbrev cX1_lastSlot : ByteArray := prog_3_method_5_code
def yX1_lastSlot : MethodName := ⟨RX1, "lastSlot", "(I)I"⟩
abbrev cX1_slotsHeard : ByteArray := prog_3_method_6_code
def yX1_slotsHeard : MethodName := ⟨RX1, "slotsHeard", "(II)I"⟩
abbrev cX1_collisions : ByteArray := prog_3_method_7_code
def yX1_collisions : MethodName := ⟨RX1, "collisions", "(I)I"⟩
abbrev cX1_skipsMade : ByteArray := prog_3_method_8_code
def yX1_skipsMade : MethodName := ⟨RX1, "skipsMade", "(I)I"⟩
abbrev cX1_greatestDepth : ByteArray := prog_3_method_9_code
def yX1_greatestDepth : MethodName := ⟨RX1, "greatestDepth", "(I)I"⟩
def RX2 : String := "SplitChannel$Means"
def TX2 : u_T := fun k => match k with
  | 0 => ("SplitChannel$Means", "above", "[J", true)
  | 1 => ("SplitChannel$Means", "below", "[J", true)
  | 2 => ("SplitChannel$Means", "ways", "[J", true)
  | 3 => ("SplitChannel$Means", "sumAbove", "J", false)
  | _ => ("SplitChannel$Means", "sumBelow", "J", false)
def tyX2 : Nat → FieldType := fun k => match k with
  | 0 => .array .long
  | 1 => .array .long
  | 2 => .array .long
  | 3 => .long
  | _ => .long
abbrev wsX20 : List Cond := u_ws RX2 TX2 5
theorem nmX2 : ∀ a, a < 5 → ∀ b, b < 5 → a ≠ b → (TX2 a).2.1 ≠ (TX2 b).2.1 := by decide +kernel
theorem tyX2_ok : ∀ k, k < 5 → parseFieldDescriptor (TX2 k).2.2.1 = some (tyX2 k) := by decide +kernel
abbrev cX2_init : ByteArray := prog_4_method_1_code
def yX2_init : MethodName := ⟨RX2, "<init>", "()V"⟩
abbrev cX2_reckon : ByteArray := prog_4_method_2_code
def yX2_reckon : MethodName := ⟨RX2, "reckon", "(IIII)V"⟩
abbrev cX2_reckonSplit : ByteArray := prog_4_method_3_code
def yX2_reckonSplit : MethodName := ⟨RX2, "reckonSplit", "(IIII)V"⟩
abbrev cX2_reckonChance : ByteArray := prog_4_method_4_code
def yX2_reckonChance : MethodName := ⟨RX2, "reckonChance", "(III)V"⟩
abbrev cX2_splitWays : ByteArray := prog_4_method_5_code
def yX2_splitWays : MethodName := ⟨RX2, "splitWays", "(III)J"⟩
abbrev cX2_bothWays : ByteArray := prog_4_method_6_code
def yX2_bothWays : MethodName := ⟨RX2, "bothWays", "(III)J"⟩
abbrev cX2_place : ByteArray := prog_4_method_7_code
def yX2_place : MethodName := ⟨RX2, "place", "(II)I"⟩
abbrev cX2_bestCount : ByteArray := prog_4_method_8_code
def yX2_bestCount : MethodName := ⟨RX2, "bestCount", "(I)I"⟩
abbrev cX2_set : ByteArray := prog_4_method_9_code
def yX2_set : MethodName := ⟨RX2, "set", "(JJ)V"⟩
abbrev cX2_plus : ByteArray := prog_4_method_10_code
def yX2_plus : MethodName := ⟨RX2, "plus", "(JJ)V"⟩
abbrev cX2_common : ByteArray := prog_4_method_11_code
def yX2_common : MethodName := ⟨RX2, "common", "(JJ)J"⟩
abbrev cX2_power : ByteArray := prog_4_method_12_code
def yX2_power : MethodName := ⟨RX2, "power", "(JI)J"⟩
abbrev cX2_choose : ByteArray := prog_4_method_13_code
def yX2_choose : MethodName := ⟨RX2, "choose", "(II)J"⟩
def RX3 : String := "SplitChannel$Plan"
def TX3 : u_T := fun k => match k with
  | 0 => ("SplitChannel$Plan", "law", "I", false)
  | 1 => ("SplitChannel$Plan", "slots", "I", false)
  | 2 => ("SplitChannel$Plan", "skips", "I", false)
  | 3 => ("SplitChannel$Plan", "window", "I", false)
  | 4 => ("SplitChannel$Plan", "lines", "I", false)
  | 5 => ("SplitChannel$Plan", "senders", "I", false)
  | 6 => ("SplitChannel$Plan", "noises", "I", false)
  | 7 => ("SplitChannel$Plan", "comes", "[I", true)
  | 8 => ("SplitChannel$Plan", "bitCounts", "[I", true)
  | 9 => ("SplitChannel$Plan", "bits", "[I", true)
  | 10 => ("SplitChannel$Plan", "noiseSlots", "[I", true)
  | _ => ("SplitChannel$Plan", "noiseKinds", "[I", true)
def tyX3 : Nat → FieldType := fun k => match k with
  | 0 => .int
  | 1 => .int
  | 2 => .int
  | 3 => .int
  | 4 => .int
  | 5 => .int
  | 6 => .int
  | 7 => .array .int
  | 8 => .array .int
  | 9 => .array .int
  | 10 => .array .int
  | _ => .array .int
abbrev wsX30 : List Cond := u_ws RX3 TX3 12
theorem nmX3 : ∀ a, a < 12 → ∀ b, b < 12 → a ≠ b → (TX3 a).2.1 ≠ (TX3 b).2.1 := by decide +kernel
theorem tyX3_ok : ∀ k, k < 12 → parseFieldDescriptor (TX3 k).2.2.1 = some (tyX3 k) := by decide +kernel
abbrev cX3_init : ByteArray := prog_5_method_1_code
def yX3_init : MethodName := ⟨RX3, "<init>", "()V"⟩
abbrev cX3_clear : ByteArray := prog_5_method_2_code
def yX3_clear : MethodName := ⟨RX3, "clear", "()V"⟩
abbrev cX3_become : ByteArray := prog_5_method_3_code
def yX3_become : MethodName := ⟨RX3, "become", "(LSplitChannel$Plan;)V"⟩
abbrev cX3_addSender : ByteArray := prog_5_method_4_code
def yX3_addSender : MethodName := ⟨RX3, "addSender", "(III)V"⟩
abbrev cX3_addNoise : ByteArray := prog_5_method_5_code
def yX3_addNoise : MethodName := ⟨RX3, "addNoise", "(II)V"⟩
abbrev cX3_stands : ByteArray := prog_5_method_6_code
def yX3_stands : MethodName := ⟨RX3, "stands", "()Z"⟩
abbrev cX3_hasSender : ByteArray := prog_5_method_7_code
def yX3_hasSender : MethodName := ⟨RX3, "hasSender", "(I)Z"⟩
abbrev cX3_hasNoise : ByteArray := prog_5_method_8_code
def yX3_hasNoise : MethodName := ⟨RX3, "hasNoise", "(I)Z"⟩
abbrev cX3_hasSlot : ByteArray := prog_5_method_9_code
def yX3_hasSlot : MethodName := ⟨RX3, "hasSlot", "(I)Z"⟩
abbrev cX3_isNoisy : ByteArray := prog_5_method_10_code
def yX3_isNoisy : MethodName := ⟨RX3, "isNoisy", "(I)Z"⟩
abbrev cX3_bit : ByteArray := prog_5_method_11_code
def yX3_bit : MethodName := ⟨RX3, "bit", "(II)I"⟩
abbrev cX3_moment : ByteArray := prog_5_method_12_code
def yX3_moment : MethodName := ⟨RX3, "moment", "(I)I"⟩
def RX4 : String := "SplitChannel$Play"
def TX4 : u_T := fun k => match k with
  | 0 => ("SplitChannel$Play", "plan", "LSplitChannel$Plan;", true)
  | 1 => ("SplitChannel$Play", "groups", "LSplitChannel$Stack;", true)
  | 2 => ("SplitChannel$Play", "counters", "[I", true)
  | 3 => ("SplitChannel$Play", "course", "LSplitChannel$Course;", false)
  | 4 => ("SplitChannel$Play", "law", "I", false)
  | 5 => ("SplitChannel$Play", "noNoise", "I", false)
  | 6 => ("SplitChannel$Play", "noSender", "I", false)
  | 7 => ("SplitChannel$Play", "present", "I", false)
  | 8 => ("SplitChannel$Play", "windowed", "I", false)
  | 9 => ("SplitChannel$Play", "edge", "I", false)
  | 10 => ("SplitChannel$Play", "justSplit", "Z", false)
  | 11 => ("SplitChannel$Play", "skipsInRow", "I", false)
  | _ => ("SplitChannel$Play", "epochCounted", "Z", false)
def tyX4 : Nat → FieldType := fun k => match k with
  | 0 => .object "SplitChannel$Plan"
  | 1 => .object "SplitChannel$Stack"
  | 2 => .array .int
  | 3 => .object "SplitChannel$Course"
  | 4 => .int
  | 5 => .int
  | 6 => .int
  | 7 => .int
  | 8 => .int
  | 9 => .int
  | 10 => .boolean
  | 11 => .int
  | _ => .boolean
abbrev wsX40 : List Cond := u_ws RX4 TX4 13
theorem nmX4 : ∀ a, a < 13 → ∀ b, b < 13 → a ≠ b → (TX4 a).2.1 ≠ (TX4 b).2.1 := by decide +kernel
theorem tyX4_ok : ∀ k, k < 13 → parseFieldDescriptor (TX4 k).2.2.1 = some (tyX4 k) := by decide +kernel
abbrev cX4_init : ByteArray := prog_6_method_1_code
def yX4_init : MethodName := ⟨RX4, "<init>", "()V"⟩
abbrev cX4_run : ByteArray := prog_6_method_2_code
def yX4_run : MethodName := ⟨RX4, "run", "(LSplitChannel$Course;III)I"⟩
abbrev cX4_welcome : ByteArray := prog_6_method_3_code
def yX4_welcome : MethodName := ⟨RX4, "welcome", "(I)V"⟩
abbrev cX4_playByGroups : ByteArray := prog_6_method_4_code
def yX4_playByGroups : MethodName := ⟨RX4, "playByGroups", "(I)V"⟩
abbrev cX4_maySkip : ByteArray := prog_6_method_5_code
def yX4_maySkip : MethodName := ⟨RX4, "maySkip", "()Z"⟩
abbrev cX4_beginEpoch : ByteArray := prog_6_method_6_code
def yX4_beginEpoch : MethodName := ⟨RX4, "beginEpoch", "(I)V"⟩
abbrev cX4_endEpoch : ByteArray := prog_6_method_7_code
def yX4_endEpoch : MethodName := ⟨RX4, "endEpoch", "(I)V"⟩
abbrev cX4_within : ByteArray := prog_6_method_8_code
def yX4_within : MethodName := ⟨RX4, "within", "(III)I"⟩
abbrev cX4_splitTop : ByteArray := prog_6_method_9_code
def yX4_splitTop : MethodName := ⟨RX4, "splitTop", "()V"⟩
abbrev cX4_takeBits : ByteArray := prog_6_method_10_code
def yX4_takeBits : MethodName := ⟨RX4, "takeBits", "(I)I"⟩
abbrev cX4_nextBit : ByteArray := prog_6_method_11_code
def yX4_nextBit : MethodName := ⟨RX4, "nextBit", "(I)I"⟩
abbrev cX4_listen : ByteArray := prog_6_method_12_code
def yX4_listen : MethodName := ⟨RX4, "listen", "(II)I"⟩
abbrev cX4_heardAt : ByteArray := prog_6_method_13_code
def yX4_heardAt : MethodName := ⟨RX4, "heardAt", "(II)I"⟩
abbrev cX4_playByCounters : ByteArray := prog_6_method_14_code
def yX4_playByCounters : MethodName := ⟨RX4, "playByCounters", "(I)V"⟩
abbrev cX4_counterBehind : ByteArray := prog_6_method_15_code
def yX4_counterBehind : MethodName := ⟨RX4, "counterBehind", "(IZZ)I"⟩
def RX5 : String := "SplitChannel$Reader"
def TX5 : u_T := fun k => match k with
  | 0 => ("SplitChannel$Reader", "tape", "LSplitChannel$Tape;", true)
  | 1 => ("SplitChannel$Reader", "draft", "LSplitChannel$Plan;", true)
  | 2 => ("SplitChannel$Reader", "kind", "I", false)
  | 3 => ("SplitChannel$Reader", "start", "I", false)
  | 4 => ("SplitChannel$Reader", "next", "I", false)
  | 5 => ("SplitChannel$Reader", "value", "I", false)
  | 6 => ("SplitChannel$Reader", "fault", "I", false)
  | _ => ("SplitChannel$Reader", "place", "I", false)
def tyX5 : Nat → FieldType := fun k => match k with
  | 0 => .object "SplitChannel$Tape"
  | 1 => .object "SplitChannel$Plan"
  | 2 => .int
  | 3 => .int
  | 4 => .int
  | 5 => .int
  | 6 => .int
  | _ => .int
abbrev wsX50 : List Cond := u_ws RX5 TX5 8
theorem nmX5 : ∀ a, a < 8 → ∀ b, b < 8 → a ≠ b → (TX5 a).2.1 ≠ (TX5 b).2.1 := by decide +kernel
theorem tyX5_ok : ∀ k, k < 8 → parseFieldDescriptor (TX5 k).2.2.1 = some (tyX5 k) := by decide +kernel
abbrev cX5_init : ByteArray := prog_7_method_1_code
def yX5_init : MethodName := ⟨RX5, "<init>", "()V"⟩
abbrev cX5_read : ByteArray := prog_7_method_2_code
def yX5_read : MethodName := ⟨RX5, "read", "()Z"⟩
abbrev cX5_readLine : ByteArray := prog_7_method_3_code
def yX5_readLine : MethodName := ⟨RX5, "readLine", "()Z"⟩
abbrev cX5_readChannel : ByteArray := prog_7_method_4_code
def yX5_readChannel : MethodName := ⟨RX5, "readChannel", "()Z"⟩
abbrev cX5_readSender : ByteArray := prog_7_method_5_code
def yX5_readSender : MethodName := ⟨RX5, "readSender", "()Z"⟩
abbrev cX5_readNoise : ByteArray := prog_7_method_6_code
def yX5_readNoise : MethodName := ⟨RX5, "readNoise", "()Z"⟩
abbrev cX5_readWord : ByteArray := prog_7_method_7_code
def yX5_readWord : MethodName := ⟨RX5, "readWord", "(Ljava/lang/String;)Z"⟩
abbrev cX5_readNumber : ByteArray := prog_7_method_8_code
def yX5_readNumber : MethodName := ⟨RX5, "readNumber", "(II)Z"⟩
abbrev cX5_readBits : ByteArray := prog_7_method_9_code
def yX5_readBits : MethodName := ⟨RX5, "readBits", "()Z"⟩
abbrev cX5_readKind : ByteArray := prog_7_method_10_code
def yX5_readKind : MethodName := ⟨RX5, "readKind", "()Z"⟩
abbrev cX5_readSign : ByteArray := prog_7_method_11_code
def yX5_readSign : MethodName := ⟨RX5, "readSign", "()Z"⟩
abbrev cX5_refuse : ByteArray := prog_7_method_12_code
def yX5_refuse : MethodName := ⟨RX5, "refuse", "(I)Z"⟩
abbrev cX5_isWord : ByteArray := prog_7_method_13_code
def yX5_isWord : MethodName := ⟨RX5, "isWord", "(Ljava/lang/String;)Z"⟩
abbrev cX5_step : ByteArray := prog_7_method_14_code
def yX5_step : MethodName := ⟨RX5, "step", "()V"⟩
abbrev cX5_isBlank : ByteArray := prog_7_method_15_code
def yX5_isBlank : MethodName := ⟨RX5, "isBlank", "(I)Z"⟩
abbrev cX5_kindOf : ByteArray := prog_7_method_16_code
def yX5_kindOf : MethodName := ⟨RX5, "kindOf", "(I)I"⟩
def RX6 : String := "SplitChannel$Stack"
def TX6 : u_T := fun k => match k with
  | 0 => ("SplitChannel$Stack", "who", "[I", true)
  | 1 => ("SplitChannel$Stack", "from", "[I", true)
  | 2 => ("SplitChannel$Stack", "to", "[I", true)
  | _ => ("SplitChannel$Stack", "size", "I", false)
def tyX6 : Nat → FieldType := fun k => match k with
  | 0 => .array .int
  | 1 => .array .int
  | 2 => .array .int
  | _ => .int
abbrev wsX60 : List Cond := u_ws RX6 TX6 4
theorem nmX6 : ∀ a, a < 4 → ∀ b, b < 4 → a ≠ b → (TX6 a).2.1 ≠ (TX6 b).2.1 := by decide +kernel
theorem tyX6_ok : ∀ k, k < 4 → parseFieldDescriptor (TX6 k).2.2.1 = some (tyX6 k) := by decide +kernel
abbrev cX6_init : ByteArray := prog_8_method_1_code
def yX6_init : MethodName := ⟨RX6, "<init>", "()V"⟩
abbrev cX6_push : ByteArray := prog_8_method_2_code
def yX6_push : MethodName := ⟨RX6, "push", "(III)V"⟩
abbrev cX6_pop : ByteArray := prog_8_method_3_code
def yX6_pop : MethodName := ⟨RX6, "pop", "()V"⟩
abbrev cX6_topWho : ByteArray := prog_8_method_4_code
def yX6_topWho : MethodName := ⟨RX6, "topWho", "()I"⟩
def RX7 : String := "SplitChannel$Tape"
def TX7 : u_T := fun k => match k with
  | 0 => ("SplitChannel$Tape", "bytes", "[I", true)
  | _ => ("SplitChannel$Tape", "length", "I", false)
def tyX7 : Nat → FieldType := fun k => match k with
  | 0 => .array .int
  | _ => .int
abbrev wsX70 : List Cond := u_ws RX7 TX7 2
theorem nmX7 : ∀ a, a < 2 → ∀ b, b < 2 → a ≠ b → (TX7 a).2.1 ≠ (TX7 b).2.1 := by decide +kernel
theorem tyX7_ok : ∀ k, k < 2 → parseFieldDescriptor (TX7 k).2.2.1 = some (tyX7 k) := by decide +kernel
abbrev cX7_init : ByteArray := prog_9_method_1_code
def yX7_init : MethodName := ⟨RX7, "<init>", "()V"⟩
abbrev cX7_append : ByteArray := prog_9_method_2_code
def yX7_append : MethodName := ⟨RX7, "append", "(I)V"⟩
def RX8 : String := "SplitChannel"
def TX8 : u_T := fun k => match k with
  | 0 => ("SplitChannel", "reader", "LSplitChannel$Reader;", true)
  | 1 => ("SplitChannel", "tape", "LSplitChannel$Tape;", true)
  | 2 => ("SplitChannel", "draft", "LSplitChannel$Plan;", true)
  | 3 => ("SplitChannel", "play", "LSplitChannel$Play;", true)
  | 4 => ("SplitChannel", "plan", "LSplitChannel$Plan;", true)
  | 5 => ("SplitChannel", "now", "LSplitChannel$Course;", true)
  | 6 => ("SplitChannel", "other", "LSplitChannel$Course;", true)
  | 7 => ("SplitChannel", "acts", "LSplitChannel$Acts;", true)
  | _ => ("SplitChannel", "means", "LSplitChannel$Means;", true)
def tyX8 : Nat → FieldType := fun k => match k with
  | 0 => .object "SplitChannel$Reader"
  | 1 => .object "SplitChannel$Tape"
  | 2 => .object "SplitChannel$Plan"
  | 3 => .object "SplitChannel$Play"
  | 4 => .object "SplitChannel$Plan"
  | 5 => .object "SplitChannel$Course"
  | 6 => .object "SplitChannel$Course"
  | 7 => .object "SplitChannel$Acts"
  | _ => .object "SplitChannel$Means"
abbrev wsX80 : List Cond := u_ws RX8 TX8 9
theorem nmX8 : ∀ a, a < 9 → ∀ b, b < 9 → a ≠ b → (TX8 a).2.1 ≠ (TX8 b).2.1 := by decide +kernel
theorem tyX8_ok : ∀ k, k < 9 → parseFieldDescriptor (TX8 k).2.2.1 = some (tyX8 k) := by decide +kernel
abbrev cX8_init : ByteArray := prog_1_method_1_code
def yX8_init : MethodName := ⟨RX8, "<init>", "()V"⟩
abbrev cX8_feed : ByteArray := prog_1_method_2_code
def yX8_feed : MethodName := ⟨RX8, "feed", "(IIIII)I"⟩
abbrev cX8_end : ByteArray := prog_1_method_3_code
def yX8_end : MethodName := ⟨RX8, "end", "(I)I"⟩
abbrev cX8_channel : ByteArray := prog_1_method_4_code
def yX8_channel : MethodName := ⟨RX8, "channel", "()I"⟩
abbrev cX8_fault : ByteArray := prog_1_method_5_code
def yX8_fault : MethodName := ⟨RX8, "fault", "(I)I"⟩
abbrev cX8_count : ByteArray := prog_1_method_6_code
def yX8_count : MethodName := ⟨RX8, "count", "(I)I"⟩
abbrev cX8_sender : ByteArray := prog_1_method_7_code
def yX8_sender : MethodName := ⟨RX8, "sender", "(II)I"⟩
abbrev cX8_slot : ByteArray := prog_1_method_8_code
def yX8_slot : MethodName := ⟨RX8, "slot", "(II)I"⟩
abbrev cX8_sends : ByteArray := prog_1_method_9_code
def yX8_sends : MethodName := ⟨RX8, "sends", "(II)I"⟩
abbrev cX8_delivered : ByteArray := prog_1_method_10_code
def yX8_delivered : MethodName := ⟨RX8, "delivered", "(I)I"⟩
abbrev cX8_tries : ByteArray := prog_1_method_11_code
def yX8_tries : MethodName := ⟨RX8, "tries", "(I)I"⟩
abbrev cX8_taken : ByteArray := prog_1_method_12_code
def yX8_taken : MethodName := ⟨RX8, "taken", "(I)I"⟩
abbrev cX8_order : ByteArray := prog_1_method_13_code
def yX8_order : MethodName := ⟨RX8, "order", "(I)I"⟩
abbrev cX8_all : ByteArray := prog_1_method_14_code
def yX8_all : MethodName := ⟨RX8, "all", "()I"⟩
abbrev cX8_done : ByteArray := prog_1_method_15_code
def yX8_done : MethodName := ⟨RX8, "done", "()I"⟩
abbrev cX8_heard : ByteArray := prog_1_method_16_code
def yX8_heard : MethodName := ⟨RX8, "heard", "(I)I"⟩
abbrev cX8_collided : ByteArray := prog_1_method_17_code
def yX8_collided : MethodName := ⟨RX8, "collided", "()I"⟩
abbrev cX8_skips : ByteArray := prog_1_method_18_code
def yX8_skips : MethodName := ⟨RX8, "skips", "()I"⟩
abbrev cX8_deepest : ByteArray := prog_1_method_19_code
def yX8_deepest : MethodName := ⟨RX8, "deepest", "()I"⟩
abbrev cX8_epochs : ByteArray := prog_1_method_20_code
def yX8_epochs : MethodName := ⟨RX8, "epochs", "()I"⟩
abbrev cX8_epoch : ByteArray := prog_1_method_21_code
def yX8_epoch : MethodName := ⟨RX8, "epoch", "(II)I"⟩
abbrev cX8_behind : ByteArray := prog_1_method_22_code
def yX8_behind : MethodName := ⟨RX8, "behind", "(I)I"⟩
abbrev cX8_by : ByteArray := prog_1_method_23_code
def yX8_by : MethodName := ⟨RX8, "by", "(II)I"⟩
abbrev cX8_without : ByteArray := prog_1_method_24_code
def yX8_without : MethodName := ⟨RX8, "without", "(I)I"⟩
abbrev cX8_noise : ByteArray := prog_1_method_25_code
def yX8_noise : MethodName := ⟨RX8, "noise", "(II)I"⟩
abbrev cX8_alone : ByteArray := prog_1_method_26_code
def yX8_alone : MethodName := ⟨RX8, "alone", "(I)I"⟩
abbrev cX8_worst : ByteArray := prog_1_method_27_code
def yX8_worst : MethodName := ⟨RX8, "worst", "()I"⟩
abbrev cX8_mean : ByteArray := prog_1_method_28_code
def yX8_mean : MethodName := ⟨RX8, "mean", "(III)J"⟩
abbrev cX8_leaning : ByteArray := prog_1_method_29_code
def yX8_leaning : MethodName := ⟨RX8, "leaning", "(IIIII)J"⟩
abbrev cX8_chance : ByteArray := prog_1_method_30_code
def yX8_chance : MethodName := ⟨RX8, "chance", "(IIII)J"⟩
abbrev cX8_best : ByteArray := prog_1_method_31_code
def yX8_best : MethodName := ⟨RX8, "best", "(I)I"⟩
abbrev cX8_add : ByteArray := prog_1_method_32_code
def yX8_add : MethodName := ⟨RX8, "add", "(III)I"⟩
abbrev cX8_disturb : ByteArray := prog_1_method_33_code
def yX8_disturb : MethodName := ⟨RX8, "disturb", "(II)I"⟩
abbrev cX8_rule : ByteArray := prog_1_method_34_code
def yX8_rule : MethodName := ⟨RX8, "rule", "(I)I"⟩
abbrev cX8_undo : ByteArray := prog_1_method_35_code
def yX8_undo : MethodName := ⟨RX8, "undo", "()I"⟩
abbrev cX8_anew : ByteArray := prog_1_method_36_code
def yX8_anew : MethodName := ⟨RX8, "anew", "()I"⟩
abbrev cX8_isLaw : ByteArray := prog_1_method_37_code
def yX8_isLaw : MethodName := ⟨RX8, "isLaw", "(I)Z"⟩
abbrev cX8_isTreeLaw : ByteArray := prog_1_method_38_code
def yX8_isTreeLaw : MethodName := ⟨RX8, "isTreeLaw", "(I)Z"⟩
abbrev cX8_isPart : ByteArray := prog_1_method_39_code
def yX8_isPart : MethodName := ⟨RX8, "isPart", "(I)Z"⟩
abbrev cX8_at : ByteArray := prog_1_method_40_code
def yX8_at : MethodName := ⟨RX8, "at", "([II)I"⟩
abbrev cX8_put : ByteArray := prog_1_method_41_code
def yX8_put : MethodName := ⟨RX8, "put", "([III)V"⟩
abbrev cX8_at_ : ByteArray := prog_1_method_42_code
def yX8_at_ : MethodName := ⟨RX8, "at", "([JI)J"⟩
abbrev cX8_put_ : ByteArray := prog_1_method_43_code
def yX8_put_ : MethodName := ⟨RX8, "put", "([JIJ)V"⟩
def RX9 : String := "SplitChannelModel"
def TX9 : u_T := fun k => match k with
  | 0 => ("SplitChannelModel", "mem", "[I", true)
  | 1 => ("SplitChannelModel", "was", "[I", true)
  | 2 => ("SplitChannelModel", "past", "[I", true)
  | 3 => ("SplitChannelModel", "acted", "I", false)
  | 4 => ("SplitChannelModel", "tape", "[I", true)
  | 5 => ("SplitChannelModel", "taped", "I", false)
  | 6 => ("SplitChannelModel", "faultKind", "I", false)
  | 7 => ("SplitChannelModel", "faultPlace", "I", false)
  | 8 => ("SplitChannelModel", "at", "I", false)
  | 9 => ("SplitChannelModel", "begin", "I", false)
  | 10 => ("SplitChannelModel", "token", "I", false)
  | 11 => ("SplitChannelModel", "value", "I", false)
  | 12 => ("SplitChannelModel", "bad", "Z", false)
  | 13 => ("SplitChannelModel", "badKind", "I", false)
  | 14 => ("SplitChannelModel", "badPlace", "I", false)
  | 15 => ("SplitChannelModel", "rule", "I", false)
  | 16 => ("SplitChannelModel", "silent", "I", false)
  | 17 => ("SplitChannelModel", "absent", "I", false)
  | 18 => ("SplitChannelModel", "who", "[I", true)
  | 19 => ("SplitChannelModel", "from", "[I", true)
  | 20 => ("SplitChannelModel", "to", "[I", true)
  | 21 => ("SplitChannelModel", "groups", "I", false)
  | 22 => ("SplitChannelModel", "isOn", "Z", false)
  | 23 => ("SplitChannelModel", "isFresh", "Z", false)
  | 24 => ("SplitChannelModel", "row", "I", false)
  | 25 => ("SplitChannelModel", "edge", "I", false)
  | 26 => ("SplitChannelModel", "left", "I", false)
  | 27 => ("SplitChannelModel", "bitsTaken", "[I", true)
  | 28 => ("SplitChannelModel", "counter", "[I", true)
  | 29 => ("SplitChannelModel", "when", "[I", true)
  | 30 => ("SplitChannelModel", "slotWho", "[I", true)
  | 31 => ("SplitChannelModel", "slotHeard", "[I", true)
  | 32 => ("SplitChannelModel", "slotGone", "[I", true)
  | 33 => ("SplitChannelModel", "slotDeep", "[I", true)
  | 34 => ("SplitChannelModel", "slotSkips", "[I", true)
  | 35 => ("SplitChannelModel", "epochFirst", "[I", true)
  | 36 => ("SplitChannelModel", "epochLast", "[I", true)
  | 37 => ("SplitChannelModel", "epochWho", "[I", true)
  | 38 => ("SplitChannelModel", "epochs", "I", false)
  | 39 => ("SplitChannelModel", "isCounted", "Z", false)
  | 40 => ("SplitChannelModel", "deliveredAll", "I", false)
  | 41 => ("SplitChannelModel", "above", "J", false)
  | 42 => ("SplitChannelModel", "below", "J", false)
  | 43 => ("SplitChannelModel", "meanAbove", "[J", true)
  | 44 => ("SplitChannelModel", "meanBelow", "[J", true)
  | 45 => ("SplitChannelModel", "chanceAbove", "[J", true)
  | _ => ("SplitChannelModel", "chanceBelow", "[J", true)
def tyX9 : Nat → FieldType := fun k => match k with
  | 0 => .array .int
  | 1 => .array .int
  | 2 => .array .int
  | 3 => .int
  | 4 => .array .int
  | 5 => .int
  | 6 => .int
  | 7 => .int
  | 8 => .int
  | 9 => .int
  | 10 => .int
  | 11 => .int
  | 12 => .boolean
  | 13 => .int
  | 14 => .int
  | 15 => .int
  | 16 => .int
  | 17 => .int
  | 18 => .array .int
  | 19 => .array .int
  | 20 => .array .int
  | 21 => .int
  | 22 => .boolean
  | 23 => .boolean
  | 24 => .int
  | 25 => .int
  | 26 => .int
  | 27 => .array .int
  | 28 => .array .int
  | 29 => .array .int
  | 30 => .array .int
  | 31 => .array .int
  | 32 => .array .int
  | 33 => .array .int
  | 34 => .array .int
  | 35 => .array .int
  | 36 => .array .int
  | 37 => .array .int
  | 38 => .int
  | 39 => .boolean
  | 40 => .int
  | 41 => .long
  | 42 => .long
  | 43 => .array .long
  | 44 => .array .long
  | 45 => .array .long
  | _ => .array .long
abbrev wsX90 : List Cond := u_ws RX9 TX9 47
theorem nmX9 : ∀ a, a < 47 → ∀ b, b < 47 → a ≠ b → (TX9 a).2.1 ≠ (TX9 b).2.1 := by decide +kernel
theorem tyX9_ok : ∀ k, k < 47 → parseFieldDescriptor (TX9 k).2.2.1 = some (tyX9 k) := by decide +kernel
abbrev cX9_in : ByteArray := prog_11_method_1_code
def yX9_in : MethodName := ⟨RX9, "in", "(JJJ)Z"⟩
abbrev cX9_has : ByteArray := prog_11_method_2_code
def yX9_has : MethodName := ⟨RX9, "has", "(II)Z"⟩
abbrev cX9_bitsOf : ByteArray := prog_11_method_3_code
def yX9_bitsOf : MethodName := ⟨RX9, "bitsOf", "(I)I"⟩
abbrev cX9_init : ByteArray := prog_11_method_4_code
def yX9_init : MethodName := ⟨RX9, "<init>", "()V"⟩
abbrev cX9_feed : ByteArray := prog_11_method_5_code
def yX9_feed : MethodName := ⟨RX9, "feed", "(IIIII)I"⟩
abbrev cX9_end : ByteArray := prog_11_method_6_code
def yX9_end : MethodName := ⟨RX9, "end", "(I)I"⟩
abbrev cX9_isAt : ByteArray := prog_11_method_7_code
def yX9_isAt : MethodName := ⟨RX9, "isAt", "(II)Z"⟩
abbrev cX9_next : ByteArray := prog_11_method_8_code
def yX9_next : MethodName := ⟨RX9, "next", "()V"⟩
abbrev cX9_faults : ByteArray := prog_11_method_9_code
def yX9_faults : MethodName := ⟨RX9, "faults", "(I)V"⟩
abbrev cX9_isWord : ByteArray := prog_11_method_10_code
def yX9_isWord : MethodName := ⟨RX9, "isWord", "(Ljava/lang/String;)Z"⟩
abbrev cX9_passes : ByteArray := prog_11_method_11_code
def yX9_passes : MethodName := ⟨RX9, "passes", "(Z)V"⟩
abbrev cX9_reads : ByteArray := prog_11_method_12_code
def yX9_reads : MethodName := ⟨RX9, "reads", "(II)I"⟩
abbrev cX9_named : ByteArray := prog_11_method_13_code
def yX9_named : MethodName := ⟨RX9, "named", "(Ljava/lang/String;II)I"⟩
abbrev cX9_readsChannel : ByteArray := prog_11_method_14_code
def yX9_readsChannel : MethodName := ⟨RX9, "readsChannel", "()V"⟩
abbrev cX9_readsSender : ByteArray := prog_11_method_15_code
def yX9_readsSender : MethodName := ⟨RX9, "readsSender", "()V"⟩
abbrev cX9_isNoisy : ByteArray := prog_11_method_16_code
def yX9_isNoisy : MethodName := ⟨RX9, "isNoisy", "(I)Z"⟩
abbrev cX9_readsNoise : ByteArray := prog_11_method_17_code
def yX9_readsNoise : MethodName := ⟨RX9, "readsNoise", "()V"⟩
abbrev cX9_channel : ByteArray := prog_11_method_18_code
def yX9_channel : MethodName := ⟨RX9, "channel", "()I"⟩
abbrev cX9_fault : ByteArray := prog_11_method_19_code
def yX9_fault : MethodName := ⟨RX9, "fault", "(I)I"⟩
abbrev cX9_is : ByteArray := prog_11_method_20_code
def yX9_is : MethodName := ⟨RX9, "is", "()Z"⟩
abbrev cX9_isSender : ByteArray := prog_11_method_21_code
def yX9_isSender : MethodName := ⟨RX9, "isSender", "(I)Z"⟩
abbrev cX9_count : ByteArray := prog_11_method_22_code
def yX9_count : MethodName := ⟨RX9, "count", "(I)I"⟩
abbrev cX9_bitOf : ByteArray := prog_11_method_23_code
def yX9_bitOf : MethodName := ⟨RX9, "bitOf", "(II)I"⟩
abbrev cX9_sender : ByteArray := prog_11_method_24_code
def yX9_sender : MethodName := ⟨RX9, "sender", "(II)I"⟩
abbrev cX9_noise : ByteArray := prog_11_method_25_code
def yX9_noise : MethodName := ⟨RX9, "noise", "(II)I"⟩
abbrev cX9_momentOf : ByteArray := prog_11_method_26_code
def yX9_momentOf : MethodName := ⟨RX9, "momentOf", "(II)I"⟩
abbrev cX9_runs : ByteArray := prog_11_method_27_code
def yX9_runs : MethodName := ⟨RX9, "runs", "()V"⟩
abbrev cX9_runsBy : ByteArray := prog_11_method_28_code
def yX9_runsBy : MethodName := ⟨RX9, "runsBy", "(III)V"⟩
abbrev cX9_waiting : ByteArray := prog_11_method_29_code
def yX9_waiting : MethodName := ⟨RX9, "waiting", "(I)I"⟩
abbrev cX9_heardAt : ByteArray := prog_11_method_30_code
def yX9_heardAt : MethodName := ⟨RX9, "heardAt", "(II)I"⟩
abbrev cX9_sent : ByteArray := prog_11_method_31_code
def yX9_sent : MethodName := ⟨RX9, "sent", "(II)I"⟩
abbrev cX9_takesBit : ByteArray := prog_11_method_32_code
def yX9_takesBit : MethodName := ⟨RX9, "takesBit", "(I)I"⟩
abbrev cX9_goesByCounters : ByteArray := prog_11_method_33_code
def yX9_goesByCounters : MethodName := ⟨RX9, "goesByCounters", "(I)V"⟩
abbrev cX9_goesByGroups : ByteArray := prog_11_method_34_code
def yX9_goesByGroups : MethodName := ⟨RX9, "goesByGroups", "(I)V"⟩
abbrev cX9_begins : ByteArray := prog_11_method_35_code
def yX9_begins : MethodName := ⟨RX9, "begins", "(I)V"⟩
abbrev cX9_ends : ByteArray := prog_11_method_36_code
def yX9_ends : MethodName := ⟨RX9, "ends", "(I)V"⟩
abbrev cX9_between : ByteArray := prog_11_method_37_code
def yX9_between : MethodName := ⟨RX9, "between", "(III)I"⟩
abbrev cX9_splits : ByteArray := prog_11_method_38_code
def yX9_splits : MethodName := ⟨RX9, "splits", "()V"⟩
abbrev cX9_isSlot : ByteArray := prog_11_method_39_code
def yX9_isSlot : MethodName := ⟨RX9, "isSlot", "(I)Z"⟩
abbrev cX9_slot : ByteArray := prog_11_method_40_code
def yX9_slot : MethodName := ⟨RX9, "slot", "(II)I"⟩
abbrev cX9_sends : ByteArray := prog_11_method_41_code
def yX9_sends : MethodName := ⟨RX9, "sends", "(II)I"⟩
abbrev cX9_delivered : ByteArray := prog_11_method_42_code
def yX9_delivered : MethodName := ⟨RX9, "delivered", "(I)I"⟩
abbrev cX9_tries : ByteArray := prog_11_method_43_code
def yX9_tries : MethodName := ⟨RX9, "tries", "(I)I"⟩
abbrev cX9_taken : ByteArray := prog_11_method_44_code
def yX9_taken : MethodName := ⟨RX9, "taken", "(I)I"⟩
abbrev cX9_order : ByteArray := prog_11_method_45_code
def yX9_order : MethodName := ⟨RX9, "order", "(I)I"⟩
abbrev cX9_all : ByteArray := prog_11_method_46_code
def yX9_all : MethodName := ⟨RX9, "all", "()I"⟩
abbrev cX9_lastOf : ByteArray := prog_11_method_47_code
def yX9_lastOf : MethodName := ⟨RX9, "lastOf", "()I"⟩
abbrev cX9_done : ByteArray := prog_11_method_48_code
def yX9_done : MethodName := ⟨RX9, "done", "()I"⟩
abbrev cX9_heard : ByteArray := prog_11_method_49_code
def yX9_heard : MethodName := ⟨RX9, "heard", "(I)I"⟩
abbrev cX9_collisions : ByteArray := prog_11_method_50_code
def yX9_collisions : MethodName := ⟨RX9, "collisions", "()I"⟩
abbrev cX9_skipsAll : ByteArray := prog_11_method_51_code
def yX9_skipsAll : MethodName := ⟨RX9, "skipsAll", "()I"⟩
abbrev cX9_collided : ByteArray := prog_11_method_52_code
def yX9_collided : MethodName := ⟨RX9, "collided", "()I"⟩
abbrev cX9_skips : ByteArray := prog_11_method_53_code
def yX9_skips : MethodName := ⟨RX9, "skips", "()I"⟩
abbrev cX9_deepest : ByteArray := prog_11_method_54_code
def yX9_deepest : MethodName := ⟨RX9, "deepest", "()I"⟩
abbrev cX9_epochs : ByteArray := prog_11_method_55_code
def yX9_epochs : MethodName := ⟨RX9, "epochs", "()I"⟩
abbrev cX9_epoch : ByteArray := prog_11_method_56_code
def yX9_epoch : MethodName := ⟨RX9, "epoch", "(II)I"⟩
abbrev cX9_behind : ByteArray := prog_11_method_57_code
def yX9_behind : MethodName := ⟨RX9, "behind", "(I)I"⟩
abbrev cX9_by : ByteArray := prog_11_method_58_code
def yX9_by : MethodName := ⟨RX9, "by", "(II)I"⟩
abbrev cX9_moreWithout : ByteArray := prog_11_method_59_code
def yX9_moreWithout : MethodName := ⟨RX9, "moreWithout", "(I)I"⟩
abbrev cX9_without : ByteArray := prog_11_method_60_code
def yX9_without : MethodName := ⟨RX9, "without", "(I)I"⟩
abbrev cX9_alone : ByteArray := prog_11_method_61_code
def yX9_alone : MethodName := ⟨RX9, "alone", "(I)I"⟩
abbrev cX9_worst : ByteArray := prog_11_method_62_code
def yX9_worst : MethodName := ⟨RX9, "worst", "()I"⟩
abbrev cX9_common : ByteArray := prog_11_method_63_code
def yX9_common : MethodName := ⟨RX9, "common", "(JJ)J"⟩
abbrev cX9_is_ : ByteArray := prog_11_method_64_code
def yX9_is_ : MethodName := ⟨RX9, "is", "(JJ)V"⟩
abbrev cX9_adds : ByteArray := prog_11_method_65_code
def yX9_adds : MethodName := ⟨RX9, "adds", "(JJ)V"⟩
abbrev cX9_times : ByteArray := prog_11_method_66_code
def yX9_times : MethodName := ⟨RX9, "times", "(JJ)V"⟩
abbrev cX9_choose : ByteArray := prog_11_method_67_code
def yX9_choose : MethodName := ⟨RX9, "choose", "(II)J"⟩
abbrev cX9_power : ByteArray := prog_11_method_68_code
def yX9_power : MethodName := ⟨RX9, "power", "(JI)J"⟩
abbrev cX9_means : ByteArray := prog_11_method_69_code
def yX9_means : MethodName := ⟨RX9, "means", "(IIJJ)V"⟩
abbrev cX9_isMean : ByteArray := prog_11_method_70_code
def yX9_isMean : MethodName := ⟨RX9, "isMean", "(IIII)Z"⟩
abbrev cX9_mean : ByteArray := prog_11_method_71_code
def yX9_mean : MethodName := ⟨RX9, "mean", "(III)J"⟩
abbrev cX9_leaning : ByteArray := prog_11_method_72_code
def yX9_leaning : MethodName := ⟨RX9, "leaning", "(IIIII)J"⟩
abbrev cX9_chances : ByteArray := prog_11_method_73_code
def yX9_chances : MethodName := ⟨RX9, "chances", "(III)V"⟩
abbrev cX9_chanceOf : ByteArray := prog_11_method_74_code
def yX9_chanceOf : MethodName := ⟨RX9, "chanceOf", "(III)V"⟩
abbrev cX9_chance : ByteArray := prog_11_method_75_code
def yX9_chance : MethodName := ⟨RX9, "chance", "(IIII)J"⟩
abbrev cX9_best : ByteArray := prog_11_method_76_code
def yX9_best : MethodName := ⟨RX9, "best", "(I)I"⟩
abbrev cX9_keeps : ByteArray := prog_11_method_77_code
def yX9_keeps : MethodName := ⟨RX9, "keeps", "()V"⟩
abbrev cX9_goesBack : ByteArray := prog_11_method_78_code
def yX9_goesBack : MethodName := ⟨RX9, "goesBack", "(I)V"⟩
abbrev cX9_allNow : ByteArray := prog_11_method_79_code
def yX9_allNow : MethodName := ⟨RX9, "allNow", "()I"⟩
abbrev cX9_add : ByteArray := prog_11_method_80_code
def yX9_add : MethodName := ⟨RX9, "add", "(III)I"⟩
abbrev cX9_disturb : ByteArray := prog_11_method_81_code
def yX9_disturb : MethodName := ⟨RX9, "disturb", "(II)I"⟩
abbrev cX9_rule : ByteArray := prog_11_method_82_code
def yX9_rule : MethodName := ⟨RX9, "rule", "(I)I"⟩
abbrev cX9_undo : ByteArray := prog_11_method_83_code
def yX9_undo : MethodName := ⟨RX9, "undo", "()I"⟩
abbrev cX9_anew : ByteArray := prog_11_method_84_code
def yX9_anew : MethodName := ⟨RX9, "anew", "()I"⟩
def RJx145de : String := "java/io/Serializable"
def TJx145de : u_T := fun k => match k with
  | _ => ("", "", "", false)
def tyJx145de : Nat → FieldType := fun k => match k with
  | _ => .int
abbrev wsJx145de0 : List Cond := u_ws RJx145de TJx145de 0
theorem nmJx145de : ∀ a, a < 0 → ∀ b, b < 0 → a ≠ b → (TJx145de a).2.1 ≠ (TJx145de b).2.1 := by decide +kernel
theorem tyJx145de_ok : ∀ k, k < 0 → parseFieldDescriptor (TJx145de k).2.2.1 = some (tyJx145de k) := by decide +kernel
def RJx9f9b0 : String := "java/lang/CharSequence"
def TJx9f9b0 : u_T := fun k => match k with
  | _ => ("", "", "", false)
def tyJx9f9b0 : Nat → FieldType := fun k => match k with
  | _ => .int
abbrev wsJx9f9b00 : List Cond := u_ws RJx9f9b0 TJx9f9b0 0
theorem nmJx9f9b0 : ∀ a, a < 0 → ∀ b, b < 0 → a ≠ b → (TJx9f9b0 a).2.1 ≠ (TJx9f9b0 b).2.1 := by decide +kernel
theorem tyJx9f9b0_ok : ∀ k, k < 0 → parseFieldDescriptor (TJx9f9b0 k).2.2.1 = some (tyJx9f9b0 k) := by decide +kernel
def RJxb160c : String := "java/lang/Comparable"
def TJxb160c : u_T := fun k => match k with
  | _ => ("", "", "", false)
def tyJxb160c : Nat → FieldType := fun k => match k with
  | _ => .int
abbrev wsJxb160c0 : List Cond := u_ws RJxb160c TJxb160c 0
theorem nmJxb160c : ∀ a, a < 0 → ∀ b, b < 0 → a ≠ b → (TJxb160c a).2.1 ≠ (TJxb160c b).2.1 := by decide +kernel
theorem tyJxb160c_ok : ∀ k, k < 0 → parseFieldDescriptor (TJxb160c k).2.2.1 = some (tyJxb160c k) := by decide +kernel
def RJ6 : String := "java/lang/Integer"
def TJ6 : u_T := fun k => match k with
  | _ => ("", "", "", false)
def tyJ6 : Nat → FieldType := fun k => match k with
  | _ => .int
abbrev wsJ60 : List Cond := u_ws RJ6 TJ6 0
theorem nmJ6 : ∀ a, a < 0 → ∀ b, b < 0 → a ≠ b → (TJ6 a).2.1 ≠ (TJ6 b).2.1 := by decide +kernel
theorem tyJ6_ok : ∀ k, k < 0 → parseFieldDescriptor (TJ6 k).2.2.1 = some (tyJ6 k) := by decide +kernel
abbrev cJ6_bitCount_0f7a4 : ByteArray := prog_12_method_49_code
def yJ6_bitCount_0f7a4 : MethodName := ⟨RJ6, "bitCount", "(I)I"⟩
def RJ9 : String := "java/lang/Math"
def TJ9 : u_T := fun k => match k with
  | _ => ("", "", "", false)
def tyJ9 : Nat → FieldType := fun k => match k with
  | _ => .int
abbrev wsJ90 : List Cond := u_ws RJ9 TJ9 0
theorem nmJ9 : ∀ a, a < 0 → ∀ b, b < 0 → a ≠ b → (TJ9 a).2.1 ≠ (TJ9 b).2.1 := by decide +kernel
theorem tyJ9_ok : ∀ k, k < 0 → parseFieldDescriptor (TJ9 k).2.2.1 = some (tyJ9 k) := by decide +kernel
abbrev cJ9_max_7cf53 : ByteArray := prog_13_method_65_code
def yJ9_max_7cf53 : MethodName := ⟨RJ9, "max", "(II)I"⟩
abbrev cJ9_max_f86c9 : ByteArray := prog_13_method_66_code
def yJ9_max_f86c9 : MethodName := ⟨RJ9, "max", "(JJ)J"⟩
abbrev cJ9_min_7cf53 : ByteArray := prog_13_method_69_code
def yJ9_min_7cf53 : MethodName := ⟨RJ9, "min", "(II)I"⟩
def RJ0 : String := "java/lang/String"
def TJ0 : u_T := fun k => match k with
  | _ => ("", "", "", false)
def tyJ0 : Nat → FieldType := fun k => match k with
  | _ => .int
abbrev wsJ00 : List Cond := u_ws RJ0 TJ0 0
theorem nmJ0 : ∀ a, a < 0 → ∀ b, b < 0 → a ≠ b → (TJ0 a).2.1 ≠ (TJ0 b).2.1 := by decide +kernel
theorem tyJ0_ok : ∀ k, k < 0 → parseFieldDescriptor (TJ0 k).2.2.1 = some (tyJ0 k) := by decide +kernel
abbrev cJ0_length_8abf5 : ByteArray := prog_14_method_54_code
def yJ0_length_8abf5 : MethodName := ⟨RJ0, "length", "()I"⟩
abbrev cJ0_charAt_5068e : ByteArray := prog_14_method_56_code
def yJ0_charAt_5068e : MethodName := ⟨RJ0, "charAt", "(I)C"⟩
abbrev cJ0_coder_7d493 : ByteArray := prog_14_method_152_code
def yJ0_coder_7d493 : MethodName := ⟨RJ0, "coder", "()B"⟩
abbrev cJ0_isLatin1_aae02 : ByteArray := prog_14_method_154_code
def yJ0_isLatin1_aae02 : MethodName := ⟨RJ0, "isLatin1", "()Z"⟩
abbrev cJ0_checkIndex_df160 : ByteArray := prog_14_method_155_code
def yJ0_checkIndex_df160 : MethodName := ⟨RJ0, "checkIndex", "(II)V"⟩
def RJ1 : String := "java/lang/StringLatin1"
def TJ1 : u_T := fun k => match k with
  | _ => ("", "", "", false)
def tyJ1 : Nat → FieldType := fun k => match k with
  | _ => .int
abbrev wsJ10 : List Cond := u_ws RJ1 TJ1 0
theorem nmJ1 : ∀ a, a < 0 → ∀ b, b < 0 → a ≠ b → (TJ1 a).2.1 ≠ (TJ1 b).2.1 := by decide +kernel
theorem tyJ1_ok : ∀ k, k < 0 → parseFieldDescriptor (TJ1 k).2.2.1 = some (tyJ1 k) := by decide +kernel
abbrev cJ1_charAt_3b067 : ByteArray := prog_15_method_2_code
def yJ1_charAt_3b067 : MethodName := ⟨RJ1, "charAt", "([BI)C"⟩
def RJ2 : String := "java/lang/StringUTF16"
def TJ2 : u_T := fun k => match k with
  | _ => ("", "", "", false)
def tyJ2 : Nat → FieldType := fun k => match k with
  | _ => .int
abbrev wsJ20 : List Cond := u_ws RJ2 TJ2 0
theorem nmJ2 : ∀ a, a < 0 → ∀ b, b < 0 → a ≠ b → (TJ2 a).2.1 ≠ (TJ2 b).2.1 := by decide +kernel
theorem tyJ2_ok : ∀ k, k < 0 → parseFieldDescriptor (TJ2 k).2.2.1 = some (tyJ2 k) := by decide +kernel
abbrev cJ2_getChar_3b067 : ByteArray := prog_16_method_5_code
def yJ2_getChar_3b067 : MethodName := ⟨RJ2, "getChar", "([BI)C"⟩
abbrev cJ2_length_9d52b : ByteArray := prog_16_method_6_code
def yJ2_length_9d52b : MethodName := ⟨RJ2, "length", "([B)I"⟩
abbrev cJ2_charAt_3b067 : ByteArray := prog_16_method_83_code
def yJ2_charAt_3b067 : MethodName := ⟨RJ2, "charAt", "([BI)C"⟩
abbrev cJ2_checkIndex_2214a : ByteArray := prog_16_method_91_code
def yJ2_checkIndex_2214a : MethodName := ⟨RJ2, "checkIndex", "(I[B)V"⟩
def RJxfd54e : String := "java/lang/constant/Constable"
def TJxfd54e : u_T := fun k => match k with
  | _ => ("", "", "", false)
def tyJxfd54e : Nat → FieldType := fun k => match k with
  | _ => .int
abbrev wsJxfd54e0 : List Cond := u_ws RJxfd54e TJxfd54e 0
theorem nmJxfd54e : ∀ a, a < 0 → ∀ b, b < 0 → a ≠ b → (TJxfd54e a).2.1 ≠ (TJxfd54e b).2.1 := by decide +kernel
theorem tyJxfd54e_ok : ∀ k, k < 0 → parseFieldDescriptor (TJxfd54e k).2.2.1 = some (tyJxfd54e k) := by decide +kernel
def RJx3cf43 : String := "java/lang/constant/ConstantDesc"
def TJx3cf43 : u_T := fun k => match k with
  | _ => ("", "", "", false)
def tyJx3cf43 : Nat → FieldType := fun k => match k with
  | _ => .int
abbrev wsJx3cf430 : List Cond := u_ws RJx3cf43 TJx3cf43 0
theorem nmJx3cf43 : ∀ a, a < 0 → ∀ b, b < 0 → a ≠ b → (TJx3cf43 a).2.1 ≠ (TJx3cf43 b).2.1 := by decide +kernel
theorem tyJx3cf43_ok : ∀ k, k < 0 → parseFieldDescriptor (TJx3cf43 k).2.2.1 = some (tyJx3cf43 k) := by decide +kernel
def RJ7 : String := "java/util/Arrays"
def TJ7 : u_T := fun k => match k with
  | _ => ("", "", "", false)
def tyJ7 : Nat → FieldType := fun k => match k with
  | _ => .int
abbrev wsJ70 : List Cond := u_ws RJ7 TJ7 0
theorem nmJ7 : ∀ a, a < 0 → ∀ b, b < 0 → a ≠ b → (TJ7 a).2.1 ≠ (TJ7 b).2.1 := by decide +kernel
theorem tyJ7_ok : ∀ k, k < 0 → parseFieldDescriptor (TJ7 k).2.2.1 = some (tyJ7 k) := by decide +kernel
abbrev cJ7_fill_d0a16 : ByteArray := prog_17_method_101_code
def yJ7_fill_d0a16 : MethodName := ⟨RJ7, "fill", "([JJ)V"⟩
abbrev cJ7_fill_53178 : ByteArray := prog_17_method_103_code
def yJ7_fill_53178 : MethodName := ⟨RJ7, "fill", "([II)V"⟩
def RJ3 : String := "jdk/internal/util/Preconditions"
def TJ3 : u_T := fun k => match k with
  | _ => ("", "", "", false)
def tyJ3 : Nat → FieldType := fun k => match k with
  | _ => .int
abbrev wsJ30 : List Cond := u_ws RJ3 TJ3 0
theorem nmJ3 : ∀ a, a < 0 → ∀ b, b < 0 → a ≠ b → (TJ3 a).2.1 ≠ (TJ3 b).2.1 := by decide +kernel
theorem tyJ3_ok : ∀ k, k < 0 → parseFieldDescriptor (TJ3 k).2.2.1 = some (tyJ3 k) := by decide +kernel
abbrev cJ3_checkIndex_8e157 : ByteArray := prog_18_method_11_code
def yJ3_checkIndex_8e157 : MethodName := ⟨RJ3, "checkIndex", "(IILjava/util/function/BiFunction;)I"⟩
def RL : String := "SplitChannelLaw"
abbrev cL_law : ByteArray := code
def yL_law : MethodName := ⟨RL, "law", "([I)Z"⟩
set_option maxRecDepth 20000 in
abbrev vwCl : List vw_C := [(RX0, TX0, 3), (RX1, TX1, 14), (RX2, TX2, 5), (RX3, TX3, 12), (RX4, TX4, 13), (RX5, TX5, 8), (RX6, TX6, 4), (RX7, TX7, 2), (RX8, TX8, 9), (RX9, TX9, 47)]
end
section
theorem dX0_init_0 : decode cX0_init 0 = .ok (.aload_n 0, 1) := by decide +kernel
theorem dX0_init_1 : decode cX0_init 1 = .ok (.invokespecial 3, 3) := by decide +kernel
theorem dX0_init_4 : decode cX0_init 4 = .ok (.aload_n 0, 1) := by decide +kernel
theorem dX0_init_5 : decode cX0_init 5 = .ok (.bipush 20, 2) := by decide +kernel
theorem dX0_init_7 : decode cX0_init 7 = .ok (.newarray .int, 2) := by decide +kernel
theorem dX0_init_9 : decode cX0_init 9 = .ok (.putfield 9, 3) := by decide +kernel
theorem dX0_init_12 : decode cX0_init 12 = .ok (.aload_n 0, 1) := by decide +kernel
theorem dX0_init_13 : decode cX0_init 13 = .ok (.bipush 20, 2) := by decide +kernel
theorem dX0_init_15 : decode cX0_init 15 = .ok (.newarray .int, 2) := by decide +kernel
theorem dX0_init_17 : decode cX0_init 17 = .ok (.putfield 15, 3) := by decide +kernel
theorem dX0_init_20 : decode cX0_init 20 = .ok (.return_, 1) := by decide +kernel
theorem dX0_note_0 : decode cX0_note 0 = .ok (.aload_n 0, 1) := by decide +kernel
theorem dX0_note_1 : decode cX0_note 1 = .ok (.getfield 9, 3) := by decide +kernel
theorem dX0_note_4 : decode cX0_note 4 = .ok (.aload_n 0, 1) := by decide +kernel
theorem dX0_note_5 : decode cX0_note 5 = .ok (.getfield 18, 3) := by decide +kernel
theorem dX0_note_8 : decode cX0_note 8 = .ok (.iload_n 1, 1) := by decide +kernel
theorem dX0_note_9 : decode cX0_note 9 = .ok (.invokestatic 22, 3) := by decide +kernel
theorem dX0_note_12 : decode cX0_note 12 = .ok (.aload_n 0, 1) := by decide +kernel
theorem dX0_note_13 : decode cX0_note 13 = .ok (.getfield 15, 3) := by decide +kernel
theorem dX0_note_16 : decode cX0_note 16 = .ok (.aload_n 0, 1) := by decide +kernel
theorem dX0_note_17 : decode cX0_note 17 = .ok (.getfield 18, 3) := by decide +kernel
theorem dX0_note_20 : decode cX0_note 20 = .ok (.iload_n 2, 1) := by decide +kernel
theorem dX0_note_21 : decode cX0_note 21 = .ok (.invokestatic 22, 3) := by decide +kernel
theorem dX0_note_24 : decode cX0_note 24 = .ok (.aload_n 0, 1) := by decide +kernel
theorem dX0_note_25 : decode cX0_note 25 = .ok (.dup, 1) := by decide +kernel
theorem dX0_note_26 : decode cX0_note 26 = .ok (.getfield 18, 3) := by decide +kernel
theorem dX0_note_29 : decode cX0_note 29 = .ok (.iconst 1, 1) := by decide +kernel
theorem dX0_note_30 : decode cX0_note 30 = .ok (.iadd, 1) := by decide +kernel
theorem dX0_note_31 : decode cX0_note 31 = .ok (.putfield 18, 3) := by decide +kernel
theorem dX0_note_34 : decode cX0_note 34 = .ok (.return_, 1) := by decide +kernel
theorem dX0_takeBack_0 : decode cX0_takeBack 0 = .ok (.aload_n 0, 1) := by decide +kernel
theorem dX0_takeBack_1 : decode cX0_takeBack 1 = .ok (.getfield 18, 3) := by decide +kernel
theorem dX0_takeBack_4 : decode cX0_takeBack 4 = .ok (.ifCond .ne 4, 3) := by decide +kernel
theorem dX0_takeBack_7 : decode cX0_takeBack 7 = .ok (.return_, 1) := by decide +kernel
theorem dX0_takeBack_8 : decode cX0_takeBack 8 = .ok (.aload_n 0, 1) := by decide +kernel
theorem dX0_takeBack_9 : decode cX0_takeBack 9 = .ok (.dup, 1) := by decide +kernel
theorem dX0_takeBack_10 : decode cX0_takeBack 10 = .ok (.getfield 18, 3) := by decide +kernel
theorem dX0_takeBack_13 : decode cX0_takeBack 13 = .ok (.iconst 1, 1) := by decide +kernel
theorem dX0_takeBack_14 : decode cX0_takeBack 14 = .ok (.isub, 1) := by decide +kernel
theorem dX0_takeBack_15 : decode cX0_takeBack 15 = .ok (.putfield 18, 3) := by decide +kernel
theorem dX0_takeBack_18 : decode cX0_takeBack 18 = .ok (.aload_n 0, 1) := by decide +kernel
theorem dX0_takeBack_19 : decode cX0_takeBack 19 = .ok (.getfield 9, 3) := by decide +kernel
theorem dX0_takeBack_22 : decode cX0_takeBack 22 = .ok (.aload_n 0, 1) := by decide +kernel
theorem dX0_takeBack_23 : decode cX0_takeBack 23 = .ok (.getfield 18, 3) := by decide +kernel
theorem dX0_takeBack_26 : decode cX0_takeBack 26 = .ok (.invokestatic 26, 3) := by decide +kernel
theorem dX0_takeBack_29 : decode cX0_takeBack 29 = .ok (.istore_n 2, 1) := by decide +kernel
theorem dX0_takeBack_30 : decode cX0_takeBack 30 = .ok (.iload_n 2, 1) := by decide +kernel
theorem dX0_takeBack_31 : decode cX0_takeBack 31 = .ok (.ifCond .ne 16, 3) := by decide +kernel
theorem dX0_takeBack_34 : decode cX0_takeBack 34 = .ok (.aload_n 1, 1) := by decide +kernel
theorem dX0_takeBack_35 : decode cX0_takeBack 35 = .ok (.dup, 1) := by decide +kernel
theorem dX0_takeBack_36 : decode cX0_takeBack 36 = .ok (.getfield 30, 3) := by decide +kernel
theorem dX0_takeBack_39 : decode cX0_takeBack 39 = .ok (.iconst 1, 1) := by decide +kernel
theorem dX0_takeBack_40 : decode cX0_takeBack 40 = .ok (.isub, 1) := by decide +kernel
theorem dX0_takeBack_41 : decode cX0_takeBack 41 = .ok (.putfield 30, 3) := by decide +kernel
theorem dX0_takeBack_44 : decode cX0_takeBack 44 = .ok (.goto 36, 3) := by decide +kernel
theorem dX0_takeBack_47 : decode cX0_takeBack 47 = .ok (.iload_n 2, 1) := by decide +kernel
theorem dX0_takeBack_48 : decode cX0_takeBack 48 = .ok (.iconst 1, 1) := by decide +kernel
theorem dX0_takeBack_49 : decode cX0_takeBack 49 = .ok (.if_icmp .ne 16, 3) := by decide +kernel
theorem dX0_takeBack_52 : decode cX0_takeBack 52 = .ok (.aload_n 1, 1) := by decide +kernel
theorem dX0_takeBack_53 : decode cX0_takeBack 53 = .ok (.dup, 1) := by decide +kernel
theorem dX0_takeBack_54 : decode cX0_takeBack 54 = .ok (.getfield 35, 3) := by decide +kernel
theorem dX0_takeBack_57 : decode cX0_takeBack 57 = .ok (.iconst 1, 1) := by decide +kernel
theorem dX0_takeBack_58 : decode cX0_takeBack 58 = .ok (.isub, 1) := by decide +kernel
theorem dX0_takeBack_59 : decode cX0_takeBack 59 = .ok (.putfield 35, 3) := by decide +kernel
theorem dX0_takeBack_62 : decode cX0_takeBack 62 = .ok (.goto 18, 3) := by decide +kernel
theorem dX0_takeBack_65 : decode cX0_takeBack 65 = .ok (.aload_n 1, 1) := by decide +kernel
theorem dX0_takeBack_66 : decode cX0_takeBack 66 = .ok (.aload_n 0, 1) := by decide +kernel
theorem dX0_takeBack_67 : decode cX0_takeBack 67 = .ok (.getfield 15, 3) := by decide +kernel
theorem dX0_takeBack_70 : decode cX0_takeBack 70 = .ok (.aload_n 0, 1) := by decide +kernel
theorem dX0_takeBack_71 : decode cX0_takeBack 71 = .ok (.getfield 18, 3) := by decide +kernel
theorem dX0_takeBack_74 : decode cX0_takeBack 74 = .ok (.invokestatic 26, 3) := by decide +kernel
theorem dX0_takeBack_77 : decode cX0_takeBack 77 = .ok (.putfield 38, 3) := by decide +kernel
theorem dX0_takeBack_80 : decode cX0_takeBack 80 = .ok (.return_, 1) := by decide +kernel
theorem dX1_init_0 : decode cX1_init 0 = .ok (.aload_n 0, 1) := by decide +kernel
theorem dX1_init_1 : decode cX1_init 1 = .ok (.invokespecial 3, 3) := by decide +kernel
theorem dX1_init_4 : decode cX1_init 4 = .ok (.aload_n 0, 1) := by decide +kernel
theorem dX1_init_5 : decode cX1_init 5 = .ok (.sipush 200, 3) := by decide +kernel
theorem dX1_init_8 : decode cX1_init 8 = .ok (.newarray .int, 2) := by decide +kernel
theorem dX1_init_10 : decode cX1_init 10 = .ok (.putfield 9, 3) := by decide +kernel
theorem dX1_init_13 : decode cX1_init 13 = .ok (.aload_n 0, 1) := by decide +kernel
theorem dX1_init_14 : decode cX1_init 14 = .ok (.sipush 200, 3) := by decide +kernel
theorem dX1_init_17 : decode cX1_init 17 = .ok (.newarray .int, 2) := by decide +kernel
theorem dX1_init_19 : decode cX1_init 19 = .ok (.putfield 15, 3) := by decide +kernel
theorem dX1_init_22 : decode cX1_init 22 = .ok (.aload_n 0, 1) := by decide +kernel
theorem dX1_init_23 : decode cX1_init 23 = .ok (.sipush 200, 3) := by decide +kernel
theorem dX1_init_26 : decode cX1_init 26 = .ok (.newarray .int, 2) := by decide +kernel
theorem dX1_init_28 : decode cX1_init 28 = .ok (.putfield 18, 3) := by decide +kernel
theorem dX1_init_31 : decode cX1_init 31 = .ok (.aload_n 0, 1) := by decide +kernel
theorem dX1_init_32 : decode cX1_init 32 = .ok (.sipush 200, 3) := by decide +kernel
theorem dX1_init_35 : decode cX1_init 35 = .ok (.newarray .int, 2) := by decide +kernel
theorem dX1_init_37 : decode cX1_init 37 = .ok (.putfield 21, 3) := by decide +kernel
theorem dX1_init_40 : decode cX1_init 40 = .ok (.aload_n 0, 1) := by decide +kernel
theorem dX1_init_41 : decode cX1_init 41 = .ok (.sipush 200, 3) := by decide +kernel
theorem dX1_init_44 : decode cX1_init 44 = .ok (.newarray .int, 2) := by decide +kernel
theorem dX1_init_46 : decode cX1_init 46 = .ok (.putfield 24, 3) := by decide +kernel
theorem dX1_init_49 : decode cX1_init 49 = .ok (.aload_n 0, 1) := by decide +kernel
theorem dX1_init_50 : decode cX1_init 50 = .ok (.bipush 10, 2) := by decide +kernel
theorem dX1_init_52 : decode cX1_init 52 = .ok (.newarray .int, 2) := by decide +kernel
theorem dX1_init_54 : decode cX1_init 54 = .ok (.putfield 27, 3) := by decide +kernel
theorem dX1_init_57 : decode cX1_init 57 = .ok (.aload_n 0, 1) := by decide +kernel
theorem dX1_init_58 : decode cX1_init 58 = .ok (.bipush 10, 2) := by decide +kernel
theorem dX1_init_60 : decode cX1_init 60 = .ok (.newarray .int, 2) := by decide +kernel
theorem dX1_init_62 : decode cX1_init 62 = .ok (.putfield 30, 3) := by decide +kernel
theorem dX1_init_65 : decode cX1_init 65 = .ok (.aload_n 0, 1) := by decide +kernel
theorem dX1_init_66 : decode cX1_init 66 = .ok (.bipush 10, 2) := by decide +kernel
theorem dX1_init_68 : decode cX1_init 68 = .ok (.newarray .int, 2) := by decide +kernel
theorem dX1_init_70 : decode cX1_init 70 = .ok (.putfield 33, 3) := by decide +kernel
theorem dX1_init_73 : decode cX1_init 73 = .ok (.aload_n 0, 1) := by decide +kernel
theorem dX1_init_74 : decode cX1_init 74 = .ok (.bipush 10, 2) := by decide +kernel
theorem dX1_init_76 : decode cX1_init 76 = .ok (.newarray .int, 2) := by decide +kernel
theorem dX1_init_78 : decode cX1_init 78 = .ok (.putfield 36, 3) := by decide +kernel
theorem dX1_init_81 : decode cX1_init 81 = .ok (.aload_n 0, 1) := by decide +kernel
theorem dX1_init_82 : decode cX1_init 82 = .ok (.sipush 200, 3) := by decide +kernel
theorem dX1_init_85 : decode cX1_init 85 = .ok (.newarray .int, 2) := by decide +kernel
theorem dX1_init_87 : decode cX1_init 87 = .ok (.putfield 39, 3) := by decide +kernel
theorem dX1_init_90 : decode cX1_init 90 = .ok (.aload_n 0, 1) := by decide +kernel
theorem dX1_init_91 : decode cX1_init 91 = .ok (.sipush 200, 3) := by decide +kernel
theorem dX1_init_94 : decode cX1_init 94 = .ok (.newarray .int, 2) := by decide +kernel
theorem dX1_init_96 : decode cX1_init 96 = .ok (.putfield 42, 3) := by decide +kernel
theorem dX1_init_99 : decode cX1_init 99 = .ok (.aload_n 0, 1) := by decide +kernel
theorem dX1_init_100 : decode cX1_init 100 = .ok (.sipush 200, 3) := by decide +kernel
theorem dX1_init_103 : decode cX1_init 103 = .ok (.newarray .int, 2) := by decide +kernel
theorem dX1_init_105 : decode cX1_init 105 = .ok (.putfield 45, 3) := by decide +kernel
theorem dX1_init_108 : decode cX1_init 108 = .ok (.return_, 1) := by decide +kernel
theorem dX1_clear_0 : decode cX1_clear 0 = .ok (.aload_n 0, 1) := by decide +kernel
theorem dX1_clear_1 : decode cX1_clear 1 = .ok (.getfield 18, 3) := by decide +kernel
theorem dX1_clear_4 : decode cX1_clear 4 = .ok (.iconst (-1), 1) := by decide +kernel
theorem dX1_clear_5 : decode cX1_clear 5 = .ok (.invokestatic 48, 3) := by decide +kernel
theorem dX1_clear_8 : decode cX1_clear 8 = .ok (.aload_n 0, 1) := by decide +kernel
theorem dX1_clear_9 : decode cX1_clear 9 = .ok (.getfield 24, 3) := by decide +kernel
theorem dX1_clear_12 : decode cX1_clear 12 = .ok (.iconst 0, 1) := by decide +kernel
theorem dX1_clear_13 : decode cX1_clear 13 = .ok (.invokestatic 48, 3) := by decide +kernel
theorem dX1_clear_16 : decode cX1_clear 16 = .ok (.aload_n 0, 1) := by decide +kernel
theorem dX1_clear_17 : decode cX1_clear 17 = .ok (.getfield 27, 3) := by decide +kernel
theorem dX1_clear_20 : decode cX1_clear 20 = .ok (.iconst (-1), 1) := by decide +kernel
theorem dX1_clear_21 : decode cX1_clear 21 = .ok (.invokestatic 48, 3) := by decide +kernel
theorem dX1_clear_24 : decode cX1_clear 24 = .ok (.aload_n 0, 1) := by decide +kernel
theorem dX1_clear_25 : decode cX1_clear 25 = .ok (.getfield 30, 3) := by decide +kernel
theorem dX1_clear_28 : decode cX1_clear 28 = .ok (.iconst 0, 1) := by decide +kernel
theorem dX1_clear_29 : decode cX1_clear 29 = .ok (.invokestatic 48, 3) := by decide +kernel
theorem dX1_clear_32 : decode cX1_clear 32 = .ok (.aload_n 0, 1) := by decide +kernel
theorem dX1_clear_33 : decode cX1_clear 33 = .ok (.getfield 33, 3) := by decide +kernel
theorem dX1_clear_36 : decode cX1_clear 36 = .ok (.iconst 0, 1) := by decide +kernel
theorem dX1_clear_37 : decode cX1_clear 37 = .ok (.invokestatic 48, 3) := by decide +kernel
theorem dX1_clear_40 : decode cX1_clear 40 = .ok (.aload_n 0, 1) := by decide +kernel
theorem dX1_clear_41 : decode cX1_clear 41 = .ok (.iconst 0, 1) := by decide +kernel
theorem dX1_clear_42 : decode cX1_clear 42 = .ok (.putfield 54, 3) := by decide +kernel
theorem dX1_clear_45 : decode cX1_clear 45 = .ok (.aload_n 0, 1) := by decide +kernel
theorem dX1_clear_46 : decode cX1_clear 46 = .ok (.iconst 0, 1) := by decide +kernel
theorem dX1_clear_47 : decode cX1_clear 47 = .ok (.putfield 58, 3) := by decide +kernel
theorem dX1_clear_50 : decode cX1_clear 50 = .ok (.return_, 1) := by decide +kernel
theorem dX1_deliver_0 : decode cX1_deliver 0 = .ok (.aload_n 0, 1) := by decide +kernel
theorem dX1_deliver_1 : decode cX1_deliver 1 = .ok (.getfield 18, 3) := by decide +kernel
theorem dX1_deliver_4 : decode cX1_deliver 4 = .ok (.iload_n 2, 1) := by decide +kernel
theorem dX1_deliver_5 : decode cX1_deliver 5 = .ok (.iload_n 1, 1) := by decide +kernel
theorem dX1_deliver_6 : decode cX1_deliver 6 = .ok (.invokestatic 61, 3) := by decide +kernel
theorem dX1_deliver_9 : decode cX1_deliver 9 = .ok (.aload_n 0, 1) := by decide +kernel
theorem dX1_deliver_10 : decode cX1_deliver 10 = .ok (.getfield 27, 3) := by decide +kernel
theorem dX1_deliver_13 : decode cX1_deliver 13 = .ok (.iload_n 1, 1) := by decide +kernel
theorem dX1_deliver_14 : decode cX1_deliver 14 = .ok (.iload_n 2, 1) := by decide +kernel
theorem dX1_deliver_15 : decode cX1_deliver 15 = .ok (.invokestatic 61, 3) := by decide +kernel
theorem dX1_deliver_18 : decode cX1_deliver 18 = .ok (.aload_n 0, 1) := by decide +kernel
theorem dX1_deliver_19 : decode cX1_deliver 19 = .ok (.getfield 36, 3) := by decide +kernel
theorem dX1_deliver_22 : decode cX1_deliver 22 = .ok (.aload_n 0, 1) := by decide +kernel
theorem dX1_deliver_23 : decode cX1_deliver 23 = .ok (.getfield 54, 3) := by decide +kernel
theorem dX1_deliver_26 : decode cX1_deliver 26 = .ok (.iload_n 1, 1) := by decide +kernel
theorem dX1_deliver_27 : decode cX1_deliver 27 = .ok (.invokestatic 61, 3) := by decide +kernel
theorem dX1_deliver_30 : decode cX1_deliver 30 = .ok (.aload_n 0, 1) := by decide +kernel
theorem dX1_deliver_31 : decode cX1_deliver 31 = .ok (.dup, 1) := by decide +kernel
theorem dX1_deliver_32 : decode cX1_deliver 32 = .ok (.getfield 54, 3) := by decide +kernel
theorem dX1_deliver_35 : decode cX1_deliver 35 = .ok (.iconst 1, 1) := by decide +kernel
theorem dX1_deliver_36 : decode cX1_deliver 36 = .ok (.iadd, 1) := by decide +kernel
theorem dX1_deliver_37 : decode cX1_deliver 37 = .ok (.putfield 54, 3) := by decide +kernel
theorem dX1_deliver_40 : decode cX1_deliver 40 = .ok (.return_, 1) := by decide +kernel
theorem dX1_openEpoch_0 : decode cX1_openEpoch 0 = .ok (.aload_n 0, 1) := by decide +kernel
theorem dX1_openEpoch_1 : decode cX1_openEpoch 1 = .ok (.getfield 39, 3) := by decide +kernel
theorem dX1_openEpoch_4 : decode cX1_openEpoch 4 = .ok (.aload_n 0, 1) := by decide +kernel
theorem dX1_openEpoch_5 : decode cX1_openEpoch 5 = .ok (.getfield 58, 3) := by decide +kernel
theorem dX1_openEpoch_8 : decode cX1_openEpoch 8 = .ok (.iload_n 1, 1) := by decide +kernel
theorem dX1_openEpoch_9 : decode cX1_openEpoch 9 = .ok (.invokestatic 61, 3) := by decide +kernel
theorem dX1_openEpoch_12 : decode cX1_openEpoch 12 = .ok (.aload_n 0, 1) := by decide +kernel
theorem dX1_openEpoch_13 : decode cX1_openEpoch 13 = .ok (.getfield 42, 3) := by decide +kernel
theorem dX1_openEpoch_16 : decode cX1_openEpoch 16 = .ok (.aload_n 0, 1) := by decide +kernel
theorem dX1_openEpoch_17 : decode cX1_openEpoch 17 = .ok (.getfield 58, 3) := by decide +kernel
theorem dX1_openEpoch_20 : decode cX1_openEpoch 20 = .ok (.iconst (-1), 1) := by decide +kernel
theorem dX1_openEpoch_21 : decode cX1_openEpoch 21 = .ok (.invokestatic 61, 3) := by decide +kernel
theorem dX1_openEpoch_24 : decode cX1_openEpoch 24 = .ok (.aload_n 0, 1) := by decide +kernel
theorem dX1_openEpoch_25 : decode cX1_openEpoch 25 = .ok (.getfield 45, 3) := by decide +kernel
theorem dX1_openEpoch_28 : decode cX1_openEpoch 28 = .ok (.aload_n 0, 1) := by decide +kernel
theorem dX1_openEpoch_29 : decode cX1_openEpoch 29 = .ok (.getfield 58, 3) := by decide +kernel
theorem dX1_openEpoch_32 : decode cX1_openEpoch 32 = .ok (.iload_n 2, 1) := by decide +kernel
theorem dX1_openEpoch_33 : decode cX1_openEpoch 33 = .ok (.invokestatic 61, 3) := by decide +kernel
theorem dX1_openEpoch_36 : decode cX1_openEpoch 36 = .ok (.aload_n 0, 1) := by decide +kernel
theorem dX1_openEpoch_37 : decode cX1_openEpoch 37 = .ok (.dup, 1) := by decide +kernel
theorem dX1_openEpoch_38 : decode cX1_openEpoch 38 = .ok (.getfield 58, 3) := by decide +kernel
theorem dX1_openEpoch_41 : decode cX1_openEpoch 41 = .ok (.iconst 1, 1) := by decide +kernel
theorem dX1_openEpoch_42 : decode cX1_openEpoch 42 = .ok (.iadd, 1) := by decide +kernel
theorem dX1_openEpoch_43 : decode cX1_openEpoch 43 = .ok (.putfield 58, 3) := by decide +kernel
theorem dX1_openEpoch_46 : decode cX1_openEpoch 46 = .ok (.return_, 1) := by decide +kernel
theorem dX1_lastSlot_0 : decode cX1_lastSlot 0 = .ok (.iload_n 1, 1) := by decide +kernel
theorem dX1_lastSlot_1 : decode cX1_lastSlot 1 = .ok (.ifCond .eq 11, 3) := by decide +kernel
theorem dX1_lastSlot_4 : decode cX1_lastSlot 4 = .ok (.aload_n 0, 1) := by decide +kernel
theorem dX1_lastSlot_5 : decode cX1_lastSlot 5 = .ok (.getfield 54, 3) := by decide +kernel
theorem dX1_lastSlot_8 : decode cX1_lastSlot 8 = .ok (.iload_n 1, 1) := by decide +kernel
theorem dX1_lastSlot_9 : decode cX1_lastSlot 9 = .ok (.if_icmp .ge 5, 3) := by decide +kernel
theorem dX1_lastSlot_12 : decode cX1_lastSlot 12 = .ok (.iconst (-1), 1) := by decide +kernel
theorem dX1_lastSlot_13 : decode cX1_lastSlot 13 = .ok (.ireturn, 1) := by decide +kernel
theorem dX1_lastSlot_14 : decode cX1_lastSlot 14 = .ok (.aload_n 0, 1) := by decide +kernel
theorem dX1_lastSlot_15 : decode cX1_lastSlot 15 = .ok (.getfield 27, 3) := by decide +kernel
theorem dX1_lastSlot_18 : decode cX1_lastSlot 18 = .ok (.aload_n 0, 1) := by decide +kernel
theorem dX1_lastSlot_19 : decode cX1_lastSlot 19 = .ok (.getfield 36, 3) := by decide +kernel
theorem dX1_lastSlot_22 : decode cX1_lastSlot 22 = .ok (.aload_n 0, 1) := by decide +kernel
theorem dX1_lastSlot_23 : decode cX1_lastSlot 23 = .ok (.getfield 54, 3) := by decide +kernel
theorem dX1_lastSlot_26 : decode cX1_lastSlot 26 = .ok (.iconst 1, 1) := by decide +kernel
theorem dX1_lastSlot_27 : decode cX1_lastSlot 27 = .ok (.isub, 1) := by decide +kernel
theorem dX1_lastSlot_28 : decode cX1_lastSlot 28 = .ok (.invokestatic 65, 3) := by decide +kernel
theorem dX1_lastSlot_31 : decode cX1_lastSlot 31 = .ok (.invokestatic 65, 3) := by decide +kernel
theorem dX1_lastSlot_34 : decode cX1_lastSlot 34 = .ok (.ireturn, 1) := by decide +kernel
theorem dX1_slotsHeard_0 : decode cX1_slotsHeard 0 = .ok (.iconst 0, 1) := by decide +kernel
theorem dX1_slotsHeard_1 : decode cX1_slotsHeard 1 = .ok (.istore_n 3, 1) := by decide +kernel
theorem dX1_slotsHeard_2 : decode cX1_slotsHeard 2 = .ok (.iconst 0, 1) := by decide +kernel
theorem dX1_slotsHeard_3 : decode cX1_slotsHeard 3 = .ok (.istore 4, 2) := by decide +kernel
theorem dX1_slotsHeard_5 : decode cX1_slotsHeard 5 = .ok (.iload 4, 2) := by decide +kernel
theorem dX1_slotsHeard_7 : decode cX1_slotsHeard 7 = .ok (.iload_n 2, 1) := by decide +kernel
theorem dX1_slotsHeard_8 : decode cX1_slotsHeard 8 = .ok (.if_icmp .ge 25, 3) := by decide +kernel
theorem dX1_slotsHeard_11 : decode cX1_slotsHeard 11 = .ok (.aload_n 0, 1) := by decide +kernel
theorem dX1_slotsHeard_12 : decode cX1_slotsHeard 12 = .ok (.getfield 15, 3) := by decide +kernel
theorem dX1_slotsHeard_15 : decode cX1_slotsHeard 15 = .ok (.iload 4, 2) := by decide +kernel
theorem dX1_slotsHeard_17 : decode cX1_slotsHeard 17 = .ok (.invokestatic 65, 3) := by decide +kernel
theorem dX1_slotsHeard_20 : decode cX1_slotsHeard 20 = .ok (.iload_n 1, 1) := by decide +kernel
theorem dX1_slotsHeard_21 : decode cX1_slotsHeard 21 = .ok (.if_icmp .ne 6, 3) := by decide +kernel
theorem dX1_slotsHeard_24 : decode cX1_slotsHeard 24 = .ok (.iinc 3 1, 3) := by decide +kernel
theorem dX1_slotsHeard_27 : decode cX1_slotsHeard 27 = .ok (.iinc 4 1, 3) := by decide +kernel
theorem dX1_slotsHeard_30 : decode cX1_slotsHeard 30 = .ok (.goto (-25), 3) := by decide +kernel
theorem dX1_slotsHeard_33 : decode cX1_slotsHeard 33 = .ok (.iload_n 3, 1) := by decide +kernel
theorem dX1_slotsHeard_34 : decode cX1_slotsHeard 34 = .ok (.ireturn, 1) := by decide +kernel
theorem dX1_collisions_0 : decode cX1_collisions 0 = .ok (.iconst 0, 1) := by decide +kernel
theorem dX1_collisions_1 : decode cX1_collisions 1 = .ok (.istore_n 2, 1) := by decide +kernel
theorem dX1_collisions_2 : decode cX1_collisions 2 = .ok (.iconst 0, 1) := by decide +kernel
theorem dX1_collisions_3 : decode cX1_collisions 3 = .ok (.istore_n 3, 1) := by decide +kernel
theorem dX1_collisions_4 : decode cX1_collisions 4 = .ok (.iload_n 3, 1) := by decide +kernel
theorem dX1_collisions_5 : decode cX1_collisions 5 = .ok (.iload_n 1, 1) := by decide +kernel
theorem dX1_collisions_6 : decode cX1_collisions 6 = .ok (.if_icmp .ge 27, 3) := by decide +kernel
theorem dX1_collisions_9 : decode cX1_collisions 9 = .ok (.aload_n 0, 1) := by decide +kernel
theorem dX1_collisions_10 : decode cX1_collisions 10 = .ok (.getfield 9, 3) := by decide +kernel
theorem dX1_collisions_13 : decode cX1_collisions 13 = .ok (.iload_n 3, 1) := by decide +kernel
theorem dX1_collisions_14 : decode cX1_collisions 14 = .ok (.invokestatic 65, 3) := by decide +kernel
theorem dX1_collisions_17 : decode cX1_collisions 17 = .ok (.invokestatic 69, 3) := by decide +kernel
theorem dX1_collisions_20 : decode cX1_collisions 20 = .ok (.iconst 1, 1) := by decide +kernel
theorem dX1_collisions_21 : decode cX1_collisions 21 = .ok (.if_icmp .le 6, 3) := by decide +kernel
theorem dX1_collisions_24 : decode cX1_collisions 24 = .ok (.iinc 2 1, 3) := by decide +kernel
theorem dX1_collisions_27 : decode cX1_collisions 27 = .ok (.iinc 3 1, 3) := by decide +kernel
theorem dX1_collisions_30 : decode cX1_collisions 30 = .ok (.goto (-26), 3) := by decide +kernel
theorem dX1_collisions_33 : decode cX1_collisions 33 = .ok (.iload_n 2, 1) := by decide +kernel
theorem dX1_collisions_34 : decode cX1_collisions 34 = .ok (.ireturn, 1) := by decide +kernel
theorem dX1_skipsMade_0 : decode cX1_skipsMade 0 = .ok (.iconst 0, 1) := by decide +kernel
theorem dX1_skipsMade_1 : decode cX1_skipsMade 1 = .ok (.istore_n 2, 1) := by decide +kernel
theorem dX1_skipsMade_2 : decode cX1_skipsMade 2 = .ok (.iconst 0, 1) := by decide +kernel
theorem dX1_skipsMade_3 : decode cX1_skipsMade 3 = .ok (.istore_n 3, 1) := by decide +kernel
theorem dX1_skipsMade_4 : decode cX1_skipsMade 4 = .ok (.iload_n 3, 1) := by decide +kernel
theorem dX1_skipsMade_5 : decode cX1_skipsMade 5 = .ok (.iload_n 1, 1) := by decide +kernel
theorem dX1_skipsMade_6 : decode cX1_skipsMade 6 = .ok (.if_icmp .ge 20, 3) := by decide +kernel
theorem dX1_skipsMade_9 : decode cX1_skipsMade 9 = .ok (.iload_n 2, 1) := by decide +kernel
theorem dX1_skipsMade_10 : decode cX1_skipsMade 10 = .ok (.aload_n 0, 1) := by decide +kernel
theorem dX1_skipsMade_11 : decode cX1_skipsMade 11 = .ok (.getfield 24, 3) := by decide +kernel
theorem dX1_skipsMade_14 : decode cX1_skipsMade 14 = .ok (.iload_n 3, 1) := by decide +kernel
theorem dX1_skipsMade_15 : decode cX1_skipsMade 15 = .ok (.invokestatic 65, 3) := by decide +kernel
theorem dX1_skipsMade_18 : decode cX1_skipsMade 18 = .ok (.iadd, 1) := by decide +kernel
theorem dX1_skipsMade_19 : decode cX1_skipsMade 19 = .ok (.istore_n 2, 1) := by decide +kernel
theorem dX1_skipsMade_20 : decode cX1_skipsMade 20 = .ok (.iinc 3 1, 3) := by decide +kernel
theorem dX1_skipsMade_23 : decode cX1_skipsMade 23 = .ok (.goto (-19), 3) := by decide +kernel
theorem dX1_skipsMade_26 : decode cX1_skipsMade 26 = .ok (.iload_n 2, 1) := by decide +kernel
theorem dX1_skipsMade_27 : decode cX1_skipsMade 27 = .ok (.ireturn, 1) := by decide +kernel
theorem dX1_greatestDepth_0 : decode cX1_greatestDepth 0 = .ok (.iconst 0, 1) := by decide +kernel
theorem dX1_greatestDepth_1 : decode cX1_greatestDepth 1 = .ok (.istore_n 2, 1) := by decide +kernel
theorem dX1_greatestDepth_2 : decode cX1_greatestDepth 2 = .ok (.iconst 0, 1) := by decide +kernel
theorem dX1_greatestDepth_3 : decode cX1_greatestDepth 3 = .ok (.istore_n 3, 1) := by decide +kernel
theorem dX1_greatestDepth_4 : decode cX1_greatestDepth 4 = .ok (.iload_n 3, 1) := by decide +kernel
theorem dX1_greatestDepth_5 : decode cX1_greatestDepth 5 = .ok (.iload_n 1, 1) := by decide +kernel
theorem dX1_greatestDepth_6 : decode cX1_greatestDepth 6 = .ok (.if_icmp .ge 22, 3) := by decide +kernel
theorem dX1_greatestDepth_9 : decode cX1_greatestDepth 9 = .ok (.iload_n 2, 1) := by decide +kernel
theorem dX1_greatestDepth_10 : decode cX1_greatestDepth 10 = .ok (.aload_n 0, 1) := by decide +kernel
theorem dX1_greatestDepth_11 : decode cX1_greatestDepth 11 = .ok (.getfield 21, 3) := by decide +kernel
theorem dX1_greatestDepth_14 : decode cX1_greatestDepth 14 = .ok (.iload_n 3, 1) := by decide +kernel
theorem dX1_greatestDepth_15 : decode cX1_greatestDepth 15 = .ok (.invokestatic 65, 3) := by decide +kernel
theorem dX1_greatestDepth_18 : decode cX1_greatestDepth 18 = .ok (.invokestatic 75, 3) := by decide +kernel
theorem dX1_greatestDepth_21 : decode cX1_greatestDepth 21 = .ok (.istore_n 2, 1) := by decide +kernel
theorem dX1_greatestDepth_22 : decode cX1_greatestDepth 22 = .ok (.iinc 3 1, 3) := by decide +kernel
theorem dX1_greatestDepth_25 : decode cX1_greatestDepth 25 = .ok (.goto (-21), 3) := by decide +kernel
theorem dX1_greatestDepth_28 : decode cX1_greatestDepth 28 = .ok (.iload_n 2, 1) := by decide +kernel
theorem dX1_greatestDepth_29 : decode cX1_greatestDepth 29 = .ok (.ireturn, 1) := by decide +kernel
theorem dX2_init_0 : decode cX2_init 0 = .ok (.aload_n 0, 1) := by decide +kernel
theorem dX2_init_1 : decode cX2_init 1 = .ok (.invokespecial 3, 3) := by decide +kernel
theorem dX2_init_4 : decode cX2_init 4 = .ok (.aload_n 0, 1) := by decide +kernel
theorem dX2_init_5 : decode cX2_init 5 = .ok (.bipush 9, 2) := by decide +kernel
theorem dX2_init_7 : decode cX2_init 7 = .ok (.newarray .long, 2) := by decide +kernel
theorem dX2_init_9 : decode cX2_init 9 = .ok (.putfield 11, 3) := by decide +kernel
theorem dX2_init_12 : decode cX2_init 12 = .ok (.aload_n 0, 1) := by decide +kernel
theorem dX2_init_13 : decode cX2_init 13 = .ok (.bipush 9, 2) := by decide +kernel
theorem dX2_init_15 : decode cX2_init 15 = .ok (.newarray .long, 2) := by decide +kernel
theorem dX2_init_17 : decode cX2_init 17 = .ok (.putfield 15, 3) := by decide +kernel
theorem dX2_init_20 : decode cX2_init 20 = .ok (.aload_n 0, 1) := by decide +kernel
theorem dX2_init_21 : decode cX2_init 21 = .ok (.bipush 52, 2) := by decide +kernel
theorem dX2_init_23 : decode cX2_init 23 = .ok (.newarray .long, 2) := by decide +kernel
theorem dX2_init_25 : decode cX2_init 25 = .ok (.putfield 18, 3) := by decide +kernel
theorem dX2_init_28 : decode cX2_init 28 = .ok (.return_, 1) := by decide +kernel
theorem dX2_reckon_0 : decode cX2_reckon 0 = .ok (.iconst 0, 1) := by decide +kernel
theorem dX2_reckon_1 : decode cX2_reckon 1 = .ok (.istore 5, 2) := by decide +kernel
theorem dX2_reckon_3 : decode cX2_reckon 3 = .ok (.iload 5, 2) := by decide +kernel
theorem dX2_reckon_5 : decode cX2_reckon 5 = .ok (.iload_n 2, 1) := by decide +kernel
theorem dX2_reckon_6 : decode cX2_reckon 6 = .ok (.if_icmp .gt 57, 3) := by decide +kernel
theorem dX2_reckon_9 : decode cX2_reckon 9 = .ok (.aload_n 0, 1) := by decide +kernel
theorem dX2_reckon_10 : decode cX2_reckon 10 = .ok (.lconst 1, 1) := by decide +kernel
theorem dX2_reckon_11 : decode cX2_reckon 11 = .ok (.lconst 1, 1) := by decide +kernel
theorem dX2_reckon_12 : decode cX2_reckon 12 = .ok (.invokevirtual 21, 3) := by decide +kernel
theorem dX2_reckon_15 : decode cX2_reckon 15 = .ok (.iload 5, 2) := by decide +kernel
theorem dX2_reckon_17 : decode cX2_reckon 17 = .ok (.iconst 1, 1) := by decide +kernel
theorem dX2_reckon_18 : decode cX2_reckon 18 = .ok (.if_icmp .le 13, 3) := by decide +kernel
theorem dX2_reckon_21 : decode cX2_reckon 21 = .ok (.aload_n 0, 1) := by decide +kernel
theorem dX2_reckon_22 : decode cX2_reckon 22 = .ok (.iload_n 1, 1) := by decide +kernel
theorem dX2_reckon_23 : decode cX2_reckon 23 = .ok (.iload 5, 2) := by decide +kernel
theorem dX2_reckon_25 : decode cX2_reckon 25 = .ok (.iload_n 3, 1) := by decide +kernel
theorem dX2_reckon_26 : decode cX2_reckon 26 = .ok (.iload 4, 2) := by decide +kernel
theorem dX2_reckon_28 : decode cX2_reckon 28 = .ok (.invokevirtual 25, 3) := by decide +kernel
theorem dX2_reckon_31 : decode cX2_reckon 31 = .ok (.aload_n 0, 1) := by decide +kernel
theorem dX2_reckon_32 : decode cX2_reckon 32 = .ok (.getfield 11, 3) := by decide +kernel
theorem dX2_reckon_35 : decode cX2_reckon 35 = .ok (.iload 5, 2) := by decide +kernel
theorem dX2_reckon_37 : decode cX2_reckon 37 = .ok (.aload_n 0, 1) := by decide +kernel
theorem dX2_reckon_38 : decode cX2_reckon 38 = .ok (.getfield 29, 3) := by decide +kernel
theorem dX2_reckon_41 : decode cX2_reckon 41 = .ok (.invokestatic 33, 3) := by decide +kernel
theorem dX2_reckon_44 : decode cX2_reckon 44 = .ok (.aload_n 0, 1) := by decide +kernel
theorem dX2_reckon_45 : decode cX2_reckon 45 = .ok (.getfield 15, 3) := by decide +kernel
theorem dX2_reckon_48 : decode cX2_reckon 48 = .ok (.iload 5, 2) := by decide +kernel
theorem dX2_reckon_50 : decode cX2_reckon 50 = .ok (.aload_n 0, 1) := by decide +kernel
theorem dX2_reckon_51 : decode cX2_reckon 51 = .ok (.getfield 37, 3) := by decide +kernel
theorem dX2_reckon_54 : decode cX2_reckon 54 = .ok (.invokestatic 33, 3) := by decide +kernel
theorem dX2_reckon_57 : decode cX2_reckon 57 = .ok (.iinc 5 1, 3) := by decide +kernel
theorem dX2_reckon_60 : decode cX2_reckon 60 = .ok (.goto (-57), 3) := by decide +kernel
theorem dX2_reckon_63 : decode cX2_reckon 63 = .ok (.return_, 1) := by decide +kernel
theorem dX2_reckonSplit_0 : decode cX2_reckonSplit 0 = .ok (.iload 4, 2) := by decide +kernel
theorem dX2_reckonSplit_2 : decode cX2_reckonSplit 2 = .ok (.i2l, 1) := by decide +kernel
theorem dX2_reckonSplit_3 : decode cX2_reckonSplit 3 = .ok (.iload_n 2, 1) := by decide +kernel
theorem dX2_reckonSplit_4 : decode cX2_reckonSplit 4 = .ok (.invokestatic 40, 3) := by decide +kernel
theorem dX2_reckonSplit_7 : decode cX2_reckonSplit 7 = .ok (.lstore 5, 2) := by decide +kernel
theorem dX2_reckonSplit_9 : decode cX2_reckonSplit 9 = .ok (.iload 4, 2) := by decide +kernel
theorem dX2_reckonSplit_11 : decode cX2_reckonSplit 11 = .ok (.iload_n 3, 1) := by decide +kernel
theorem dX2_reckonSplit_12 : decode cX2_reckonSplit 12 = .ok (.isub, 1) := by decide +kernel
theorem dX2_reckonSplit_13 : decode cX2_reckonSplit 13 = .ok (.i2l, 1) := by decide +kernel
theorem dX2_reckonSplit_14 : decode cX2_reckonSplit 14 = .ok (.iload_n 2, 1) := by decide +kernel
theorem dX2_reckonSplit_15 : decode cX2_reckonSplit 15 = .ok (.invokestatic 40, 3) := by decide +kernel
theorem dX2_reckonSplit_18 : decode cX2_reckonSplit 18 = .ok (.lstore 7, 2) := by decide +kernel
theorem dX2_reckonSplit_20 : decode cX2_reckonSplit 20 = .ok (.iload_n 3, 1) := by decide +kernel
theorem dX2_reckonSplit_21 : decode cX2_reckonSplit 21 = .ok (.i2l, 1) := by decide +kernel
theorem dX2_reckonSplit_22 : decode cX2_reckonSplit 22 = .ok (.iload_n 2, 1) := by decide +kernel
theorem dX2_reckonSplit_23 : decode cX2_reckonSplit 23 = .ok (.invokestatic 40, 3) := by decide +kernel
theorem dX2_reckonSplit_26 : decode cX2_reckonSplit 26 = .ok (.lstore 9, 2) := by decide +kernel
theorem dX2_reckonSplit_28 : decode cX2_reckonSplit 28 = .ok (.aload_n 0, 1) := by decide +kernel
theorem dX2_reckonSplit_29 : decode cX2_reckonSplit 29 = .ok (.lload 5, 2) := by decide +kernel
theorem dX2_reckonSplit_31 : decode cX2_reckonSplit 31 = .ok (.lload 9, 2) := by decide +kernel
theorem dX2_reckonSplit_33 : decode cX2_reckonSplit 33 = .ok (.ladd, 1) := by decide +kernel
theorem dX2_reckonSplit_34 : decode cX2_reckonSplit 34 = .ok (.iload_n 1, 1) := by decide +kernel
theorem dX2_reckonSplit_35 : decode cX2_reckonSplit 35 = .ok (.iconst 1, 1) := by decide +kernel
theorem dX2_reckonSplit_36 : decode cX2_reckonSplit 36 = .ok (.if_icmp .ne 7, 3) := by decide +kernel
theorem dX2_reckonSplit_39 : decode cX2_reckonSplit 39 = .ok (.lconst 0, 1) := by decide +kernel
theorem dX2_reckonSplit_40 : decode cX2_reckonSplit 40 = .ok (.goto 5, 3) := by decide +kernel
theorem dX2_reckonSplit_43 : decode cX2_reckonSplit 43 = .ok (.lload 7, 2) := by decide +kernel
theorem dX2_reckonSplit_45 : decode cX2_reckonSplit 45 = .ok (.ladd, 1) := by decide +kernel
theorem dX2_reckonSplit_46 : decode cX2_reckonSplit 46 = .ok (.lconst 1, 1) := by decide +kernel
theorem dX2_reckonSplit_47 : decode cX2_reckonSplit 47 = .ok (.invokevirtual 21, 3) := by decide +kernel
theorem dX2_reckonSplit_50 : decode cX2_reckonSplit 50 = .ok (.iconst 1, 1) := by decide +kernel
theorem dX2_reckonSplit_51 : decode cX2_reckonSplit 51 = .ok (.istore 11, 2) := by decide +kernel
theorem dX2_reckonSplit_53 : decode cX2_reckonSplit 53 = .ok (.iload 11, 2) := by decide +kernel
theorem dX2_reckonSplit_55 : decode cX2_reckonSplit 55 = .ok (.iload_n 2, 1) := by decide +kernel
theorem dX2_reckonSplit_56 : decode cX2_reckonSplit 56 = .ok (.if_icmp .ge 92, 3) := by decide +kernel
theorem dX2_reckonSplit_59 : decode cX2_reckonSplit 59 = .ok (.iload_n 2, 1) := by decide +kernel
theorem dX2_reckonSplit_60 : decode cX2_reckonSplit 60 = .ok (.iload 11, 2) := by decide +kernel
theorem dX2_reckonSplit_62 : decode cX2_reckonSplit 62 = .ok (.invokestatic 44, 3) := by decide +kernel
theorem dX2_reckonSplit_65 : decode cX2_reckonSplit 65 = .ok (.iload_n 3, 1) := by decide +kernel
theorem dX2_reckonSplit_66 : decode cX2_reckonSplit 66 = .ok (.i2l, 1) := by decide +kernel
theorem dX2_reckonSplit_67 : decode cX2_reckonSplit 67 = .ok (.iload 11, 2) := by decide +kernel
theorem dX2_reckonSplit_69 : decode cX2_reckonSplit 69 = .ok (.invokestatic 40, 3) := by decide +kernel
theorem dX2_reckonSplit_72 : decode cX2_reckonSplit 72 = .ok (.lmul, 1) := by decide +kernel
theorem dX2_reckonSplit_73 : decode cX2_reckonSplit 73 = .ok (.iload 4, 2) := by decide +kernel
theorem dX2_reckonSplit_75 : decode cX2_reckonSplit 75 = .ok (.iload_n 3, 1) := by decide +kernel
theorem dX2_reckonSplit_76 : decode cX2_reckonSplit 76 = .ok (.isub, 1) := by decide +kernel
theorem dX2_reckonSplit_77 : decode cX2_reckonSplit 77 = .ok (.i2l, 1) := by decide +kernel
theorem dX2_reckonSplit_78 : decode cX2_reckonSplit 78 = .ok (.iload_n 2, 1) := by decide +kernel
theorem dX2_reckonSplit_79 : decode cX2_reckonSplit 79 = .ok (.iload 11, 2) := by decide +kernel
theorem dX2_reckonSplit_81 : decode cX2_reckonSplit 81 = .ok (.isub, 1) := by decide +kernel
theorem dX2_reckonSplit_82 : decode cX2_reckonSplit 82 = .ok (.invokestatic 40, 3) := by decide +kernel
theorem dX2_reckonSplit_85 : decode cX2_reckonSplit 85 = .ok (.lmul, 1) := by decide +kernel
theorem dX2_reckonSplit_86 : decode cX2_reckonSplit 86 = .ok (.lstore 12, 2) := by decide +kernel
theorem dX2_reckonSplit_88 : decode cX2_reckonSplit 88 = .ok (.aload_n 0, 1) := by decide +kernel
theorem dX2_reckonSplit_89 : decode cX2_reckonSplit 89 = .ok (.lload 12, 2) := by decide +kernel
theorem dX2_reckonSplit_91 : decode cX2_reckonSplit 91 = .ok (.aload_n 0, 1) := by decide +kernel
theorem dX2_reckonSplit_92 : decode cX2_reckonSplit 92 = .ok (.getfield 11, 3) := by decide +kernel
theorem dX2_reckonSplit_95 : decode cX2_reckonSplit 95 = .ok (.iload 11, 2) := by decide +kernel
theorem dX2_reckonSplit_97 : decode cX2_reckonSplit 97 = .ok (.invokestatic 48, 3) := by decide +kernel
theorem dX2_reckonSplit_100 : decode cX2_reckonSplit 100 = .ok (.lmul, 1) := by decide +kernel
theorem dX2_reckonSplit_101 : decode cX2_reckonSplit 101 = .ok (.aload_n 0, 1) := by decide +kernel
theorem dX2_reckonSplit_102 : decode cX2_reckonSplit 102 = .ok (.getfield 15, 3) := by decide +kernel
theorem dX2_reckonSplit_105 : decode cX2_reckonSplit 105 = .ok (.iload 11, 2) := by decide +kernel
theorem dX2_reckonSplit_107 : decode cX2_reckonSplit 107 = .ok (.invokestatic 48, 3) := by decide +kernel
theorem dX2_reckonSplit_110 : decode cX2_reckonSplit 110 = .ok (.invokevirtual 52, 3) := by decide +kernel
theorem dX2_reckonSplit_113 : decode cX2_reckonSplit 113 = .ok (.aload_n 0, 1) := by decide +kernel
theorem dX2_reckonSplit_114 : decode cX2_reckonSplit 114 = .ok (.lload 12, 2) := by decide +kernel
theorem dX2_reckonSplit_116 : decode cX2_reckonSplit 116 = .ok (.aload_n 0, 1) := by decide +kernel
theorem dX2_reckonSplit_117 : decode cX2_reckonSplit 117 = .ok (.getfield 11, 3) := by decide +kernel
theorem dX2_reckonSplit_120 : decode cX2_reckonSplit 120 = .ok (.iload_n 2, 1) := by decide +kernel
theorem dX2_reckonSplit_121 : decode cX2_reckonSplit 121 = .ok (.iload 11, 2) := by decide +kernel
theorem dX2_reckonSplit_123 : decode cX2_reckonSplit 123 = .ok (.isub, 1) := by decide +kernel
theorem dX2_reckonSplit_124 : decode cX2_reckonSplit 124 = .ok (.invokestatic 48, 3) := by decide +kernel
theorem dX2_reckonSplit_127 : decode cX2_reckonSplit 127 = .ok (.lmul, 1) := by decide +kernel
theorem dX2_reckonSplit_128 : decode cX2_reckonSplit 128 = .ok (.aload_n 0, 1) := by decide +kernel
theorem dX2_reckonSplit_129 : decode cX2_reckonSplit 129 = .ok (.getfield 15, 3) := by decide +kernel
theorem dX2_reckonSplit_132 : decode cX2_reckonSplit 132 = .ok (.iload_n 2, 1) := by decide +kernel
theorem dX2_reckonSplit_133 : decode cX2_reckonSplit 133 = .ok (.iload 11, 2) := by decide +kernel
theorem dX2_reckonSplit_135 : decode cX2_reckonSplit 135 = .ok (.isub, 1) := by decide +kernel
theorem dX2_reckonSplit_136 : decode cX2_reckonSplit 136 = .ok (.invokestatic 48, 3) := by decide +kernel
theorem dX2_reckonSplit_139 : decode cX2_reckonSplit 139 = .ok (.invokevirtual 52, 3) := by decide +kernel
theorem dX2_reckonSplit_142 : decode cX2_reckonSplit 142 = .ok (.iinc 11 1, 3) := by decide +kernel
theorem dX2_reckonSplit_145 : decode cX2_reckonSplit 145 = .ok (.goto (-92), 3) := by decide +kernel
theorem dX2_reckonSplit_148 : decode cX2_reckonSplit 148 = .ok (.aload_n 0, 1) := by decide +kernel
theorem dX2_reckonSplit_149 : decode cX2_reckonSplit 149 = .ok (.aload_n 0, 1) := by decide +kernel
theorem dX2_reckonSplit_150 : decode cX2_reckonSplit 150 = .ok (.getfield 29, 3) := by decide +kernel
theorem dX2_reckonSplit_153 : decode cX2_reckonSplit 153 = .ok (.aload_n 0, 1) := by decide +kernel
theorem dX2_reckonSplit_154 : decode cX2_reckonSplit 154 = .ok (.getfield 37, 3) := by decide +kernel
theorem dX2_reckonSplit_157 : decode cX2_reckonSplit 157 = .ok (.lload 5, 2) := by decide +kernel
theorem dX2_reckonSplit_159 : decode cX2_reckonSplit 159 = .ok (.lload 7, 2) := by decide +kernel
theorem dX2_reckonSplit_161 : decode cX2_reckonSplit 161 = .ok (.lsub, 1) := by decide +kernel
theorem dX2_reckonSplit_162 : decode cX2_reckonSplit 162 = .ok (.lload 9, 2) := by decide +kernel
theorem dX2_reckonSplit_164 : decode cX2_reckonSplit 164 = .ok (.lsub, 1) := by decide +kernel
theorem dX2_reckonSplit_165 : decode cX2_reckonSplit 165 = .ok (.lmul, 1) := by decide +kernel
theorem dX2_reckonSplit_166 : decode cX2_reckonSplit 166 = .ok (.invokevirtual 21, 3) := by decide +kernel
theorem dX2_reckonSplit_169 : decode cX2_reckonSplit 169 = .ok (.return_, 1) := by decide +kernel
theorem dX2_reckonChance_0 : decode cX2_reckonChance 0 = .ok (.aload_n 0, 1) := by decide +kernel
theorem dX2_reckonChance_1 : decode cX2_reckonChance 1 = .ok (.getfield 18, 3) := by decide +kernel
theorem dX2_reckonChance_4 : decode cX2_reckonChance 4 = .ok (.lconst 0, 1) := by decide +kernel
theorem dX2_reckonChance_5 : decode cX2_reckonChance 5 = .ok (.invokestatic 55, 3) := by decide +kernel
theorem dX2_reckonChance_8 : decode cX2_reckonChance 8 = .ok (.iconst 0, 1) := by decide +kernel
theorem dX2_reckonChance_9 : decode cX2_reckonChance 9 = .ok (.istore 4, 2) := by decide +kernel
theorem dX2_reckonChance_11 : decode cX2_reckonChance 11 = .ok (.iload 4, 2) := by decide +kernel
theorem dX2_reckonChance_13 : decode cX2_reckonChance 13 = .ok (.iload_n 2, 1) := by decide +kernel
theorem dX2_reckonChance_14 : decode cX2_reckonChance 14 = .ok (.if_icmp .gt 73, 3) := by decide +kernel
theorem dX2_reckonChance_17 : decode cX2_reckonChance 17 = .ok (.iconst 1, 1) := by decide +kernel
theorem dX2_reckonChance_18 : decode cX2_reckonChance 18 = .ok (.istore 5, 2) := by decide +kernel
theorem dX2_reckonChance_20 : decode cX2_reckonChance 20 = .ok (.iload 5, 2) := by decide +kernel
theorem dX2_reckonChance_22 : decode cX2_reckonChance 22 = .ok (.iload_n 3, 1) := by decide +kernel
theorem dX2_reckonChance_23 : decode cX2_reckonChance 23 = .ok (.if_icmp .gt 58, 3) := by decide +kernel
theorem dX2_reckonChance_26 : decode cX2_reckonChance 26 = .ok (.iload 5, 2) := by decide +kernel
theorem dX2_reckonChance_28 : decode cX2_reckonChance 28 = .ok (.iconst 1, 1) := by decide +kernel
theorem dX2_reckonChance_29 : decode cX2_reckonChance 29 = .ok (.if_icmp .ne 9, 3) := by decide +kernel
theorem dX2_reckonChance_32 : decode cX2_reckonChance 32 = .ok (.ldc2_w 61, 3) := by decide +kernel
theorem dX2_reckonChance_35 : decode cX2_reckonChance 35 = .ok (.goto 4, 3) := by decide +kernel
theorem dX2_reckonChance_38 : decode cX2_reckonChance 38 = .ok (.lconst 0, 1) := by decide +kernel
theorem dX2_reckonChance_39 : decode cX2_reckonChance 39 = .ok (.lstore 6, 2) := by decide +kernel
theorem dX2_reckonChance_41 : decode cX2_reckonChance 41 = .ok (.aload_n 0, 1) := by decide +kernel
theorem dX2_reckonChance_42 : decode cX2_reckonChance 42 = .ok (.getfield 18, 3) := by decide +kernel
theorem dX2_reckonChance_45 : decode cX2_reckonChance 45 = .ok (.iload 4, 2) := by decide +kernel
theorem dX2_reckonChance_47 : decode cX2_reckonChance 47 = .ok (.iload 5, 2) := by decide +kernel
theorem dX2_reckonChance_49 : decode cX2_reckonChance 49 = .ok (.invokestatic 63, 3) := by decide +kernel
theorem dX2_reckonChance_52 : decode cX2_reckonChance 52 = .ok (.iload 4, 2) := by decide +kernel
theorem dX2_reckonChance_54 : decode cX2_reckonChance 54 = .ok (.iconst 2, 1) := by decide +kernel
theorem dX2_reckonChance_55 : decode cX2_reckonChance 55 = .ok (.if_icmp .ge 8, 3) := by decide +kernel
theorem dX2_reckonChance_58 : decode cX2_reckonChance 58 = .ok (.lload 6, 2) := by decide +kernel
theorem dX2_reckonChance_60 : decode cX2_reckonChance 60 = .ok (.goto 12, 3) := by decide +kernel
theorem dX2_reckonChance_63 : decode cX2_reckonChance 63 = .ok (.aload_n 0, 1) := by decide +kernel
theorem dX2_reckonChance_64 : decode cX2_reckonChance 64 = .ok (.iload_n 1, 1) := by decide +kernel
theorem dX2_reckonChance_65 : decode cX2_reckonChance 65 = .ok (.iload 4, 2) := by decide +kernel
theorem dX2_reckonChance_67 : decode cX2_reckonChance 67 = .ok (.iload 5, 2) := by decide +kernel
theorem dX2_reckonChance_69 : decode cX2_reckonChance 69 = .ok (.invokevirtual 67, 3) := by decide +kernel
theorem dX2_reckonChance_72 : decode cX2_reckonChance 72 = .ok (.invokestatic 33, 3) := by decide +kernel
theorem dX2_reckonChance_75 : decode cX2_reckonChance 75 = .ok (.iinc 5 1, 3) := by decide +kernel
theorem dX2_reckonChance_78 : decode cX2_reckonChance 78 = .ok (.goto (-58), 3) := by decide +kernel
theorem dX2_reckonChance_81 : decode cX2_reckonChance 81 = .ok (.iinc 4 1, 3) := by decide +kernel
theorem dX2_reckonChance_84 : decode cX2_reckonChance 84 = .ok (.goto (-73), 3) := by decide +kernel
theorem dX2_reckonChance_87 : decode cX2_reckonChance 87 = .ok (.aload_n 0, 1) := by decide +kernel
theorem dX2_reckonChance_88 : decode cX2_reckonChance 88 = .ok (.aload_n 0, 1) := by decide +kernel
theorem dX2_reckonChance_89 : decode cX2_reckonChance 89 = .ok (.getfield 18, 3) := by decide +kernel
theorem dX2_reckonChance_92 : decode cX2_reckonChance 92 = .ok (.iload_n 2, 1) := by decide +kernel
theorem dX2_reckonChance_93 : decode cX2_reckonChance 93 = .ok (.iload_n 3, 1) := by decide +kernel
theorem dX2_reckonChance_94 : decode cX2_reckonChance 94 = .ok (.invokestatic 63, 3) := by decide +kernel
theorem dX2_reckonChance_97 : decode cX2_reckonChance 97 = .ok (.invokestatic 48, 3) := by decide +kernel
theorem dX2_reckonChance_100 : decode cX2_reckonChance 100 = .ok (.ldc2_w 61, 3) := by decide +kernel
theorem dX2_reckonChance_103 : decode cX2_reckonChance 103 = .ok (.iload_n 3, 1) := by decide +kernel
theorem dX2_reckonChance_104 : decode cX2_reckonChance 104 = .ok (.invokestatic 40, 3) := by decide +kernel
theorem dX2_reckonChance_107 : decode cX2_reckonChance 107 = .ok (.invokevirtual 21, 3) := by decide +kernel
theorem dX2_reckonChance_110 : decode cX2_reckonChance 110 = .ok (.return_, 1) := by decide +kernel
theorem dX2_splitWays_0 : decode cX2_splitWays 0 = .ok (.lconst 0, 1) := by decide +kernel
theorem dX2_splitWays_1 : decode cX2_splitWays 1 = .ok (.lstore 4, 2) := by decide +kernel
theorem dX2_splitWays_3 : decode cX2_splitWays 3 = .ok (.iconst 0, 1) := by decide +kernel
theorem dX2_splitWays_4 : decode cX2_splitWays 4 = .ok (.istore 6, 2) := by decide +kernel
theorem dX2_splitWays_6 : decode cX2_splitWays 6 = .ok (.iload 6, 2) := by decide +kernel
theorem dX2_splitWays_8 : decode cX2_splitWays 8 = .ok (.iload_n 2, 1) := by decide +kernel
theorem dX2_splitWays_9 : decode cX2_splitWays 9 = .ok (.if_icmp .gt 73, 3) := by decide +kernel
theorem dX2_splitWays_12 : decode cX2_splitWays 12 = .ok (.iload 6, 2) := by decide +kernel
theorem dX2_splitWays_14 : decode cX2_splitWays 14 = .ok (.ifCond .ne 12, 3) := by decide +kernel
theorem dX2_splitWays_17 : decode cX2_splitWays 17 = .ok (.iload_n 1, 1) := by decide +kernel
theorem dX2_splitWays_18 : decode cX2_splitWays 18 = .ok (.iconst 1, 1) := by decide +kernel
theorem dX2_splitWays_19 : decode cX2_splitWays 19 = .ok (.if_icmp .ne 7, 3) := by decide +kernel
theorem dX2_splitWays_22 : decode cX2_splitWays 22 = .ok (.iconst 1, 1) := by decide +kernel
theorem dX2_splitWays_23 : decode cX2_splitWays 23 = .ok (.goto 4, 3) := by decide +kernel
theorem dX2_splitWays_26 : decode cX2_splitWays 26 = .ok (.iconst 0, 1) := by decide +kernel
theorem dX2_splitWays_27 : decode cX2_splitWays 27 = .ok (.istore 7, 2) := by decide +kernel
theorem dX2_splitWays_29 : decode cX2_splitWays 29 = .ok (.lload 4, 2) := by decide +kernel
theorem dX2_splitWays_31 : decode cX2_splitWays 31 = .ok (.iload_n 2, 1) := by decide +kernel
theorem dX2_splitWays_32 : decode cX2_splitWays 32 = .ok (.iload 6, 2) := by decide +kernel
theorem dX2_splitWays_34 : decode cX2_splitWays 34 = .ok (.invokestatic 44, 3) := by decide +kernel
theorem dX2_splitWays_37 : decode cX2_splitWays 37 = .ok (.iload 7, 2) := by decide +kernel
theorem dX2_splitWays_39 : decode cX2_splitWays 39 = .ok (.ifCond .eq 20, 3) := by decide +kernel
theorem dX2_splitWays_42 : decode cX2_splitWays 42 = .ok (.aload_n 0, 1) := by decide +kernel
theorem dX2_splitWays_43 : decode cX2_splitWays 43 = .ok (.getfield 18, 3) := by decide +kernel
theorem dX2_splitWays_46 : decode cX2_splitWays 46 = .ok (.iload_n 2, 1) := by decide +kernel
theorem dX2_splitWays_47 : decode cX2_splitWays 47 = .ok (.iload_n 3, 1) := by decide +kernel
theorem dX2_splitWays_48 : decode cX2_splitWays 48 = .ok (.iconst 1, 1) := by decide +kernel
theorem dX2_splitWays_49 : decode cX2_splitWays 49 = .ok (.isub, 1) := by decide +kernel
theorem dX2_splitWays_50 : decode cX2_splitWays 50 = .ok (.invokestatic 63, 3) := by decide +kernel
theorem dX2_splitWays_53 : decode cX2_splitWays 53 = .ok (.invokestatic 48, 3) := by decide +kernel
theorem dX2_splitWays_56 : decode cX2_splitWays 56 = .ok (.goto 16, 3) := by decide +kernel
theorem dX2_splitWays_59 : decode cX2_splitWays 59 = .ok (.aload_n 0, 1) := by decide +kernel
theorem dX2_splitWays_60 : decode cX2_splitWays 60 = .ok (.iload 6, 2) := by decide +kernel
theorem dX2_splitWays_62 : decode cX2_splitWays 62 = .ok (.iload_n 2, 1) := by decide +kernel
theorem dX2_splitWays_63 : decode cX2_splitWays 63 = .ok (.iload 6, 2) := by decide +kernel
theorem dX2_splitWays_65 : decode cX2_splitWays 65 = .ok (.isub, 1) := by decide +kernel
theorem dX2_splitWays_66 : decode cX2_splitWays 66 = .ok (.iload_n 3, 1) := by decide +kernel
theorem dX2_splitWays_67 : decode cX2_splitWays 67 = .ok (.iconst 1, 1) := by decide +kernel
theorem dX2_splitWays_68 : decode cX2_splitWays 68 = .ok (.isub, 1) := by decide +kernel
theorem dX2_splitWays_69 : decode cX2_splitWays 69 = .ok (.invokevirtual 71, 3) := by decide +kernel
theorem dX2_splitWays_72 : decode cX2_splitWays 72 = .ok (.lmul, 1) := by decide +kernel
theorem dX2_splitWays_73 : decode cX2_splitWays 73 = .ok (.ladd, 1) := by decide +kernel
theorem dX2_splitWays_74 : decode cX2_splitWays 74 = .ok (.lstore 4, 2) := by decide +kernel
theorem dX2_splitWays_76 : decode cX2_splitWays 76 = .ok (.iinc 6 1, 3) := by decide +kernel
theorem dX2_splitWays_79 : decode cX2_splitWays 79 = .ok (.goto (-73), 3) := by decide +kernel
theorem dX2_splitWays_82 : decode cX2_splitWays 82 = .ok (.lload 4, 2) := by decide +kernel
theorem dX2_splitWays_84 : decode cX2_splitWays 84 = .ok (.ldc2_w 74, 3) := by decide +kernel
theorem dX2_splitWays_87 : decode cX2_splitWays 87 = .ok (.iconst 3, 1) := by decide +kernel
theorem dX2_splitWays_88 : decode cX2_splitWays 88 = .ok (.iload_n 2, 1) := by decide +kernel
theorem dX2_splitWays_89 : decode cX2_splitWays 89 = .ok (.isub, 1) := by decide +kernel
theorem dX2_splitWays_90 : decode cX2_splitWays 90 = .ok (.invokestatic 40, 3) := by decide +kernel
theorem dX2_splitWays_93 : decode cX2_splitWays 93 = .ok (.lmul, 1) := by decide +kernel
theorem dX2_splitWays_94 : decode cX2_splitWays 94 = .ok (.lreturn, 1) := by decide +kernel
theorem dX2_bothWays_0 : decode cX2_bothWays 0 = .ok (.lconst 0, 1) := by decide +kernel
theorem dX2_bothWays_1 : decode cX2_bothWays 1 = .ok (.lstore 4, 2) := by decide +kernel
theorem dX2_bothWays_3 : decode cX2_bothWays 3 = .ok (.iconst 1, 1) := by decide +kernel
theorem dX2_bothWays_4 : decode cX2_bothWays 4 = .ok (.istore 6, 2) := by decide +kernel
theorem dX2_bothWays_6 : decode cX2_bothWays 6 = .ok (.iload 6, 2) := by decide +kernel
theorem dX2_bothWays_8 : decode cX2_bothWays 8 = .ok (.iload_n 3, 1) := by decide +kernel
theorem dX2_bothWays_9 : decode cX2_bothWays 9 = .ok (.if_icmp .ge 43, 3) := by decide +kernel
theorem dX2_bothWays_12 : decode cX2_bothWays 12 = .ok (.lload 4, 2) := by decide +kernel
theorem dX2_bothWays_14 : decode cX2_bothWays 14 = .ok (.aload_n 0, 1) := by decide +kernel
theorem dX2_bothWays_15 : decode cX2_bothWays 15 = .ok (.getfield 18, 3) := by decide +kernel
theorem dX2_bothWays_18 : decode cX2_bothWays 18 = .ok (.iload_n 1, 1) := by decide +kernel
theorem dX2_bothWays_19 : decode cX2_bothWays 19 = .ok (.iload 6, 2) := by decide +kernel
theorem dX2_bothWays_21 : decode cX2_bothWays 21 = .ok (.invokestatic 63, 3) := by decide +kernel
theorem dX2_bothWays_24 : decode cX2_bothWays 24 = .ok (.invokestatic 48, 3) := by decide +kernel
theorem dX2_bothWays_27 : decode cX2_bothWays 27 = .ok (.aload_n 0, 1) := by decide +kernel
theorem dX2_bothWays_28 : decode cX2_bothWays 28 = .ok (.getfield 18, 3) := by decide +kernel
theorem dX2_bothWays_31 : decode cX2_bothWays 31 = .ok (.iload_n 2, 1) := by decide +kernel
theorem dX2_bothWays_32 : decode cX2_bothWays 32 = .ok (.iload_n 3, 1) := by decide +kernel
theorem dX2_bothWays_33 : decode cX2_bothWays 33 = .ok (.iload 6, 2) := by decide +kernel
theorem dX2_bothWays_35 : decode cX2_bothWays 35 = .ok (.isub, 1) := by decide +kernel
theorem dX2_bothWays_36 : decode cX2_bothWays 36 = .ok (.invokestatic 63, 3) := by decide +kernel
theorem dX2_bothWays_39 : decode cX2_bothWays 39 = .ok (.invokestatic 48, 3) := by decide +kernel
theorem dX2_bothWays_42 : decode cX2_bothWays 42 = .ok (.lmul, 1) := by decide +kernel
theorem dX2_bothWays_43 : decode cX2_bothWays 43 = .ok (.ladd, 1) := by decide +kernel
theorem dX2_bothWays_44 : decode cX2_bothWays 44 = .ok (.lstore 4, 2) := by decide +kernel
theorem dX2_bothWays_46 : decode cX2_bothWays 46 = .ok (.iinc 6 1, 3) := by decide +kernel
theorem dX2_bothWays_49 : decode cX2_bothWays 49 = .ok (.goto (-43), 3) := by decide +kernel
theorem dX2_bothWays_52 : decode cX2_bothWays 52 = .ok (.lload 4, 2) := by decide +kernel
theorem dX2_bothWays_54 : decode cX2_bothWays 54 = .ok (.lreturn, 1) := by decide +kernel
theorem dX2_place_0 : decode cX2_place 0 = .ok (.iload_n 0, 1) := by decide +kernel
theorem dX2_place_1 : decode cX2_place 1 = .ok (.bipush 13, 2) := by decide +kernel
theorem dX2_place_3 : decode cX2_place 3 = .ok (.imul, 1) := by decide +kernel
theorem dX2_place_4 : decode cX2_place 4 = .ok (.iload_n 1, 1) := by decide +kernel
theorem dX2_place_5 : decode cX2_place 5 = .ok (.iadd, 1) := by decide +kernel
theorem dX2_place_6 : decode cX2_place 6 = .ok (.ireturn, 1) := by decide +kernel
theorem dX2_bestCount_0 : decode cX2_bestCount 0 = .ok (.aload_n 0, 1) := by decide +kernel
theorem dX2_bestCount_1 : decode cX2_bestCount 1 = .ok (.iload_n 1, 1) := by decide +kernel
theorem dX2_bestCount_2 : decode cX2_bestCount 2 = .ok (.bipush 8, 2) := by decide +kernel
theorem dX2_bestCount_4 : decode cX2_bestCount 4 = .ok (.iconst 1, 1) := by decide +kernel
theorem dX2_bestCount_5 : decode cX2_bestCount 5 = .ok (.iconst 2, 1) := by decide +kernel
theorem dX2_bestCount_6 : decode cX2_bestCount 6 = .ok (.invokevirtual 76, 3) := by decide +kernel
theorem dX2_bestCount_9 : decode cX2_bestCount 9 = .ok (.iconst 1, 1) := by decide +kernel
theorem dX2_bestCount_10 : decode cX2_bestCount 10 = .ok (.istore_n 2, 1) := by decide +kernel
theorem dX2_bestCount_11 : decode cX2_bestCount 11 = .ok (.iconst 2, 1) := by decide +kernel
theorem dX2_bestCount_12 : decode cX2_bestCount 12 = .ok (.istore_n 3, 1) := by decide +kernel
theorem dX2_bestCount_13 : decode cX2_bestCount 13 = .ok (.iload_n 3, 1) := by decide +kernel
theorem dX2_bestCount_14 : decode cX2_bestCount 14 = .ok (.bipush 8, 2) := by decide +kernel
theorem dX2_bestCount_16 : decode cX2_bestCount 16 = .ok (.if_icmp .gt 55, 3) := by decide +kernel
theorem dX2_bestCount_19 : decode cX2_bestCount 19 = .ok (.iload_n 3, 1) := by decide +kernel
theorem dX2_bestCount_20 : decode cX2_bestCount 20 = .ok (.i2l, 1) := by decide +kernel
theorem dX2_bestCount_21 : decode cX2_bestCount 21 = .ok (.aload_n 0, 1) := by decide +kernel
theorem dX2_bestCount_22 : decode cX2_bestCount 22 = .ok (.getfield 15, 3) := by decide +kernel
theorem dX2_bestCount_25 : decode cX2_bestCount 25 = .ok (.iload_n 3, 1) := by decide +kernel
theorem dX2_bestCount_26 : decode cX2_bestCount 26 = .ok (.invokestatic 48, 3) := by decide +kernel
theorem dX2_bestCount_29 : decode cX2_bestCount 29 = .ok (.lmul, 1) := by decide +kernel
theorem dX2_bestCount_30 : decode cX2_bestCount 30 = .ok (.aload_n 0, 1) := by decide +kernel
theorem dX2_bestCount_31 : decode cX2_bestCount 31 = .ok (.getfield 11, 3) := by decide +kernel
theorem dX2_bestCount_34 : decode cX2_bestCount 34 = .ok (.iload_n 2, 1) := by decide +kernel
theorem dX2_bestCount_35 : decode cX2_bestCount 35 = .ok (.invokestatic 48, 3) := by decide +kernel
theorem dX2_bestCount_38 : decode cX2_bestCount 38 = .ok (.lmul, 1) := by decide +kernel
theorem dX2_bestCount_39 : decode cX2_bestCount 39 = .ok (.iload_n 2, 1) := by decide +kernel
theorem dX2_bestCount_40 : decode cX2_bestCount 40 = .ok (.i2l, 1) := by decide +kernel
theorem dX2_bestCount_41 : decode cX2_bestCount 41 = .ok (.aload_n 0, 1) := by decide +kernel
theorem dX2_bestCount_42 : decode cX2_bestCount 42 = .ok (.getfield 15, 3) := by decide +kernel
theorem dX2_bestCount_45 : decode cX2_bestCount 45 = .ok (.iload_n 2, 1) := by decide +kernel
theorem dX2_bestCount_46 : decode cX2_bestCount 46 = .ok (.invokestatic 48, 3) := by decide +kernel
theorem dX2_bestCount_49 : decode cX2_bestCount 49 = .ok (.lmul, 1) := by decide +kernel
theorem dX2_bestCount_50 : decode cX2_bestCount 50 = .ok (.aload_n 0, 1) := by decide +kernel
theorem dX2_bestCount_51 : decode cX2_bestCount 51 = .ok (.getfield 11, 3) := by decide +kernel
theorem dX2_bestCount_54 : decode cX2_bestCount 54 = .ok (.iload_n 3, 1) := by decide +kernel
theorem dX2_bestCount_55 : decode cX2_bestCount 55 = .ok (.invokestatic 48, 3) := by decide +kernel
theorem dX2_bestCount_58 : decode cX2_bestCount 58 = .ok (.lmul, 1) := by decide +kernel
theorem dX2_bestCount_59 : decode cX2_bestCount 59 = .ok (.lcmp, 1) := by decide +kernel
theorem dX2_bestCount_60 : decode cX2_bestCount 60 = .ok (.ifCond .le 5, 3) := by decide +kernel
theorem dX2_bestCount_63 : decode cX2_bestCount 63 = .ok (.iload_n 3, 1) := by decide +kernel
theorem dX2_bestCount_64 : decode cX2_bestCount 64 = .ok (.istore_n 2, 1) := by decide +kernel
theorem dX2_bestCount_65 : decode cX2_bestCount 65 = .ok (.iinc 3 1, 3) := by decide +kernel
theorem dX2_bestCount_68 : decode cX2_bestCount 68 = .ok (.goto (-55), 3) := by decide +kernel
theorem dX2_bestCount_71 : decode cX2_bestCount 71 = .ok (.iload_n 2, 1) := by decide +kernel
theorem dX2_bestCount_72 : decode cX2_bestCount 72 = .ok (.ireturn, 1) := by decide +kernel
theorem dX2_set_0 : decode cX2_set 0 = .ok (.lload_n 1, 1) := by decide +kernel
theorem dX2_set_1 : decode cX2_set 1 = .ok (.lload_n 3, 1) := by decide +kernel
theorem dX2_set_2 : decode cX2_set 2 = .ok (.invokestatic 79, 3) := by decide +kernel
theorem dX2_set_5 : decode cX2_set 5 = .ok (.lstore 5, 2) := by decide +kernel
theorem dX2_set_7 : decode cX2_set 7 = .ok (.aload_n 0, 1) := by decide +kernel
theorem dX2_set_8 : decode cX2_set 8 = .ok (.lload 5, 2) := by decide +kernel
theorem dX2_set_10 : decode cX2_set 10 = .ok (.lconst 0, 1) := by decide +kernel
theorem dX2_set_11 : decode cX2_set 11 = .ok (.lcmp, 1) := by decide +kernel
theorem dX2_set_12 : decode cX2_set 12 = .ok (.ifCond .le 10, 3) := by decide +kernel
theorem dX2_set_15 : decode cX2_set 15 = .ok (.lload_n 1, 1) := by decide +kernel
theorem dX2_set_16 : decode cX2_set 16 = .ok (.lload 5, 2) := by decide +kernel
theorem dX2_set_18 : decode cX2_set 18 = .ok (.ldiv, 1) := by decide +kernel
theorem dX2_set_19 : decode cX2_set 19 = .ok (.goto 4, 3) := by decide +kernel
theorem dX2_set_22 : decode cX2_set 22 = .ok (.lload_n 1, 1) := by decide +kernel
theorem dX2_set_23 : decode cX2_set 23 = .ok (.putfield 29, 3) := by decide +kernel
theorem dX2_set_26 : decode cX2_set 26 = .ok (.aload_n 0, 1) := by decide +kernel
theorem dX2_set_27 : decode cX2_set 27 = .ok (.lload 5, 2) := by decide +kernel
theorem dX2_set_29 : decode cX2_set 29 = .ok (.lconst 0, 1) := by decide +kernel
theorem dX2_set_30 : decode cX2_set 30 = .ok (.lcmp, 1) := by decide +kernel
theorem dX2_set_31 : decode cX2_set 31 = .ok (.ifCond .le 10, 3) := by decide +kernel
theorem dX2_set_34 : decode cX2_set 34 = .ok (.lload_n 3, 1) := by decide +kernel
theorem dX2_set_35 : decode cX2_set 35 = .ok (.lload 5, 2) := by decide +kernel
theorem dX2_set_37 : decode cX2_set 37 = .ok (.ldiv, 1) := by decide +kernel
theorem dX2_set_38 : decode cX2_set 38 = .ok (.goto 4, 3) := by decide +kernel
theorem dX2_set_41 : decode cX2_set 41 = .ok (.lload_n 3, 1) := by decide +kernel
theorem dX2_set_42 : decode cX2_set 42 = .ok (.putfield 37, 3) := by decide +kernel
theorem dX2_set_45 : decode cX2_set 45 = .ok (.return_, 1) := by decide +kernel
theorem dX2_plus_0 : decode cX2_plus 0 = .ok (.aload_n 0, 1) := by decide +kernel
theorem dX2_plus_1 : decode cX2_plus 1 = .ok (.getfield 37, 3) := by decide +kernel
theorem dX2_plus_4 : decode cX2_plus 4 = .ok (.lload_n 3, 1) := by decide +kernel
theorem dX2_plus_5 : decode cX2_plus 5 = .ok (.invokestatic 79, 3) := by decide +kernel
theorem dX2_plus_8 : decode cX2_plus 8 = .ok (.lstore 5, 2) := by decide +kernel
theorem dX2_plus_10 : decode cX2_plus 10 = .ok (.lload 5, 2) := by decide +kernel
theorem dX2_plus_12 : decode cX2_plus 12 = .ok (.lconst 0, 1) := by decide +kernel
theorem dX2_plus_13 : decode cX2_plus 13 = .ok (.lcmp, 1) := by decide +kernel
theorem dX2_plus_14 : decode cX2_plus 14 = .ok (.ifCond .le 35, 3) := by decide +kernel
theorem dX2_plus_17 : decode cX2_plus 17 = .ok (.aload_n 0, 1) := by decide +kernel
theorem dX2_plus_18 : decode cX2_plus 18 = .ok (.aload_n 0, 1) := by decide +kernel
theorem dX2_plus_19 : decode cX2_plus 19 = .ok (.getfield 29, 3) := by decide +kernel
theorem dX2_plus_22 : decode cX2_plus 22 = .ok (.lload_n 3, 1) := by decide +kernel
theorem dX2_plus_23 : decode cX2_plus 23 = .ok (.lload 5, 2) := by decide +kernel
theorem dX2_plus_25 : decode cX2_plus 25 = .ok (.ldiv, 1) := by decide +kernel
theorem dX2_plus_26 : decode cX2_plus 26 = .ok (.lmul, 1) := by decide +kernel
theorem dX2_plus_27 : decode cX2_plus 27 = .ok (.lload_n 1, 1) := by decide +kernel
theorem dX2_plus_28 : decode cX2_plus 28 = .ok (.aload_n 0, 1) := by decide +kernel
theorem dX2_plus_29 : decode cX2_plus 29 = .ok (.getfield 37, 3) := by decide +kernel
theorem dX2_plus_32 : decode cX2_plus 32 = .ok (.lload 5, 2) := by decide +kernel
theorem dX2_plus_34 : decode cX2_plus 34 = .ok (.ldiv, 1) := by decide +kernel
theorem dX2_plus_35 : decode cX2_plus 35 = .ok (.lmul, 1) := by decide +kernel
theorem dX2_plus_36 : decode cX2_plus 36 = .ok (.ladd, 1) := by decide +kernel
theorem dX2_plus_37 : decode cX2_plus 37 = .ok (.aload_n 0, 1) := by decide +kernel
theorem dX2_plus_38 : decode cX2_plus 38 = .ok (.getfield 37, 3) := by decide +kernel
theorem dX2_plus_41 : decode cX2_plus 41 = .ok (.lload 5, 2) := by decide +kernel
theorem dX2_plus_43 : decode cX2_plus 43 = .ok (.ldiv, 1) := by decide +kernel
theorem dX2_plus_44 : decode cX2_plus 44 = .ok (.lload_n 3, 1) := by decide +kernel
theorem dX2_plus_45 : decode cX2_plus 45 = .ok (.lmul, 1) := by decide +kernel
theorem dX2_plus_46 : decode cX2_plus 46 = .ok (.invokevirtual 21, 3) := by decide +kernel
theorem dX2_plus_49 : decode cX2_plus 49 = .ok (.return_, 1) := by decide +kernel
theorem dX2_common_0 : decode cX2_common 0 = .ok (.lload_n 0, 1) := by decide +kernel
theorem dX2_common_1 : decode cX2_common 1 = .ok (.lstore 4, 2) := by decide +kernel
theorem dX2_common_3 : decode cX2_common 3 = .ok (.lload_n 2, 1) := by decide +kernel
theorem dX2_common_4 : decode cX2_common 4 = .ok (.lstore 6, 2) := by decide +kernel
theorem dX2_common_6 : decode cX2_common 6 = .ok (.iconst 0, 1) := by decide +kernel
theorem dX2_common_7 : decode cX2_common 7 = .ok (.istore 8, 2) := by decide +kernel
theorem dX2_common_9 : decode cX2_common 9 = .ok (.iload 8, 2) := by decide +kernel
theorem dX2_common_11 : decode cX2_common 11 = .ok (.bipush 100, 2) := by decide +kernel
theorem dX2_common_13 : decode cX2_common 13 = .ok (.if_icmp .ge 31, 3) := by decide +kernel
theorem dX2_common_16 : decode cX2_common 16 = .ok (.lload 6, 2) := by decide +kernel
theorem dX2_common_18 : decode cX2_common 18 = .ok (.lconst 0, 1) := by decide +kernel
theorem dX2_common_19 : decode cX2_common 19 = .ok (.lcmp, 1) := by decide +kernel
theorem dX2_common_20 : decode cX2_common 20 = .ok (.ifCond .eq 24, 3) := by decide +kernel
theorem dX2_common_23 : decode cX2_common 23 = .ok (.lload 4, 2) := by decide +kernel
theorem dX2_common_25 : decode cX2_common 25 = .ok (.lload 6, 2) := by decide +kernel
theorem dX2_common_27 : decode cX2_common 27 = .ok (.lrem, 1) := by decide +kernel
theorem dX2_common_28 : decode cX2_common 28 = .ok (.lstore 9, 2) := by decide +kernel
theorem dX2_common_30 : decode cX2_common 30 = .ok (.lload 6, 2) := by decide +kernel
theorem dX2_common_32 : decode cX2_common 32 = .ok (.lstore 4, 2) := by decide +kernel
theorem dX2_common_34 : decode cX2_common 34 = .ok (.lload 9, 2) := by decide +kernel
theorem dX2_common_36 : decode cX2_common 36 = .ok (.lstore 6, 2) := by decide +kernel
theorem dX2_common_38 : decode cX2_common 38 = .ok (.iinc 8 1, 3) := by decide +kernel
theorem dX2_common_41 : decode cX2_common 41 = .ok (.goto (-32), 3) := by decide +kernel
theorem dX2_common_44 : decode cX2_common 44 = .ok (.lload 4, 2) := by decide +kernel
theorem dX2_common_46 : decode cX2_common 46 = .ok (.lreturn, 1) := by decide +kernel
theorem dX2_power_0 : decode cX2_power 0 = .ok (.lconst 1, 1) := by decide +kernel
theorem dX2_power_1 : decode cX2_power 1 = .ok (.lstore_n 3, 1) := by decide +kernel
theorem dX2_power_2 : decode cX2_power 2 = .ok (.iconst 0, 1) := by decide +kernel
theorem dX2_power_3 : decode cX2_power 3 = .ok (.istore 5, 2) := by decide +kernel
theorem dX2_power_5 : decode cX2_power 5 = .ok (.iload 5, 2) := by decide +kernel
theorem dX2_power_7 : decode cX2_power 7 = .ok (.iload_n 2, 1) := by decide +kernel
theorem dX2_power_8 : decode cX2_power 8 = .ok (.if_icmp .ge 13, 3) := by decide +kernel
theorem dX2_power_11 : decode cX2_power 11 = .ok (.lload_n 3, 1) := by decide +kernel
theorem dX2_power_12 : decode cX2_power 12 = .ok (.lload_n 0, 1) := by decide +kernel
theorem dX2_power_13 : decode cX2_power 13 = .ok (.lmul, 1) := by decide +kernel
theorem dX2_power_14 : decode cX2_power 14 = .ok (.lstore_n 3, 1) := by decide +kernel
theorem dX2_power_15 : decode cX2_power 15 = .ok (.iinc 5 1, 3) := by decide +kernel
theorem dX2_power_18 : decode cX2_power 18 = .ok (.goto (-13), 3) := by decide +kernel
theorem dX2_power_21 : decode cX2_power 21 = .ok (.lload_n 3, 1) := by decide +kernel
theorem dX2_power_22 : decode cX2_power 22 = .ok (.lreturn, 1) := by decide +kernel
theorem dX2_choose_0 : decode cX2_choose 0 = .ok (.lconst 1, 1) := by decide +kernel
theorem dX2_choose_1 : decode cX2_choose 1 = .ok (.lstore_n 2, 1) := by decide +kernel
theorem dX2_choose_2 : decode cX2_choose 2 = .ok (.iconst 1, 1) := by decide +kernel
theorem dX2_choose_3 : decode cX2_choose 3 = .ok (.istore 4, 2) := by decide +kernel
theorem dX2_choose_5 : decode cX2_choose 5 = .ok (.iload 4, 2) := by decide +kernel
theorem dX2_choose_7 : decode cX2_choose 7 = .ok (.iload_n 1, 1) := by decide +kernel
theorem dX2_choose_8 : decode cX2_choose 8 = .ok (.if_icmp .gt 23, 3) := by decide +kernel
theorem dX2_choose_11 : decode cX2_choose 11 = .ok (.lload_n 2, 1) := by decide +kernel
theorem dX2_choose_12 : decode cX2_choose 12 = .ok (.iload_n 0, 1) := by decide +kernel
theorem dX2_choose_13 : decode cX2_choose 13 = .ok (.iload_n 1, 1) := by decide +kernel
theorem dX2_choose_14 : decode cX2_choose 14 = .ok (.isub, 1) := by decide +kernel
theorem dX2_choose_15 : decode cX2_choose 15 = .ok (.iload 4, 2) := by decide +kernel
theorem dX2_choose_17 : decode cX2_choose 17 = .ok (.iadd, 1) := by decide +kernel
theorem dX2_choose_18 : decode cX2_choose 18 = .ok (.i2l, 1) := by decide +kernel
theorem dX2_choose_19 : decode cX2_choose 19 = .ok (.lmul, 1) := by decide +kernel
theorem dX2_choose_20 : decode cX2_choose 20 = .ok (.iload 4, 2) := by decide +kernel
theorem dX2_choose_22 : decode cX2_choose 22 = .ok (.i2l, 1) := by decide +kernel
theorem dX2_choose_23 : decode cX2_choose 23 = .ok (.ldiv, 1) := by decide +kernel
theorem dX2_choose_24 : decode cX2_choose 24 = .ok (.lstore_n 2, 1) := by decide +kernel
theorem dX2_choose_25 : decode cX2_choose 25 = .ok (.iinc 4 1, 3) := by decide +kernel
theorem dX2_choose_28 : decode cX2_choose 28 = .ok (.goto (-23), 3) := by decide +kernel
theorem dX2_choose_31 : decode cX2_choose 31 = .ok (.lload_n 2, 1) := by decide +kernel
theorem dX2_choose_32 : decode cX2_choose 32 = .ok (.lreturn, 1) := by decide +kernel
theorem dX3_init_0 : decode cX3_init 0 = .ok (.aload_n 0, 1) := by decide +kernel
theorem dX3_init_1 : decode cX3_init 1 = .ok (.invokespecial 3, 3) := by decide +kernel
theorem dX3_init_4 : decode cX3_init 4 = .ok (.aload_n 0, 1) := by decide +kernel
theorem dX3_init_5 : decode cX3_init 5 = .ok (.bipush 10, 2) := by decide +kernel
theorem dX3_init_7 : decode cX3_init 7 = .ok (.newarray .int, 2) := by decide +kernel
theorem dX3_init_9 : decode cX3_init 9 = .ok (.putfield 9, 3) := by decide +kernel
theorem dX3_init_12 : decode cX3_init 12 = .ok (.aload_n 0, 1) := by decide +kernel
theorem dX3_init_13 : decode cX3_init 13 = .ok (.bipush 10, 2) := by decide +kernel
theorem dX3_init_15 : decode cX3_init 15 = .ok (.newarray .int, 2) := by decide +kernel
theorem dX3_init_17 : decode cX3_init 17 = .ok (.putfield 15, 3) := by decide +kernel
theorem dX3_init_20 : decode cX3_init 20 = .ok (.aload_n 0, 1) := by decide +kernel
theorem dX3_init_21 : decode cX3_init 21 = .ok (.bipush 10, 2) := by decide +kernel
theorem dX3_init_23 : decode cX3_init 23 = .ok (.newarray .int, 2) := by decide +kernel
theorem dX3_init_25 : decode cX3_init 25 = .ok (.putfield 18, 3) := by decide +kernel
theorem dX3_init_28 : decode cX3_init 28 = .ok (.aload_n 0, 1) := by decide +kernel
theorem dX3_init_29 : decode cX3_init 29 = .ok (.bipush 10, 2) := by decide +kernel
theorem dX3_init_31 : decode cX3_init 31 = .ok (.newarray .int, 2) := by decide +kernel
theorem dX3_init_33 : decode cX3_init 33 = .ok (.putfield 21, 3) := by decide +kernel
theorem dX3_init_36 : decode cX3_init 36 = .ok (.aload_n 0, 1) := by decide +kernel
theorem dX3_init_37 : decode cX3_init 37 = .ok (.bipush 10, 2) := by decide +kernel
theorem dX3_init_39 : decode cX3_init 39 = .ok (.newarray .int, 2) := by decide +kernel
theorem dX3_init_41 : decode cX3_init 41 = .ok (.putfield 24, 3) := by decide +kernel
theorem dX3_init_44 : decode cX3_init 44 = .ok (.return_, 1) := by decide +kernel
theorem dX3_clear_0 : decode cX3_clear 0 = .ok (.aload_n 0, 1) := by decide +kernel
theorem dX3_clear_1 : decode cX3_clear 1 = .ok (.iconst 0, 1) := by decide +kernel
theorem dX3_clear_2 : decode cX3_clear 2 = .ok (.putfield 27, 3) := by decide +kernel
theorem dX3_clear_5 : decode cX3_clear 5 = .ok (.aload_n 0, 1) := by decide +kernel
theorem dX3_clear_6 : decode cX3_clear 6 = .ok (.iconst 0, 1) := by decide +kernel
theorem dX3_clear_7 : decode cX3_clear 7 = .ok (.putfield 31, 3) := by decide +kernel
theorem dX3_clear_10 : decode cX3_clear 10 = .ok (.aload_n 0, 1) := by decide +kernel
theorem dX3_clear_11 : decode cX3_clear 11 = .ok (.iconst 0, 1) := by decide +kernel
theorem dX3_clear_12 : decode cX3_clear 12 = .ok (.putfield 34, 3) := by decide +kernel
theorem dX3_clear_15 : decode cX3_clear 15 = .ok (.aload_n 0, 1) := by decide +kernel
theorem dX3_clear_16 : decode cX3_clear 16 = .ok (.iconst 0, 1) := by decide +kernel
theorem dX3_clear_17 : decode cX3_clear 17 = .ok (.putfield 37, 3) := by decide +kernel
theorem dX3_clear_20 : decode cX3_clear 20 = .ok (.aload_n 0, 1) := by decide +kernel
theorem dX3_clear_21 : decode cX3_clear 21 = .ok (.iconst 0, 1) := by decide +kernel
theorem dX3_clear_22 : decode cX3_clear 22 = .ok (.putfield 40, 3) := by decide +kernel
theorem dX3_clear_25 : decode cX3_clear 25 = .ok (.aload_n 0, 1) := by decide +kernel
theorem dX3_clear_26 : decode cX3_clear 26 = .ok (.iconst 0, 1) := by decide +kernel
theorem dX3_clear_27 : decode cX3_clear 27 = .ok (.putfield 43, 3) := by decide +kernel
theorem dX3_clear_30 : decode cX3_clear 30 = .ok (.aload_n 0, 1) := by decide +kernel
theorem dX3_clear_31 : decode cX3_clear 31 = .ok (.iconst 0, 1) := by decide +kernel
theorem dX3_clear_32 : decode cX3_clear 32 = .ok (.putfield 46, 3) := by decide +kernel
theorem dX3_clear_35 : decode cX3_clear 35 = .ok (.return_, 1) := by decide +kernel
theorem dX3_become_0 : decode cX3_become 0 = .ok (.aload_n 0, 1) := by decide +kernel
theorem dX3_become_1 : decode cX3_become 1 = .ok (.invokevirtual 49, 3) := by decide +kernel
theorem dX3_become_4 : decode cX3_become 4 = .ok (.iconst 0, 1) := by decide +kernel
theorem dX3_become_5 : decode cX3_become 5 = .ok (.istore_n 2, 1) := by decide +kernel
theorem dX3_become_6 : decode cX3_become 6 = .ok (.iload_n 2, 1) := by decide +kernel
theorem dX3_become_7 : decode cX3_become 7 = .ok (.aload_n 1, 1) := by decide +kernel
theorem dX3_become_8 : decode cX3_become 8 = .ok (.getfield 43, 3) := by decide +kernel
theorem dX3_become_11 : decode cX3_become 11 = .ok (.if_icmp .ge 37, 3) := by decide +kernel
theorem dX3_become_14 : decode cX3_become 14 = .ok (.aload_n 0, 1) := by decide +kernel
theorem dX3_become_15 : decode cX3_become 15 = .ok (.aload_n 1, 1) := by decide +kernel
theorem dX3_become_16 : decode cX3_become 16 = .ok (.getfield 9, 3) := by decide +kernel
theorem dX3_become_19 : decode cX3_become 19 = .ok (.iload_n 2, 1) := by decide +kernel
theorem dX3_become_20 : decode cX3_become 20 = .ok (.invokestatic 52, 3) := by decide +kernel
theorem dX3_become_23 : decode cX3_become 23 = .ok (.aload_n 1, 1) := by decide +kernel
theorem dX3_become_24 : decode cX3_become 24 = .ok (.getfield 18, 3) := by decide +kernel
theorem dX3_become_27 : decode cX3_become 27 = .ok (.iload_n 2, 1) := by decide +kernel
theorem dX3_become_28 : decode cX3_become 28 = .ok (.invokestatic 52, 3) := by decide +kernel
theorem dX3_become_31 : decode cX3_become 31 = .ok (.aload_n 1, 1) := by decide +kernel
theorem dX3_become_32 : decode cX3_become 32 = .ok (.getfield 15, 3) := by decide +kernel
theorem dX3_become_35 : decode cX3_become 35 = .ok (.iload_n 2, 1) := by decide +kernel
theorem dX3_become_36 : decode cX3_become 36 = .ok (.invokestatic 52, 3) := by decide +kernel
theorem dX3_become_39 : decode cX3_become 39 = .ok (.invokevirtual 56, 3) := by decide +kernel
theorem dX3_become_42 : decode cX3_become 42 = .ok (.iinc 2 1, 3) := by decide +kernel
theorem dX3_become_45 : decode cX3_become 45 = .ok (.goto (-39), 3) := by decide +kernel
theorem dX3_become_48 : decode cX3_become 48 = .ok (.iconst 0, 1) := by decide +kernel
theorem dX3_become_49 : decode cX3_become 49 = .ok (.istore_n 2, 1) := by decide +kernel
theorem dX3_become_50 : decode cX3_become 50 = .ok (.iload_n 2, 1) := by decide +kernel
theorem dX3_become_51 : decode cX3_become 51 = .ok (.aload_n 1, 1) := by decide +kernel
theorem dX3_become_52 : decode cX3_become 52 = .ok (.getfield 46, 3) := by decide +kernel
theorem dX3_become_55 : decode cX3_become 55 = .ok (.if_icmp .ge 29, 3) := by decide +kernel
theorem dX3_become_58 : decode cX3_become 58 = .ok (.aload_n 0, 1) := by decide +kernel
theorem dX3_become_59 : decode cX3_become 59 = .ok (.aload_n 1, 1) := by decide +kernel
theorem dX3_become_60 : decode cX3_become 60 = .ok (.getfield 21, 3) := by decide +kernel
theorem dX3_become_63 : decode cX3_become 63 = .ok (.iload_n 2, 1) := by decide +kernel
theorem dX3_become_64 : decode cX3_become 64 = .ok (.invokestatic 52, 3) := by decide +kernel
theorem dX3_become_67 : decode cX3_become 67 = .ok (.aload_n 1, 1) := by decide +kernel
theorem dX3_become_68 : decode cX3_become 68 = .ok (.getfield 24, 3) := by decide +kernel
theorem dX3_become_71 : decode cX3_become 71 = .ok (.iload_n 2, 1) := by decide +kernel
theorem dX3_become_72 : decode cX3_become 72 = .ok (.invokestatic 52, 3) := by decide +kernel
theorem dX3_become_75 : decode cX3_become 75 = .ok (.invokevirtual 60, 3) := by decide +kernel
theorem dX3_become_78 : decode cX3_become 78 = .ok (.iinc 2 1, 3) := by decide +kernel
theorem dX3_become_81 : decode cX3_become 81 = .ok (.goto (-31), 3) := by decide +kernel
theorem dX3_become_84 : decode cX3_become 84 = .ok (.aload_n 0, 1) := by decide +kernel
theorem dX3_become_85 : decode cX3_become 85 = .ok (.aload_n 1, 1) := by decide +kernel
theorem dX3_become_86 : decode cX3_become 86 = .ok (.getfield 27, 3) := by decide +kernel
theorem dX3_become_89 : decode cX3_become 89 = .ok (.putfield 27, 3) := by decide +kernel
theorem dX3_become_92 : decode cX3_become 92 = .ok (.aload_n 0, 1) := by decide +kernel
theorem dX3_become_93 : decode cX3_become 93 = .ok (.aload_n 1, 1) := by decide +kernel
theorem dX3_become_94 : decode cX3_become 94 = .ok (.getfield 31, 3) := by decide +kernel
theorem dX3_become_97 : decode cX3_become 97 = .ok (.putfield 31, 3) := by decide +kernel
theorem dX3_become_100 : decode cX3_become 100 = .ok (.aload_n 0, 1) := by decide +kernel
theorem dX3_become_101 : decode cX3_become 101 = .ok (.aload_n 1, 1) := by decide +kernel
theorem dX3_become_102 : decode cX3_become 102 = .ok (.getfield 34, 3) := by decide +kernel
theorem dX3_become_105 : decode cX3_become 105 = .ok (.putfield 34, 3) := by decide +kernel
theorem dX3_become_108 : decode cX3_become 108 = .ok (.aload_n 0, 1) := by decide +kernel
theorem dX3_become_109 : decode cX3_become 109 = .ok (.aload_n 1, 1) := by decide +kernel
theorem dX3_become_110 : decode cX3_become 110 = .ok (.getfield 37, 3) := by decide +kernel
theorem dX3_become_113 : decode cX3_become 113 = .ok (.putfield 37, 3) := by decide +kernel
theorem dX3_become_116 : decode cX3_become 116 = .ok (.aload_n 0, 1) := by decide +kernel
theorem dX3_become_117 : decode cX3_become 117 = .ok (.aload_n 1, 1) := by decide +kernel
theorem dX3_become_118 : decode cX3_become 118 = .ok (.getfield 40, 3) := by decide +kernel
theorem dX3_become_121 : decode cX3_become 121 = .ok (.putfield 40, 3) := by decide +kernel
theorem dX3_become_124 : decode cX3_become 124 = .ok (.return_, 1) := by decide +kernel
theorem dX3_addSender_0 : decode cX3_addSender 0 = .ok (.aload_n 0, 1) := by decide +kernel
theorem dX3_addSender_1 : decode cX3_addSender 1 = .ok (.getfield 9, 3) := by decide +kernel
theorem dX3_addSender_4 : decode cX3_addSender 4 = .ok (.aload_n 0, 1) := by decide +kernel
theorem dX3_addSender_5 : decode cX3_addSender 5 = .ok (.getfield 43, 3) := by decide +kernel
theorem dX3_addSender_8 : decode cX3_addSender 8 = .ok (.iload_n 1, 1) := by decide +kernel
theorem dX3_addSender_9 : decode cX3_addSender 9 = .ok (.invokestatic 64, 3) := by decide +kernel
theorem dX3_addSender_12 : decode cX3_addSender 12 = .ok (.aload_n 0, 1) := by decide +kernel
theorem dX3_addSender_13 : decode cX3_addSender 13 = .ok (.getfield 18, 3) := by decide +kernel
theorem dX3_addSender_16 : decode cX3_addSender 16 = .ok (.aload_n 0, 1) := by decide +kernel
theorem dX3_addSender_17 : decode cX3_addSender 17 = .ok (.getfield 43, 3) := by decide +kernel
theorem dX3_addSender_20 : decode cX3_addSender 20 = .ok (.iload_n 2, 1) := by decide +kernel
theorem dX3_addSender_21 : decode cX3_addSender 21 = .ok (.invokestatic 64, 3) := by decide +kernel
theorem dX3_addSender_24 : decode cX3_addSender 24 = .ok (.aload_n 0, 1) := by decide +kernel
theorem dX3_addSender_25 : decode cX3_addSender 25 = .ok (.getfield 15, 3) := by decide +kernel
theorem dX3_addSender_28 : decode cX3_addSender 28 = .ok (.aload_n 0, 1) := by decide +kernel
theorem dX3_addSender_29 : decode cX3_addSender 29 = .ok (.getfield 43, 3) := by decide +kernel
theorem dX3_addSender_32 : decode cX3_addSender 32 = .ok (.iload_n 3, 1) := by decide +kernel
theorem dX3_addSender_33 : decode cX3_addSender 33 = .ok (.invokestatic 64, 3) := by decide +kernel
theorem dX3_addSender_36 : decode cX3_addSender 36 = .ok (.aload_n 0, 1) := by decide +kernel
theorem dX3_addSender_37 : decode cX3_addSender 37 = .ok (.dup, 1) := by decide +kernel
theorem dX3_addSender_38 : decode cX3_addSender 38 = .ok (.getfield 43, 3) := by decide +kernel
theorem dX3_addSender_41 : decode cX3_addSender 41 = .ok (.iconst 1, 1) := by decide +kernel
theorem dX3_addSender_42 : decode cX3_addSender 42 = .ok (.iadd, 1) := by decide +kernel
theorem dX3_addSender_43 : decode cX3_addSender 43 = .ok (.putfield 43, 3) := by decide +kernel
theorem dX3_addSender_46 : decode cX3_addSender 46 = .ok (.return_, 1) := by decide +kernel
theorem dX3_addNoise_0 : decode cX3_addNoise 0 = .ok (.aload_n 0, 1) := by decide +kernel
theorem dX3_addNoise_1 : decode cX3_addNoise 1 = .ok (.getfield 21, 3) := by decide +kernel
theorem dX3_addNoise_4 : decode cX3_addNoise 4 = .ok (.aload_n 0, 1) := by decide +kernel
theorem dX3_addNoise_5 : decode cX3_addNoise 5 = .ok (.getfield 46, 3) := by decide +kernel
theorem dX3_addNoise_8 : decode cX3_addNoise 8 = .ok (.iload_n 1, 1) := by decide +kernel
theorem dX3_addNoise_9 : decode cX3_addNoise 9 = .ok (.invokestatic 64, 3) := by decide +kernel
theorem dX3_addNoise_12 : decode cX3_addNoise 12 = .ok (.aload_n 0, 1) := by decide +kernel
theorem dX3_addNoise_13 : decode cX3_addNoise 13 = .ok (.getfield 24, 3) := by decide +kernel
theorem dX3_addNoise_16 : decode cX3_addNoise 16 = .ok (.aload_n 0, 1) := by decide +kernel
theorem dX3_addNoise_17 : decode cX3_addNoise 17 = .ok (.getfield 46, 3) := by decide +kernel
theorem dX3_addNoise_20 : decode cX3_addNoise 20 = .ok (.iload_n 2, 1) := by decide +kernel
theorem dX3_addNoise_21 : decode cX3_addNoise 21 = .ok (.invokestatic 64, 3) := by decide +kernel
theorem dX3_addNoise_24 : decode cX3_addNoise 24 = .ok (.aload_n 0, 1) := by decide +kernel
theorem dX3_addNoise_25 : decode cX3_addNoise 25 = .ok (.dup, 1) := by decide +kernel
theorem dX3_addNoise_26 : decode cX3_addNoise 26 = .ok (.getfield 46, 3) := by decide +kernel
theorem dX3_addNoise_29 : decode cX3_addNoise 29 = .ok (.iconst 1, 1) := by decide +kernel
theorem dX3_addNoise_30 : decode cX3_addNoise 30 = .ok (.iadd, 1) := by decide +kernel
theorem dX3_addNoise_31 : decode cX3_addNoise 31 = .ok (.putfield 46, 3) := by decide +kernel
theorem dX3_addNoise_34 : decode cX3_addNoise 34 = .ok (.return_, 1) := by decide +kernel
theorem dX3_stands_0 : decode cX3_stands 0 = .ok (.aload_n 0, 1) := by decide +kernel
theorem dX3_stands_1 : decode cX3_stands 1 = .ok (.getfield 31, 3) := by decide +kernel
theorem dX3_stands_4 : decode cX3_stands 4 = .ok (.ifCond .le 7, 3) := by decide +kernel
theorem dX3_stands_7 : decode cX3_stands 7 = .ok (.iconst 1, 1) := by decide +kernel
theorem dX3_stands_8 : decode cX3_stands 8 = .ok (.goto 4, 3) := by decide +kernel
theorem dX3_stands_11 : decode cX3_stands 11 = .ok (.iconst 0, 1) := by decide +kernel
theorem dX3_stands_12 : decode cX3_stands 12 = .ok (.ireturn, 1) := by decide +kernel
theorem dX3_hasSender_0 : decode cX3_hasSender 0 = .ok (.iload_n 1, 1) := by decide +kernel
theorem dX3_hasSender_1 : decode cX3_hasSender 1 = .ok (.ifCond .lt 15, 3) := by decide +kernel
theorem dX3_hasSender_4 : decode cX3_hasSender 4 = .ok (.iload_n 1, 1) := by decide +kernel
theorem dX3_hasSender_5 : decode cX3_hasSender 5 = .ok (.aload_n 0, 1) := by decide +kernel
theorem dX3_hasSender_6 : decode cX3_hasSender 6 = .ok (.getfield 43, 3) := by decide +kernel
theorem dX3_hasSender_9 : decode cX3_hasSender 9 = .ok (.if_icmp .ge 7, 3) := by decide +kernel
theorem dX3_hasSender_12 : decode cX3_hasSender 12 = .ok (.iconst 1, 1) := by decide +kernel
theorem dX3_hasSender_13 : decode cX3_hasSender 13 = .ok (.goto 4, 3) := by decide +kernel
theorem dX3_hasSender_16 : decode cX3_hasSender 16 = .ok (.iconst 0, 1) := by decide +kernel
theorem dX3_hasSender_17 : decode cX3_hasSender 17 = .ok (.ireturn, 1) := by decide +kernel
theorem dX3_hasNoise_0 : decode cX3_hasNoise 0 = .ok (.iload_n 1, 1) := by decide +kernel
theorem dX3_hasNoise_1 : decode cX3_hasNoise 1 = .ok (.ifCond .lt 15, 3) := by decide +kernel
theorem dX3_hasNoise_4 : decode cX3_hasNoise 4 = .ok (.iload_n 1, 1) := by decide +kernel
theorem dX3_hasNoise_5 : decode cX3_hasNoise 5 = .ok (.aload_n 0, 1) := by decide +kernel
theorem dX3_hasNoise_6 : decode cX3_hasNoise 6 = .ok (.getfield 46, 3) := by decide +kernel
theorem dX3_hasNoise_9 : decode cX3_hasNoise 9 = .ok (.if_icmp .ge 7, 3) := by decide +kernel
theorem dX3_hasNoise_12 : decode cX3_hasNoise 12 = .ok (.iconst 1, 1) := by decide +kernel
theorem dX3_hasNoise_13 : decode cX3_hasNoise 13 = .ok (.goto 4, 3) := by decide +kernel
theorem dX3_hasNoise_16 : decode cX3_hasNoise 16 = .ok (.iconst 0, 1) := by decide +kernel
theorem dX3_hasNoise_17 : decode cX3_hasNoise 17 = .ok (.ireturn, 1) := by decide +kernel
theorem dX3_hasSlot_0 : decode cX3_hasSlot 0 = .ok (.iload_n 1, 1) := by decide +kernel
theorem dX3_hasSlot_1 : decode cX3_hasSlot 1 = .ok (.ifCond .lt 15, 3) := by decide +kernel
theorem dX3_hasSlot_4 : decode cX3_hasSlot 4 = .ok (.iload_n 1, 1) := by decide +kernel
theorem dX3_hasSlot_5 : decode cX3_hasSlot 5 = .ok (.aload_n 0, 1) := by decide +kernel
theorem dX3_hasSlot_6 : decode cX3_hasSlot 6 = .ok (.getfield 31, 3) := by decide +kernel
theorem dX3_hasSlot_9 : decode cX3_hasSlot 9 = .ok (.if_icmp .ge 7, 3) := by decide +kernel
theorem dX3_hasSlot_12 : decode cX3_hasSlot 12 = .ok (.iconst 1, 1) := by decide +kernel
theorem dX3_hasSlot_13 : decode cX3_hasSlot 13 = .ok (.goto 4, 3) := by decide +kernel
theorem dX3_hasSlot_16 : decode cX3_hasSlot 16 = .ok (.iconst 0, 1) := by decide +kernel
theorem dX3_hasSlot_17 : decode cX3_hasSlot 17 = .ok (.ireturn, 1) := by decide +kernel
theorem dX3_isNoisy_0 : decode cX3_isNoisy 0 = .ok (.iconst 0, 1) := by decide +kernel
theorem dX3_isNoisy_1 : decode cX3_isNoisy 1 = .ok (.istore_n 2, 1) := by decide +kernel
theorem dX3_isNoisy_2 : decode cX3_isNoisy 2 = .ok (.iload_n 2, 1) := by decide +kernel
theorem dX3_isNoisy_3 : decode cX3_isNoisy 3 = .ok (.aload_n 0, 1) := by decide +kernel
theorem dX3_isNoisy_4 : decode cX3_isNoisy 4 = .ok (.getfield 46, 3) := by decide +kernel
theorem dX3_isNoisy_7 : decode cX3_isNoisy 7 = .ok (.if_icmp .ge 23, 3) := by decide +kernel
theorem dX3_isNoisy_10 : decode cX3_isNoisy 10 = .ok (.aload_n 0, 1) := by decide +kernel
theorem dX3_isNoisy_11 : decode cX3_isNoisy 11 = .ok (.getfield 21, 3) := by decide +kernel
theorem dX3_isNoisy_14 : decode cX3_isNoisy 14 = .ok (.iload_n 2, 1) := by decide +kernel
theorem dX3_isNoisy_15 : decode cX3_isNoisy 15 = .ok (.invokestatic 52, 3) := by decide +kernel
theorem dX3_isNoisy_18 : decode cX3_isNoisy 18 = .ok (.iload_n 1, 1) := by decide +kernel
theorem dX3_isNoisy_19 : decode cX3_isNoisy 19 = .ok (.if_icmp .ne 5, 3) := by decide +kernel
theorem dX3_isNoisy_22 : decode cX3_isNoisy 22 = .ok (.iconst 1, 1) := by decide +kernel
theorem dX3_isNoisy_23 : decode cX3_isNoisy 23 = .ok (.ireturn, 1) := by decide +kernel
theorem dX3_isNoisy_24 : decode cX3_isNoisy 24 = .ok (.iinc 2 1, 3) := by decide +kernel
theorem dX3_isNoisy_27 : decode cX3_isNoisy 27 = .ok (.goto (-25), 3) := by decide +kernel
theorem dX3_isNoisy_30 : decode cX3_isNoisy 30 = .ok (.iconst 0, 1) := by decide +kernel
theorem dX3_isNoisy_31 : decode cX3_isNoisy 31 = .ok (.ireturn, 1) := by decide +kernel
theorem dX3_bit_0 : decode cX3_bit 0 = .ok (.aload_n 0, 1) := by decide +kernel
theorem dX3_bit_1 : decode cX3_bit 1 = .ok (.getfield 18, 3) := by decide +kernel
theorem dX3_bit_4 : decode cX3_bit 4 = .ok (.iload_n 1, 1) := by decide +kernel
theorem dX3_bit_5 : decode cX3_bit 5 = .ok (.invokestatic 52, 3) := by decide +kernel
theorem dX3_bit_8 : decode cX3_bit 8 = .ok (.aload_n 0, 1) := by decide +kernel
theorem dX3_bit_9 : decode cX3_bit 9 = .ok (.getfield 15, 3) := by decide +kernel
theorem dX3_bit_12 : decode cX3_bit 12 = .ok (.iload_n 1, 1) := by decide +kernel
theorem dX3_bit_13 : decode cX3_bit 13 = .ok (.invokestatic 52, 3) := by decide +kernel
theorem dX3_bit_16 : decode cX3_bit 16 = .ok (.iconst 1, 1) := by decide +kernel
theorem dX3_bit_17 : decode cX3_bit 17 = .ok (.isub, 1) := by decide +kernel
theorem dX3_bit_18 : decode cX3_bit 18 = .ok (.iload_n 2, 1) := by decide +kernel
theorem dX3_bit_19 : decode cX3_bit 19 = .ok (.isub, 1) := by decide +kernel
theorem dX3_bit_20 : decode cX3_bit 20 = .ok (.ishr, 1) := by decide +kernel
theorem dX3_bit_21 : decode cX3_bit 21 = .ok (.iconst 1, 1) := by decide +kernel
theorem dX3_bit_22 : decode cX3_bit 22 = .ok (.iand, 1) := by decide +kernel
theorem dX3_bit_23 : decode cX3_bit 23 = .ok (.ireturn, 1) := by decide +kernel
theorem dX3_moment_0 : decode cX3_moment 0 = .ok (.bipush 16, 2) := by decide +kernel
theorem dX3_moment_2 : decode cX3_moment 2 = .ok (.aload_n 0, 1) := by decide +kernel
theorem dX3_moment_3 : decode cX3_moment 3 = .ok (.getfield 9, 3) := by decide +kernel
theorem dX3_moment_6 : decode cX3_moment 6 = .ok (.iload_n 1, 1) := by decide +kernel
theorem dX3_moment_7 : decode cX3_moment 7 = .ok (.invokestatic 52, 3) := by decide +kernel
theorem dX3_moment_10 : decode cX3_moment 10 = .ok (.imul, 1) := by decide +kernel
theorem dX3_moment_11 : decode cX3_moment 11 = .ok (.iload_n 1, 1) := by decide +kernel
theorem dX3_moment_12 : decode cX3_moment 12 = .ok (.iadd, 1) := by decide +kernel
theorem dX3_moment_13 : decode cX3_moment 13 = .ok (.ireturn, 1) := by decide +kernel
theorem dX4_init_0 : decode cX4_init 0 = .ok (.aload_n 0, 1) := by decide +kernel
theorem dX4_init_1 : decode cX4_init 1 = .ok (.invokespecial 3, 3) := by decide +kernel
theorem dX4_init_4 : decode cX4_init 4 = .ok (.aload_n 0, 1) := by decide +kernel
theorem dX4_init_5 : decode cX4_init 5 = .ok (.new 9, 3) := by decide +kernel
theorem dX4_init_8 : decode cX4_init 8 = .ok (.dup, 1) := by decide +kernel
theorem dX4_init_9 : decode cX4_init 9 = .ok (.invokespecial 11, 3) := by decide +kernel
theorem dX4_init_12 : decode cX4_init 12 = .ok (.putfield 12, 3) := by decide +kernel
theorem dX4_init_15 : decode cX4_init 15 = .ok (.aload_n 0, 1) := by decide +kernel
theorem dX4_init_16 : decode cX4_init 16 = .ok (.new 18, 3) := by decide +kernel
theorem dX4_init_19 : decode cX4_init 19 = .ok (.dup, 1) := by decide +kernel
theorem dX4_init_20 : decode cX4_init 20 = .ok (.invokespecial 20, 3) := by decide +kernel
theorem dX4_init_23 : decode cX4_init 23 = .ok (.putfield 21, 3) := by decide +kernel
theorem dX4_init_26 : decode cX4_init 26 = .ok (.aload_n 0, 1) := by decide +kernel
theorem dX4_init_27 : decode cX4_init 27 = .ok (.bipush 10, 2) := by decide +kernel
theorem dX4_init_29 : decode cX4_init 29 = .ok (.newarray .int, 2) := by decide +kernel
theorem dX4_init_31 : decode cX4_init 31 = .ok (.putfield 25, 3) := by decide +kernel
theorem dX4_init_34 : decode cX4_init 34 = .ok (.aload_n 0, 1) := by decide +kernel
theorem dX4_init_35 : decode cX4_init 35 = .ok (.new 29, 3) := by decide +kernel
theorem dX4_init_38 : decode cX4_init 38 = .ok (.dup, 1) := by decide +kernel
theorem dX4_init_39 : decode cX4_init 39 = .ok (.invokespecial 31, 3) := by decide +kernel
theorem dX4_init_42 : decode cX4_init 42 = .ok (.putfield 32, 3) := by decide +kernel
theorem dX4_init_45 : decode cX4_init 45 = .ok (.return_, 1) := by decide +kernel
theorem dX4_run_0 : decode cX4_run 0 = .ok (.aload_n 0, 1) := by decide +kernel
theorem dX4_run_1 : decode cX4_run 1 = .ok (.aload_n 1, 1) := by decide +kernel
theorem dX4_run_2 : decode cX4_run 2 = .ok (.putfield 32, 3) := by decide +kernel
theorem dX4_run_5 : decode cX4_run 5 = .ok (.aload_n 0, 1) := by decide +kernel
theorem dX4_run_6 : decode cX4_run 6 = .ok (.iload_n 2, 1) := by decide +kernel
theorem dX4_run_7 : decode cX4_run 7 = .ok (.putfield 36, 3) := by decide +kernel
theorem dX4_run_10 : decode cX4_run 10 = .ok (.aload_n 0, 1) := by decide +kernel
theorem dX4_run_11 : decode cX4_run 11 = .ok (.iload_n 3, 1) := by decide +kernel
theorem dX4_run_12 : decode cX4_run 12 = .ok (.putfield 40, 3) := by decide +kernel
theorem dX4_run_15 : decode cX4_run 15 = .ok (.aload_n 0, 1) := by decide +kernel
theorem dX4_run_16 : decode cX4_run 16 = .ok (.iload 4, 2) := by decide +kernel
theorem dX4_run_18 : decode cX4_run 18 = .ok (.putfield 43, 3) := by decide +kernel
theorem dX4_run_21 : decode cX4_run 21 = .ok (.aload_n 0, 1) := by decide +kernel
theorem dX4_run_22 : decode cX4_run 22 = .ok (.iconst 0, 1) := by decide +kernel
theorem dX4_run_23 : decode cX4_run 23 = .ok (.putfield 46, 3) := by decide +kernel
theorem dX4_run_26 : decode cX4_run 26 = .ok (.aload_n 0, 1) := by decide +kernel
theorem dX4_run_27 : decode cX4_run 27 = .ok (.iconst 0, 1) := by decide +kernel
theorem dX4_run_28 : decode cX4_run 28 = .ok (.putfield 49, 3) := by decide +kernel
theorem dX4_run_31 : decode cX4_run 31 = .ok (.aload_n 0, 1) := by decide +kernel
theorem dX4_run_32 : decode cX4_run 32 = .ok (.iconst 0, 1) := by decide +kernel
theorem dX4_run_33 : decode cX4_run 33 = .ok (.putfield 52, 3) := by decide +kernel
theorem dX4_run_36 : decode cX4_run 36 = .ok (.aload_n 0, 1) := by decide +kernel
theorem dX4_run_37 : decode cX4_run 37 = .ok (.iconst 0, 1) := by decide +kernel
theorem dX4_run_38 : decode cX4_run 38 = .ok (.putfield 55, 3) := by decide +kernel
theorem dX4_run_41 : decode cX4_run 41 = .ok (.aload_n 0, 1) := by decide +kernel
theorem dX4_run_42 : decode cX4_run 42 = .ok (.iconst 0, 1) := by decide +kernel
theorem dX4_run_43 : decode cX4_run 43 = .ok (.putfield 59, 3) := by decide +kernel
theorem dX4_run_46 : decode cX4_run 46 = .ok (.aload_n 0, 1) := by decide +kernel
theorem dX4_run_47 : decode cX4_run 47 = .ok (.iconst 0, 1) := by decide +kernel
theorem dX4_run_48 : decode cX4_run 48 = .ok (.putfield 62, 3) := by decide +kernel
theorem dX4_run_51 : decode cX4_run 51 = .ok (.aload_n 0, 1) := by decide +kernel
theorem dX4_run_52 : decode cX4_run 52 = .ok (.getfield 21, 3) := by decide +kernel
theorem dX4_run_55 : decode cX4_run 55 = .ok (.iconst 0, 1) := by decide +kernel
theorem dX4_run_56 : decode cX4_run 56 = .ok (.putfield 65, 3) := by decide +kernel
theorem dX4_run_59 : decode cX4_run 59 = .ok (.aload_n 0, 1) := by decide +kernel
theorem dX4_run_60 : decode cX4_run 60 = .ok (.getfield 25, 3) := by decide +kernel
theorem dX4_run_63 : decode cX4_run 63 = .ok (.iconst 0, 1) := by decide +kernel
theorem dX4_run_64 : decode cX4_run 64 = .ok (.invokestatic 68, 3) := by decide +kernel
theorem dX4_run_67 : decode cX4_run 67 = .ok (.aload_n 0, 1) := by decide +kernel
theorem dX4_run_68 : decode cX4_run 68 = .ok (.getfield 32, 3) := by decide +kernel
theorem dX4_run_71 : decode cX4_run 71 = .ok (.invokevirtual 74, 3) := by decide +kernel
theorem dX4_run_74 : decode cX4_run 74 = .ok (.iconst 0, 1) := by decide +kernel
theorem dX4_run_75 : decode cX4_run 75 = .ok (.istore 5, 2) := by decide +kernel
theorem dX4_run_77 : decode cX4_run 77 = .ok (.iload 5, 2) := by decide +kernel
theorem dX4_run_79 : decode cX4_run 79 = .ok (.aload_n 0, 1) := by decide +kernel
theorem dX4_run_80 : decode cX4_run 80 = .ok (.getfield 12, 3) := by decide +kernel
theorem dX4_run_83 : decode cX4_run 83 = .ok (.getfield 77, 3) := by decide +kernel
theorem dX4_run_86 : decode cX4_run 86 = .ok (.if_icmp .ge 38, 3) := by decide +kernel
theorem dX4_run_89 : decode cX4_run 89 = .ok (.aload_n 0, 1) := by decide +kernel
theorem dX4_run_90 : decode cX4_run 90 = .ok (.iload 5, 2) := by decide +kernel
theorem dX4_run_92 : decode cX4_run 92 = .ok (.invokevirtual 80, 3) := by decide +kernel
theorem dX4_run_95 : decode cX4_run 95 = .ok (.aload_n 0, 1) := by decide +kernel
theorem dX4_run_96 : decode cX4_run 96 = .ok (.getfield 36, 3) := by decide +kernel
theorem dX4_run_99 : decode cX4_run 99 = .ok (.iconst 2, 1) := by decide +kernel
theorem dX4_run_100 : decode cX4_run 100 = .ok (.if_icmp .ne 12, 3) := by decide +kernel
theorem dX4_run_103 : decode cX4_run 103 = .ok (.aload_n 0, 1) := by decide +kernel
theorem dX4_run_104 : decode cX4_run 104 = .ok (.iload 5, 2) := by decide +kernel
theorem dX4_run_106 : decode cX4_run 106 = .ok (.invokevirtual 84, 3) := by decide +kernel
theorem dX4_run_109 : decode cX4_run 109 = .ok (.goto 9, 3) := by decide +kernel
theorem dX4_run_112 : decode cX4_run 112 = .ok (.aload_n 0, 1) := by decide +kernel
theorem dX4_run_113 : decode cX4_run 113 = .ok (.iload 5, 2) := by decide +kernel
theorem dX4_run_115 : decode cX4_run 115 = .ok (.invokevirtual 87, 3) := by decide +kernel
theorem dX4_run_118 : decode cX4_run 118 = .ok (.iinc 5 1, 3) := by decide +kernel
theorem dX4_run_121 : decode cX4_run 121 = .ok (.goto (-44), 3) := by decide +kernel
theorem dX4_run_124 : decode cX4_run 124 = .ok (.aload_n 0, 1) := by decide +kernel
theorem dX4_run_125 : decode cX4_run 125 = .ok (.getfield 32, 3) := by decide +kernel
theorem dX4_run_128 : decode cX4_run 128 = .ok (.getfield 90, 3) := by decide +kernel
theorem dX4_run_131 : decode cX4_run 131 = .ok (.ireturn, 1) := by decide +kernel
theorem dX4_welcome_0 : decode cX4_welcome 0 = .ok (.iconst 0, 1) := by decide +kernel
theorem dX4_welcome_1 : decode cX4_welcome 1 = .ok (.istore_n 2, 1) := by decide +kernel
theorem dX4_welcome_2 : decode cX4_welcome 2 = .ok (.iload_n 2, 1) := by decide +kernel
theorem dX4_welcome_3 : decode cX4_welcome 3 = .ok (.aload_n 0, 1) := by decide +kernel
theorem dX4_welcome_4 : decode cX4_welcome 4 = .ok (.getfield 12, 3) := by decide +kernel
theorem dX4_welcome_7 : decode cX4_welcome 7 = .ok (.getfield 93, 3) := by decide +kernel
theorem dX4_welcome_10 : decode cX4_welcome 10 = .ok (.if_icmp .ge 44, 3) := by decide +kernel
theorem dX4_welcome_13 : decode cX4_welcome 13 = .ok (.aload_n 0, 1) := by decide +kernel
theorem dX4_welcome_14 : decode cX4_welcome 14 = .ok (.getfield 12, 3) := by decide +kernel
theorem dX4_welcome_17 : decode cX4_welcome 17 = .ok (.getfield 96, 3) := by decide +kernel
theorem dX4_welcome_20 : decode cX4_welcome 20 = .ok (.iload_n 2, 1) := by decide +kernel
theorem dX4_welcome_21 : decode cX4_welcome 21 = .ok (.invokestatic 99, 3) := by decide +kernel
theorem dX4_welcome_24 : decode cX4_welcome 24 = .ok (.iload_n 1, 1) := by decide +kernel
theorem dX4_welcome_25 : decode cX4_welcome 25 = .ok (.if_icmp .ne 23, 3) := by decide +kernel
theorem dX4_welcome_28 : decode cX4_welcome 28 = .ok (.iload_n 2, 1) := by decide +kernel
theorem dX4_welcome_29 : decode cX4_welcome 29 = .ok (.aload_n 0, 1) := by decide +kernel
theorem dX4_welcome_30 : decode cX4_welcome 30 = .ok (.getfield 43, 3) := by decide +kernel
theorem dX4_welcome_33 : decode cX4_welcome 33 = .ok (.if_icmp .eq 15, 3) := by decide +kernel
theorem dX4_welcome_36 : decode cX4_welcome 36 = .ok (.aload_n 0, 1) := by decide +kernel
theorem dX4_welcome_37 : decode cX4_welcome 37 = .ok (.dup, 1) := by decide +kernel
theorem dX4_welcome_38 : decode cX4_welcome 38 = .ok (.getfield 46, 3) := by decide +kernel
theorem dX4_welcome_41 : decode cX4_welcome 41 = .ok (.iconst 1, 1) := by decide +kernel
theorem dX4_welcome_42 : decode cX4_welcome 42 = .ok (.iload_n 2, 1) := by decide +kernel
theorem dX4_welcome_43 : decode cX4_welcome 43 = .ok (.ishl, 1) := by decide +kernel
theorem dX4_welcome_44 : decode cX4_welcome 44 = .ok (.ior, 1) := by decide +kernel
theorem dX4_welcome_45 : decode cX4_welcome 45 = .ok (.putfield 46, 3) := by decide +kernel
theorem dX4_welcome_48 : decode cX4_welcome 48 = .ok (.iinc 2 1, 3) := by decide +kernel
theorem dX4_welcome_51 : decode cX4_welcome 51 = .ok (.goto (-49), 3) := by decide +kernel
theorem dX4_welcome_54 : decode cX4_welcome 54 = .ok (.return_, 1) := by decide +kernel
theorem dX4_playByGroups_0 : decode cX4_playByGroups 0 = .ok (.aload_n 0, 1) := by decide +kernel
theorem dX4_playByGroups_1 : decode cX4_playByGroups 1 = .ok (.getfield 21, 3) := by decide +kernel
theorem dX4_playByGroups_4 : decode cX4_playByGroups 4 = .ok (.getfield 65, 3) := by decide +kernel
theorem dX4_playByGroups_7 : decode cX4_playByGroups 7 = .ok (.ifCond .ne 8, 3) := by decide +kernel
theorem dX4_playByGroups_10 : decode cX4_playByGroups 10 = .ok (.aload_n 0, 1) := by decide +kernel
theorem dX4_playByGroups_11 : decode cX4_playByGroups 11 = .ok (.iload_n 1, 1) := by decide +kernel
theorem dX4_playByGroups_12 : decode cX4_playByGroups 12 = .ok (.invokevirtual 103, 3) := by decide +kernel
theorem dX4_playByGroups_15 : decode cX4_playByGroups 15 = .ok (.aload_n 0, 1) := by decide +kernel
theorem dX4_playByGroups_16 : decode cX4_playByGroups 16 = .ok (.getfield 21, 3) := by decide +kernel
theorem dX4_playByGroups_19 : decode cX4_playByGroups 19 = .ok (.invokevirtual 106, 3) := by decide +kernel
theorem dX4_playByGroups_22 : decode cX4_playByGroups 22 = .ok (.istore_n 2, 1) := by decide +kernel
theorem dX4_playByGroups_23 : decode cX4_playByGroups 23 = .ok (.aload_n 0, 1) := by decide +kernel
theorem dX4_playByGroups_24 : decode cX4_playByGroups 24 = .ok (.iload_n 1, 1) := by decide +kernel
theorem dX4_playByGroups_25 : decode cX4_playByGroups 25 = .ok (.iload_n 2, 1) := by decide +kernel
theorem dX4_playByGroups_26 : decode cX4_playByGroups 26 = .ok (.invokevirtual 110, 3) := by decide +kernel
theorem dX4_playByGroups_29 : decode cX4_playByGroups 29 = .ok (.istore_n 3, 1) := by decide +kernel
theorem dX4_playByGroups_30 : decode cX4_playByGroups 30 = .ok (.iload_n 3, 1) := by decide +kernel
theorem dX4_playByGroups_31 : decode cX4_playByGroups 31 = .ok (.iconst 2, 1) := by decide +kernel
theorem dX4_playByGroups_32 : decode cX4_playByGroups 32 = .ok (.if_icmp .ne 15, 3) := by decide +kernel
theorem dX4_playByGroups_35 : decode cX4_playByGroups 35 = .ok (.aload_n 0, 1) := by decide +kernel
theorem dX4_playByGroups_36 : decode cX4_playByGroups 36 = .ok (.invokevirtual 114, 3) := by decide +kernel
theorem dX4_playByGroups_39 : decode cX4_playByGroups 39 = .ok (.aload_n 0, 1) := by decide +kernel
theorem dX4_playByGroups_40 : decode cX4_playByGroups 40 = .ok (.iconst 0, 1) := by decide +kernel
theorem dX4_playByGroups_41 : decode cX4_playByGroups 41 = .ok (.putfield 59, 3) := by decide +kernel
theorem dX4_playByGroups_44 : decode cX4_playByGroups 44 = .ok (.goto 71, 3) := by decide +kernel
theorem dX4_playByGroups_47 : decode cX4_playByGroups 47 = .ok (.iload_n 3, 1) := by decide +kernel
theorem dX4_playByGroups_48 : decode cX4_playByGroups 48 = .ok (.ifCond .ne 21, 3) := by decide +kernel
theorem dX4_playByGroups_51 : decode cX4_playByGroups 51 = .ok (.aload_n 0, 1) := by decide +kernel
theorem dX4_playByGroups_52 : decode cX4_playByGroups 52 = .ok (.getfield 55, 3) := by decide +kernel
theorem dX4_playByGroups_55 : decode cX4_playByGroups 55 = .ok (.ifCond .eq 14, 3) := by decide +kernel
theorem dX4_playByGroups_58 : decode cX4_playByGroups 58 = .ok (.aload_n 0, 1) := by decide +kernel
theorem dX4_playByGroups_59 : decode cX4_playByGroups 59 = .ok (.invokevirtual 117, 3) := by decide +kernel
theorem dX4_playByGroups_62 : decode cX4_playByGroups 62 = .ok (.ifCond .eq 7, 3) := by decide +kernel
theorem dX4_playByGroups_65 : decode cX4_playByGroups 65 = .ok (.iconst 1, 1) := by decide +kernel
theorem dX4_playByGroups_66 : decode cX4_playByGroups 66 = .ok (.goto 4, 3) := by decide +kernel
theorem dX4_playByGroups_69 : decode cX4_playByGroups 69 = .ok (.iconst 0, 1) := by decide +kernel
theorem dX4_playByGroups_70 : decode cX4_playByGroups 70 = .ok (.istore 4, 2) := by decide +kernel
theorem dX4_playByGroups_72 : decode cX4_playByGroups 72 = .ok (.aload_n 0, 1) := by decide +kernel
theorem dX4_playByGroups_73 : decode cX4_playByGroups 73 = .ok (.getfield 21, 3) := by decide +kernel
theorem dX4_playByGroups_76 : decode cX4_playByGroups 76 = .ok (.invokevirtual 121, 3) := by decide +kernel
theorem dX4_playByGroups_79 : decode cX4_playByGroups 79 = .ok (.aload_n 0, 1) := by decide +kernel
theorem dX4_playByGroups_80 : decode cX4_playByGroups 80 = .ok (.iconst 0, 1) := by decide +kernel
theorem dX4_playByGroups_81 : decode cX4_playByGroups 81 = .ok (.putfield 55, 3) := by decide +kernel
theorem dX4_playByGroups_84 : decode cX4_playByGroups 84 = .ok (.iload 4, 2) := by decide +kernel
theorem dX4_playByGroups_86 : decode cX4_playByGroups 86 = .ok (.ifCond .eq 29, 3) := by decide +kernel
theorem dX4_playByGroups_89 : decode cX4_playByGroups 89 = .ok (.aload_n 0, 1) := by decide +kernel
theorem dX4_playByGroups_90 : decode cX4_playByGroups 90 = .ok (.invokevirtual 114, 3) := by decide +kernel
theorem dX4_playByGroups_93 : decode cX4_playByGroups 93 = .ok (.aload_n 0, 1) := by decide +kernel
theorem dX4_playByGroups_94 : decode cX4_playByGroups 94 = .ok (.dup, 1) := by decide +kernel
theorem dX4_playByGroups_95 : decode cX4_playByGroups 95 = .ok (.getfield 59, 3) := by decide +kernel
theorem dX4_playByGroups_98 : decode cX4_playByGroups 98 = .ok (.iconst 1, 1) := by decide +kernel
theorem dX4_playByGroups_99 : decode cX4_playByGroups 99 = .ok (.iadd, 1) := by decide +kernel
theorem dX4_playByGroups_100 : decode cX4_playByGroups 100 = .ok (.putfield 59, 3) := by decide +kernel
theorem dX4_playByGroups_103 : decode cX4_playByGroups 103 = .ok (.aload_n 0, 1) := by decide +kernel
theorem dX4_playByGroups_104 : decode cX4_playByGroups 104 = .ok (.getfield 32, 3) := by decide +kernel
theorem dX4_playByGroups_107 : decode cX4_playByGroups 107 = .ok (.getfield 124, 3) := by decide +kernel
theorem dX4_playByGroups_110 : decode cX4_playByGroups 110 = .ok (.iload_n 1, 1) := by decide +kernel
theorem dX4_playByGroups_111 : decode cX4_playByGroups 111 = .ok (.iconst 1, 1) := by decide +kernel
theorem dX4_playByGroups_112 : decode cX4_playByGroups 112 = .ok (.invokestatic 127, 3) := by decide +kernel
theorem dX4_playByGroups_115 : decode cX4_playByGroups 115 = .ok (.aload_n 0, 1) := by decide +kernel
theorem dX4_playByGroups_116 : decode cX4_playByGroups 116 = .ok (.getfield 21, 3) := by decide +kernel
theorem dX4_playByGroups_119 : decode cX4_playByGroups 119 = .ok (.getfield 65, 3) := by decide +kernel
theorem dX4_playByGroups_122 : decode cX4_playByGroups 122 = .ok (.ifCond .ne 8, 3) := by decide +kernel
theorem dX4_playByGroups_125 : decode cX4_playByGroups 125 = .ok (.aload_n 0, 1) := by decide +kernel
theorem dX4_playByGroups_126 : decode cX4_playByGroups 126 = .ok (.iload_n 1, 1) := by decide +kernel
theorem dX4_playByGroups_127 : decode cX4_playByGroups 127 = .ok (.invokevirtual 131, 3) := by decide +kernel
theorem dX4_playByGroups_130 : decode cX4_playByGroups 130 = .ok (.aload_n 0, 1) := by decide +kernel
theorem dX4_playByGroups_131 : decode cX4_playByGroups 131 = .ok (.getfield 32, 3) := by decide +kernel
theorem dX4_playByGroups_134 : decode cX4_playByGroups 134 = .ok (.getfield 134, 3) := by decide +kernel
theorem dX4_playByGroups_137 : decode cX4_playByGroups 137 = .ok (.iload_n 1, 1) := by decide +kernel
theorem dX4_playByGroups_138 : decode cX4_playByGroups 138 = .ok (.aload_n 0, 1) := by decide +kernel
theorem dX4_playByGroups_139 : decode cX4_playByGroups 139 = .ok (.getfield 21, 3) := by decide +kernel
theorem dX4_playByGroups_142 : decode cX4_playByGroups 142 = .ok (.getfield 65, 3) := by decide +kernel
theorem dX4_playByGroups_145 : decode cX4_playByGroups 145 = .ok (.invokestatic 127, 3) := by decide +kernel
theorem dX4_playByGroups_148 : decode cX4_playByGroups 148 = .ok (.return_, 1) := by decide +kernel
theorem dX4_maySkip_0 : decode cX4_maySkip 0 = .ok (.aload_n 0, 1) := by decide +kernel
theorem dX4_maySkip_1 : decode cX4_maySkip 1 = .ok (.getfield 36, 3) := by decide +kernel
theorem dX4_maySkip_4 : decode cX4_maySkip 4 = .ok (.iconst 1, 1) := by decide +kernel
theorem dX4_maySkip_5 : decode cX4_maySkip 5 = .ok (.if_icmp .eq 11, 3) := by decide +kernel
theorem dX4_maySkip_8 : decode cX4_maySkip 8 = .ok (.aload_n 0, 1) := by decide +kernel
theorem dX4_maySkip_9 : decode cX4_maySkip 9 = .ok (.getfield 36, 3) := by decide +kernel
theorem dX4_maySkip_12 : decode cX4_maySkip 12 = .ok (.iconst 3, 1) := by decide +kernel
theorem dX4_maySkip_13 : decode cX4_maySkip 13 = .ok (.if_icmp .ne 21, 3) := by decide +kernel
theorem dX4_maySkip_16 : decode cX4_maySkip 16 = .ok (.aload_n 0, 1) := by decide +kernel
theorem dX4_maySkip_17 : decode cX4_maySkip 17 = .ok (.getfield 59, 3) := by decide +kernel
theorem dX4_maySkip_20 : decode cX4_maySkip 20 = .ok (.aload_n 0, 1) := by decide +kernel
theorem dX4_maySkip_21 : decode cX4_maySkip 21 = .ok (.getfield 12, 3) := by decide +kernel
theorem dX4_maySkip_24 : decode cX4_maySkip 24 = .ok (.getfield 137, 3) := by decide +kernel
theorem dX4_maySkip_27 : decode cX4_maySkip 27 = .ok (.if_icmp .ge 7, 3) := by decide +kernel
theorem dX4_maySkip_30 : decode cX4_maySkip 30 = .ok (.iconst 1, 1) := by decide +kernel
theorem dX4_maySkip_31 : decode cX4_maySkip 31 = .ok (.goto 4, 3) := by decide +kernel
theorem dX4_maySkip_34 : decode cX4_maySkip 34 = .ok (.iconst 0, 1) := by decide +kernel
theorem dX4_maySkip_35 : decode cX4_maySkip 35 = .ok (.ireturn, 1) := by decide +kernel
theorem dX4_beginEpoch_0 : decode cX4_beginEpoch 0 = .ok (.aload_n 0, 1) := by decide +kernel
theorem dX4_beginEpoch_1 : decode cX4_beginEpoch 1 = .ok (.getfield 46, 3) := by decide +kernel
theorem dX4_beginEpoch_4 : decode cX4_beginEpoch 4 = .ok (.istore_n 2, 1) := by decide +kernel
theorem dX4_beginEpoch_5 : decode cX4_beginEpoch 5 = .ok (.aload_n 0, 1) := by decide +kernel
theorem dX4_beginEpoch_6 : decode cX4_beginEpoch 6 = .ok (.getfield 52, 3) := by decide +kernel
theorem dX4_beginEpoch_9 : decode cX4_beginEpoch 9 = .ok (.istore_n 3, 1) := by decide +kernel
theorem dX4_beginEpoch_10 : decode cX4_beginEpoch 10 = .ok (.aload_n 0, 1) := by decide +kernel
theorem dX4_beginEpoch_11 : decode cX4_beginEpoch 11 = .ok (.getfield 52, 3) := by decide +kernel
theorem dX4_beginEpoch_14 : decode cX4_beginEpoch 14 = .ok (.istore 4, 2) := by decide +kernel
theorem dX4_beginEpoch_16 : decode cX4_beginEpoch 16 = .ok (.aload_n 0, 1) := by decide +kernel
theorem dX4_beginEpoch_17 : decode cX4_beginEpoch 17 = .ok (.getfield 36, 3) := by decide +kernel
theorem dX4_beginEpoch_20 : decode cX4_beginEpoch 20 = .ok (.iconst 3, 1) := by decide +kernel
theorem dX4_beginEpoch_21 : decode cX4_beginEpoch 21 = .ok (.if_icmp .ne 58, 3) := by decide +kernel
theorem dX4_beginEpoch_24 : decode cX4_beginEpoch 24 = .ok (.aload_n 0, 1) := by decide +kernel
theorem dX4_beginEpoch_25 : decode cX4_beginEpoch 25 = .ok (.getfield 52, 3) := by decide +kernel
theorem dX4_beginEpoch_28 : decode cX4_beginEpoch 28 = .ok (.bipush 16, 2) := by decide +kernel
theorem dX4_beginEpoch_30 : decode cX4_beginEpoch 30 = .ok (.aload_n 0, 1) := by decide +kernel
theorem dX4_beginEpoch_31 : decode cX4_beginEpoch 31 = .ok (.getfield 12, 3) := by decide +kernel
theorem dX4_beginEpoch_34 : decode cX4_beginEpoch 34 = .ok (.getfield 140, 3) := by decide +kernel
theorem dX4_beginEpoch_37 : decode cX4_beginEpoch 37 = .ok (.imul, 1) := by decide +kernel
theorem dX4_beginEpoch_38 : decode cX4_beginEpoch 38 = .ok (.iadd, 1) := by decide +kernel
theorem dX4_beginEpoch_39 : decode cX4_beginEpoch 39 = .ok (.bipush 16, 2) := by decide +kernel
theorem dX4_beginEpoch_41 : decode cX4_beginEpoch 41 = .ok (.iload_n 1, 1) := by decide +kernel
theorem dX4_beginEpoch_42 : decode cX4_beginEpoch 42 = .ok (.imul, 1) := by decide +kernel
theorem dX4_beginEpoch_43 : decode cX4_beginEpoch 43 = .ok (.bipush 16, 2) := by decide +kernel
theorem dX4_beginEpoch_45 : decode cX4_beginEpoch 45 = .ok (.iadd, 1) := by decide +kernel
theorem dX4_beginEpoch_46 : decode cX4_beginEpoch 46 = .ok (.invokestatic 143, 3) := by decide +kernel
theorem dX4_beginEpoch_49 : decode cX4_beginEpoch 49 = .ok (.istore 4, 2) := by decide +kernel
theorem dX4_beginEpoch_51 : decode cX4_beginEpoch 51 = .ok (.aload_n 0, 1) := by decide +kernel
theorem dX4_beginEpoch_52 : decode cX4_beginEpoch 52 = .ok (.aload_n 0, 1) := by decide +kernel
theorem dX4_beginEpoch_53 : decode cX4_beginEpoch 53 = .ok (.getfield 46, 3) := by decide +kernel
theorem dX4_beginEpoch_56 : decode cX4_beginEpoch 56 = .ok (.iload_n 3, 1) := by decide +kernel
theorem dX4_beginEpoch_57 : decode cX4_beginEpoch 57 = .ok (.iload 4, 2) := by decide +kernel
theorem dX4_beginEpoch_59 : decode cX4_beginEpoch 59 = .ok (.invokevirtual 148, 3) := by decide +kernel
theorem dX4_beginEpoch_62 : decode cX4_beginEpoch 62 = .ok (.istore_n 2, 1) := by decide +kernel
theorem dX4_beginEpoch_63 : decode cX4_beginEpoch 63 = .ok (.aload_n 0, 1) := by decide +kernel
theorem dX4_beginEpoch_64 : decode cX4_beginEpoch 64 = .ok (.dup, 1) := by decide +kernel
theorem dX4_beginEpoch_65 : decode cX4_beginEpoch 65 = .ok (.getfield 49, 3) := by decide +kernel
theorem dX4_beginEpoch_68 : decode cX4_beginEpoch 68 = .ok (.iload_n 2, 1) := by decide +kernel
theorem dX4_beginEpoch_69 : decode cX4_beginEpoch 69 = .ok (.ior, 1) := by decide +kernel
theorem dX4_beginEpoch_70 : decode cX4_beginEpoch 70 = .ok (.putfield 49, 3) := by decide +kernel
theorem dX4_beginEpoch_73 : decode cX4_beginEpoch 73 = .ok (.aload_n 0, 1) := by decide +kernel
theorem dX4_beginEpoch_74 : decode cX4_beginEpoch 74 = .ok (.iload 4, 2) := by decide +kernel
theorem dX4_beginEpoch_76 : decode cX4_beginEpoch 76 = .ok (.putfield 52, 3) := by decide +kernel
theorem dX4_beginEpoch_79 : decode cX4_beginEpoch 79 = .ok (.aload_n 0, 1) := by decide +kernel
theorem dX4_beginEpoch_80 : decode cX4_beginEpoch 80 = .ok (.getfield 21, 3) := by decide +kernel
theorem dX4_beginEpoch_83 : decode cX4_beginEpoch 83 = .ok (.iload_n 2, 1) := by decide +kernel
theorem dX4_beginEpoch_84 : decode cX4_beginEpoch 84 = .ok (.iload_n 3, 1) := by decide +kernel
theorem dX4_beginEpoch_85 : decode cX4_beginEpoch 85 = .ok (.iload 4, 2) := by decide +kernel
theorem dX4_beginEpoch_87 : decode cX4_beginEpoch 87 = .ok (.invokevirtual 152, 3) := by decide +kernel
theorem dX4_beginEpoch_90 : decode cX4_beginEpoch 90 = .ok (.aload_n 0, 1) := by decide +kernel
theorem dX4_beginEpoch_91 : decode cX4_beginEpoch 91 = .ok (.iload_n 2, 1) := by decide +kernel
theorem dX4_beginEpoch_92 : decode cX4_beginEpoch 92 = .ok (.ifCond .eq 7, 3) := by decide +kernel
theorem dX4_beginEpoch_95 : decode cX4_beginEpoch 95 = .ok (.iconst 1, 1) := by decide +kernel
theorem dX4_beginEpoch_96 : decode cX4_beginEpoch 96 = .ok (.goto 4, 3) := by decide +kernel
theorem dX4_beginEpoch_99 : decode cX4_beginEpoch 99 = .ok (.iconst 0, 1) := by decide +kernel
theorem dX4_beginEpoch_100 : decode cX4_beginEpoch 100 = .ok (.putfield 62, 3) := by decide +kernel
theorem dX4_beginEpoch_103 : decode cX4_beginEpoch 103 = .ok (.aload_n 0, 1) := by decide +kernel
theorem dX4_beginEpoch_104 : decode cX4_beginEpoch 104 = .ok (.getfield 62, 3) := by decide +kernel
theorem dX4_beginEpoch_107 : decode cX4_beginEpoch 107 = .ok (.ifCond .eq 12, 3) := by decide +kernel
theorem dX4_beginEpoch_110 : decode cX4_beginEpoch 110 = .ok (.aload_n 0, 1) := by decide +kernel
theorem dX4_beginEpoch_111 : decode cX4_beginEpoch 111 = .ok (.getfield 32, 3) := by decide +kernel
theorem dX4_beginEpoch_114 : decode cX4_beginEpoch 114 = .ok (.iload_n 1, 1) := by decide +kernel
theorem dX4_beginEpoch_115 : decode cX4_beginEpoch 115 = .ok (.iload_n 2, 1) := by decide +kernel
theorem dX4_beginEpoch_116 : decode cX4_beginEpoch 116 = .ok (.invokevirtual 156, 3) := by decide +kernel
theorem dX4_beginEpoch_119 : decode cX4_beginEpoch 119 = .ok (.return_, 1) := by decide +kernel
theorem dX4_endEpoch_0 : decode cX4_endEpoch 0 = .ok (.aload_n 0, 1) := by decide +kernel
theorem dX4_endEpoch_1 : decode cX4_endEpoch 1 = .ok (.getfield 62, 3) := by decide +kernel
theorem dX4_endEpoch_4 : decode cX4_endEpoch 4 = .ok (.ifCond .eq 23, 3) := by decide +kernel
theorem dX4_endEpoch_7 : decode cX4_endEpoch 7 = .ok (.aload_n 0, 1) := by decide +kernel
theorem dX4_endEpoch_8 : decode cX4_endEpoch 8 = .ok (.getfield 32, 3) := by decide +kernel
theorem dX4_endEpoch_11 : decode cX4_endEpoch 11 = .ok (.getfield 160, 3) := by decide +kernel
theorem dX4_endEpoch_14 : decode cX4_endEpoch 14 = .ok (.aload_n 0, 1) := by decide +kernel
theorem dX4_endEpoch_15 : decode cX4_endEpoch 15 = .ok (.getfield 32, 3) := by decide +kernel
theorem dX4_endEpoch_18 : decode cX4_endEpoch 18 = .ok (.getfield 163, 3) := by decide +kernel
theorem dX4_endEpoch_21 : decode cX4_endEpoch 21 = .ok (.iconst 1, 1) := by decide +kernel
theorem dX4_endEpoch_22 : decode cX4_endEpoch 22 = .ok (.isub, 1) := by decide +kernel
theorem dX4_endEpoch_23 : decode cX4_endEpoch 23 = .ok (.iload_n 1, 1) := by decide +kernel
theorem dX4_endEpoch_24 : decode cX4_endEpoch 24 = .ok (.invokestatic 127, 3) := by decide +kernel
theorem dX4_endEpoch_27 : decode cX4_endEpoch 27 = .ok (.aload_n 0, 1) := by decide +kernel
theorem dX4_endEpoch_28 : decode cX4_endEpoch 28 = .ok (.getfield 49, 3) := by decide +kernel
theorem dX4_endEpoch_31 : decode cX4_endEpoch 31 = .ok (.aload_n 0, 1) := by decide +kernel
theorem dX4_endEpoch_32 : decode cX4_endEpoch 32 = .ok (.getfield 46, 3) := by decide +kernel
theorem dX4_endEpoch_35 : decode cX4_endEpoch 35 = .ok (.iand, 1) := by decide +kernel
theorem dX4_endEpoch_36 : decode cX4_endEpoch 36 = .ok (.istore_n 2, 1) := by decide +kernel
theorem dX4_endEpoch_37 : decode cX4_endEpoch 37 = .ok (.iconst 0, 1) := by decide +kernel
theorem dX4_endEpoch_38 : decode cX4_endEpoch 38 = .ok (.istore_n 3, 1) := by decide +kernel
theorem dX4_endEpoch_39 : decode cX4_endEpoch 39 = .ok (.iload_n 3, 1) := by decide +kernel
theorem dX4_endEpoch_40 : decode cX4_endEpoch 40 = .ok (.aload_n 0, 1) := by decide +kernel
theorem dX4_endEpoch_41 : decode cX4_endEpoch 41 = .ok (.getfield 12, 3) := by decide +kernel
theorem dX4_endEpoch_44 : decode cX4_endEpoch 44 = .ok (.getfield 93, 3) := by decide +kernel
theorem dX4_endEpoch_47 : decode cX4_endEpoch 47 = .ok (.if_icmp .ge 43, 3) := by decide +kernel
theorem dX4_endEpoch_50 : decode cX4_endEpoch 50 = .ok (.iload_n 2, 1) := by decide +kernel
theorem dX4_endEpoch_51 : decode cX4_endEpoch 51 = .ok (.iload_n 3, 1) := by decide +kernel
theorem dX4_endEpoch_52 : decode cX4_endEpoch 52 = .ok (.ishr, 1) := by decide +kernel
theorem dX4_endEpoch_53 : decode cX4_endEpoch 53 = .ok (.ifCond .eq 37, 3) := by decide +kernel
theorem dX4_endEpoch_56 : decode cX4_endEpoch 56 = .ok (.iload_n 2, 1) := by decide +kernel
theorem dX4_endEpoch_57 : decode cX4_endEpoch 57 = .ok (.iload_n 3, 1) := by decide +kernel
theorem dX4_endEpoch_58 : decode cX4_endEpoch 58 = .ok (.ishr, 1) := by decide +kernel
theorem dX4_endEpoch_59 : decode cX4_endEpoch 59 = .ok (.iconst 1, 1) := by decide +kernel
theorem dX4_endEpoch_60 : decode cX4_endEpoch 60 = .ok (.iand, 1) := by decide +kernel
theorem dX4_endEpoch_61 : decode cX4_endEpoch 61 = .ok (.iconst 1, 1) := by decide +kernel
theorem dX4_endEpoch_62 : decode cX4_endEpoch 62 = .ok (.if_icmp .ne 22, 3) := by decide +kernel
theorem dX4_endEpoch_65 : decode cX4_endEpoch 65 = .ok (.aload_n 0, 1) := by decide +kernel
theorem dX4_endEpoch_66 : decode cX4_endEpoch 66 = .ok (.aload_n 0, 1) := by decide +kernel
theorem dX4_endEpoch_67 : decode cX4_endEpoch 67 = .ok (.getfield 52, 3) := by decide +kernel
theorem dX4_endEpoch_70 : decode cX4_endEpoch 70 = .ok (.aload_n 0, 1) := by decide +kernel
theorem dX4_endEpoch_71 : decode cX4_endEpoch 71 = .ok (.getfield 12, 3) := by decide +kernel
theorem dX4_endEpoch_74 : decode cX4_endEpoch 74 = .ok (.iload_n 3, 1) := by decide +kernel
theorem dX4_endEpoch_75 : decode cX4_endEpoch 75 = .ok (.invokevirtual 166, 3) := by decide +kernel
theorem dX4_endEpoch_78 : decode cX4_endEpoch 78 = .ok (.invokestatic 143, 3) := by decide +kernel
theorem dX4_endEpoch_81 : decode cX4_endEpoch 81 = .ok (.putfield 52, 3) := by decide +kernel
theorem dX4_endEpoch_84 : decode cX4_endEpoch 84 = .ok (.iinc 3 1, 3) := by decide +kernel
theorem dX4_endEpoch_87 : decode cX4_endEpoch 87 = .ok (.goto (-48), 3) := by decide +kernel
theorem dX4_endEpoch_90 : decode cX4_endEpoch 90 = .ok (.return_, 1) := by decide +kernel
theorem dX4_within_0 : decode cX4_within 0 = .ok (.iconst 0, 1) := by decide +kernel
theorem dX4_within_1 : decode cX4_within 1 = .ok (.istore 4, 2) := by decide +kernel
theorem dX4_within_3 : decode cX4_within 3 = .ok (.iconst 0, 1) := by decide +kernel
theorem dX4_within_4 : decode cX4_within 4 = .ok (.istore 5, 2) := by decide +kernel
theorem dX4_within_6 : decode cX4_within 6 = .ok (.iload 5, 2) := by decide +kernel
theorem dX4_within_8 : decode cX4_within 8 = .ok (.aload_n 0, 1) := by decide +kernel
theorem dX4_within_9 : decode cX4_within 9 = .ok (.getfield 12, 3) := by decide +kernel
theorem dX4_within_12 : decode cX4_within 12 = .ok (.getfield 93, 3) := by decide +kernel
theorem dX4_within_15 : decode cX4_within 15 = .ok (.if_icmp .ge 58, 3) := by decide +kernel
theorem dX4_within_18 : decode cX4_within 18 = .ok (.iload_n 1, 1) := by decide +kernel
theorem dX4_within_19 : decode cX4_within 19 = .ok (.iload 5, 2) := by decide +kernel
theorem dX4_within_21 : decode cX4_within 21 = .ok (.ishr, 1) := by decide +kernel
theorem dX4_within_22 : decode cX4_within 22 = .ok (.ifCond .eq 51, 3) := by decide +kernel
theorem dX4_within_25 : decode cX4_within 25 = .ok (.aload_n 0, 1) := by decide +kernel
theorem dX4_within_26 : decode cX4_within 26 = .ok (.getfield 12, 3) := by decide +kernel
theorem dX4_within_29 : decode cX4_within 29 = .ok (.iload 5, 2) := by decide +kernel
theorem dX4_within_31 : decode cX4_within 31 = .ok (.invokevirtual 166, 3) := by decide +kernel
theorem dX4_within_34 : decode cX4_within 34 = .ok (.istore 6, 2) := by decide +kernel
theorem dX4_within_36 : decode cX4_within 36 = .ok (.iload_n 1, 1) := by decide +kernel
theorem dX4_within_37 : decode cX4_within 37 = .ok (.iload 5, 2) := by decide +kernel
theorem dX4_within_39 : decode cX4_within 39 = .ok (.ishr, 1) := by decide +kernel
theorem dX4_within_40 : decode cX4_within 40 = .ok (.iconst 1, 1) := by decide +kernel
theorem dX4_within_41 : decode cX4_within 41 = .ok (.iand, 1) := by decide +kernel
theorem dX4_within_42 : decode cX4_within 42 = .ok (.iconst 1, 1) := by decide +kernel
theorem dX4_within_43 : decode cX4_within 43 = .ok (.if_icmp .ne 24, 3) := by decide +kernel
theorem dX4_within_46 : decode cX4_within 46 = .ok (.iload 6, 2) := by decide +kernel
theorem dX4_within_48 : decode cX4_within 48 = .ok (.iload_n 2, 1) := by decide +kernel
theorem dX4_within_49 : decode cX4_within 49 = .ok (.if_icmp .lt 18, 3) := by decide +kernel
theorem dX4_within_52 : decode cX4_within 52 = .ok (.iload 6, 2) := by decide +kernel
theorem dX4_within_54 : decode cX4_within 54 = .ok (.iload_n 3, 1) := by decide +kernel
theorem dX4_within_55 : decode cX4_within 55 = .ok (.if_icmp .ge 12, 3) := by decide +kernel
theorem dX4_within_58 : decode cX4_within 58 = .ok (.iload 4, 2) := by decide +kernel
theorem dX4_within_60 : decode cX4_within 60 = .ok (.iconst 1, 1) := by decide +kernel
theorem dX4_within_61 : decode cX4_within 61 = .ok (.iload 5, 2) := by decide +kernel
theorem dX4_within_63 : decode cX4_within 63 = .ok (.ishl, 1) := by decide +kernel
theorem dX4_within_64 : decode cX4_within 64 = .ok (.ior, 1) := by decide +kernel
theorem dX4_within_65 : decode cX4_within 65 = .ok (.istore 4, 2) := by decide +kernel
theorem dX4_within_67 : decode cX4_within 67 = .ok (.iinc 5 1, 3) := by decide +kernel
theorem dX4_within_70 : decode cX4_within 70 = .ok (.goto (-64), 3) := by decide +kernel
theorem dX4_within_73 : decode cX4_within 73 = .ok (.iload 4, 2) := by decide +kernel
theorem dX4_within_75 : decode cX4_within 75 = .ok (.ireturn, 1) := by decide +kernel
theorem dX4_splitTop_0 : decode cX4_splitTop 0 = .ok (.aload_n 0, 1) := by decide +kernel
theorem dX4_splitTop_1 : decode cX4_splitTop 1 = .ok (.getfield 21, 3) := by decide +kernel
theorem dX4_splitTop_4 : decode cX4_splitTop 4 = .ok (.invokevirtual 106, 3) := by decide +kernel
theorem dX4_splitTop_7 : decode cX4_splitTop 7 = .ok (.istore_n 1, 1) := by decide +kernel
theorem dX4_splitTop_8 : decode cX4_splitTop 8 = .ok (.aload_n 0, 1) := by decide +kernel
theorem dX4_splitTop_9 : decode cX4_splitTop 9 = .ok (.getfield 21, 3) := by decide +kernel
theorem dX4_splitTop_12 : decode cX4_splitTop 12 = .ok (.getfield 170, 3) := by decide +kernel
theorem dX4_splitTop_15 : decode cX4_splitTop 15 = .ok (.aload_n 0, 1) := by decide +kernel
theorem dX4_splitTop_16 : decode cX4_splitTop 16 = .ok (.getfield 21, 3) := by decide +kernel
theorem dX4_splitTop_19 : decode cX4_splitTop 19 = .ok (.getfield 65, 3) := by decide +kernel
theorem dX4_splitTop_22 : decode cX4_splitTop 22 = .ok (.iconst 1, 1) := by decide +kernel
theorem dX4_splitTop_23 : decode cX4_splitTop 23 = .ok (.isub, 1) := by decide +kernel
theorem dX4_splitTop_24 : decode cX4_splitTop 24 = .ok (.invokestatic 99, 3) := by decide +kernel
theorem dX4_splitTop_27 : decode cX4_splitTop 27 = .ok (.istore_n 2, 1) := by decide +kernel
theorem dX4_splitTop_28 : decode cX4_splitTop 28 = .ok (.aload_n 0, 1) := by decide +kernel
theorem dX4_splitTop_29 : decode cX4_splitTop 29 = .ok (.getfield 21, 3) := by decide +kernel
theorem dX4_splitTop_32 : decode cX4_splitTop 32 = .ok (.getfield 173, 3) := by decide +kernel
theorem dX4_splitTop_35 : decode cX4_splitTop 35 = .ok (.aload_n 0, 1) := by decide +kernel
theorem dX4_splitTop_36 : decode cX4_splitTop 36 = .ok (.getfield 21, 3) := by decide +kernel
theorem dX4_splitTop_39 : decode cX4_splitTop 39 = .ok (.getfield 65, 3) := by decide +kernel
theorem dX4_splitTop_42 : decode cX4_splitTop 42 = .ok (.iconst 1, 1) := by decide +kernel
theorem dX4_splitTop_43 : decode cX4_splitTop 43 = .ok (.isub, 1) := by decide +kernel
theorem dX4_splitTop_44 : decode cX4_splitTop 44 = .ok (.invokestatic 99, 3) := by decide +kernel
theorem dX4_splitTop_47 : decode cX4_splitTop 47 = .ok (.istore_n 3, 1) := by decide +kernel
theorem dX4_splitTop_48 : decode cX4_splitTop 48 = .ok (.iload_n 2, 1) := by decide +kernel
theorem dX4_splitTop_49 : decode cX4_splitTop 49 = .ok (.iload_n 3, 1) := by decide +kernel
theorem dX4_splitTop_50 : decode cX4_splitTop 50 = .ok (.iload_n 2, 1) := by decide +kernel
theorem dX4_splitTop_51 : decode cX4_splitTop 51 = .ok (.isub, 1) := by decide +kernel
theorem dX4_splitTop_52 : decode cX4_splitTop 52 = .ok (.iconst 2, 1) := by decide +kernel
theorem dX4_splitTop_53 : decode cX4_splitTop 53 = .ok (.idiv, 1) := by decide +kernel
theorem dX4_splitTop_54 : decode cX4_splitTop 54 = .ok (.iadd, 1) := by decide +kernel
theorem dX4_splitTop_55 : decode cX4_splitTop 55 = .ok (.istore 4, 2) := by decide +kernel
theorem dX4_splitTop_57 : decode cX4_splitTop 57 = .ok (.aload_n 0, 1) := by decide +kernel
theorem dX4_splitTop_58 : decode cX4_splitTop 58 = .ok (.getfield 36, 3) := by decide +kernel
theorem dX4_splitTop_61 : decode cX4_splitTop 61 = .ok (.iconst 3, 1) := by decide +kernel
theorem dX4_splitTop_62 : decode cX4_splitTop 62 = .ok (.if_icmp .ne 14, 3) := by decide +kernel
theorem dX4_splitTop_65 : decode cX4_splitTop 65 = .ok (.aload_n 0, 1) := by decide +kernel
theorem dX4_splitTop_66 : decode cX4_splitTop 66 = .ok (.iload_n 1, 1) := by decide +kernel
theorem dX4_splitTop_67 : decode cX4_splitTop 67 = .ok (.iload_n 2, 1) := by decide +kernel
theorem dX4_splitTop_68 : decode cX4_splitTop 68 = .ok (.iload 4, 2) := by decide +kernel
theorem dX4_splitTop_70 : decode cX4_splitTop 70 = .ok (.invokevirtual 148, 3) := by decide +kernel
theorem dX4_splitTop_73 : decode cX4_splitTop 73 = .ok (.goto 8, 3) := by decide +kernel
theorem dX4_splitTop_76 : decode cX4_splitTop 76 = .ok (.aload_n 0, 1) := by decide +kernel
theorem dX4_splitTop_77 : decode cX4_splitTop 77 = .ok (.iload_n 1, 1) := by decide +kernel
theorem dX4_splitTop_78 : decode cX4_splitTop 78 = .ok (.invokevirtual 176, 3) := by decide +kernel
theorem dX4_splitTop_81 : decode cX4_splitTop 81 = .ok (.istore 5, 2) := by decide +kernel
theorem dX4_splitTop_83 : decode cX4_splitTop 83 = .ok (.aload_n 0, 1) := by decide +kernel
theorem dX4_splitTop_84 : decode cX4_splitTop 84 = .ok (.getfield 21, 3) := by decide +kernel
theorem dX4_splitTop_87 : decode cX4_splitTop 87 = .ok (.invokevirtual 121, 3) := by decide +kernel
theorem dX4_splitTop_90 : decode cX4_splitTop 90 = .ok (.aload_n 0, 1) := by decide +kernel
theorem dX4_splitTop_91 : decode cX4_splitTop 91 = .ok (.getfield 21, 3) := by decide +kernel
theorem dX4_splitTop_94 : decode cX4_splitTop 94 = .ok (.iload_n 1, 1) := by decide +kernel
theorem dX4_splitTop_95 : decode cX4_splitTop 95 = .ok (.iload 5, 2) := by decide +kernel
theorem dX4_splitTop_97 : decode cX4_splitTop 97 = .ok (.iconst (-1), 1) := by decide +kernel
theorem dX4_splitTop_98 : decode cX4_splitTop 98 = .ok (.ixor, 1) := by decide +kernel
theorem dX4_splitTop_99 : decode cX4_splitTop 99 = .ok (.iand, 1) := by decide +kernel
theorem dX4_splitTop_100 : decode cX4_splitTop 100 = .ok (.iload 4, 2) := by decide +kernel
theorem dX4_splitTop_102 : decode cX4_splitTop 102 = .ok (.iload_n 3, 1) := by decide +kernel
theorem dX4_splitTop_103 : decode cX4_splitTop 103 = .ok (.invokevirtual 152, 3) := by decide +kernel
theorem dX4_splitTop_106 : decode cX4_splitTop 106 = .ok (.aload_n 0, 1) := by decide +kernel
theorem dX4_splitTop_107 : decode cX4_splitTop 107 = .ok (.getfield 21, 3) := by decide +kernel
theorem dX4_splitTop_110 : decode cX4_splitTop 110 = .ok (.iload 5, 2) := by decide +kernel
theorem dX4_splitTop_112 : decode cX4_splitTop 112 = .ok (.iload_n 2, 1) := by decide +kernel
theorem dX4_splitTop_113 : decode cX4_splitTop 113 = .ok (.iload 4, 2) := by decide +kernel
theorem dX4_splitTop_115 : decode cX4_splitTop 115 = .ok (.invokevirtual 152, 3) := by decide +kernel
theorem dX4_splitTop_118 : decode cX4_splitTop 118 = .ok (.aload_n 0, 1) := by decide +kernel
theorem dX4_splitTop_119 : decode cX4_splitTop 119 = .ok (.iconst 1, 1) := by decide +kernel
theorem dX4_splitTop_120 : decode cX4_splitTop 120 = .ok (.putfield 55, 3) := by decide +kernel
theorem dX4_splitTop_123 : decode cX4_splitTop 123 = .ok (.return_, 1) := by decide +kernel
theorem dX4_takeBits_0 : decode cX4_takeBits 0 = .ok (.iconst 0, 1) := by decide +kernel
theorem dX4_takeBits_1 : decode cX4_takeBits 1 = .ok (.istore_n 2, 1) := by decide +kernel
theorem dX4_takeBits_2 : decode cX4_takeBits 2 = .ok (.iconst 0, 1) := by decide +kernel
theorem dX4_takeBits_3 : decode cX4_takeBits 3 = .ok (.istore_n 3, 1) := by decide +kernel
theorem dX4_takeBits_4 : decode cX4_takeBits 4 = .ok (.iload_n 3, 1) := by decide +kernel
theorem dX4_takeBits_5 : decode cX4_takeBits 5 = .ok (.aload_n 0, 1) := by decide +kernel
theorem dX4_takeBits_6 : decode cX4_takeBits 6 = .ok (.getfield 12, 3) := by decide +kernel
theorem dX4_takeBits_9 : decode cX4_takeBits 9 = .ok (.getfield 93, 3) := by decide +kernel
theorem dX4_takeBits_12 : decode cX4_takeBits 12 = .ok (.if_icmp .ge 38, 3) := by decide +kernel
theorem dX4_takeBits_15 : decode cX4_takeBits 15 = .ok (.iload_n 1, 1) := by decide +kernel
theorem dX4_takeBits_16 : decode cX4_takeBits 16 = .ok (.iload_n 3, 1) := by decide +kernel
theorem dX4_takeBits_17 : decode cX4_takeBits 17 = .ok (.ishr, 1) := by decide +kernel
theorem dX4_takeBits_18 : decode cX4_takeBits 18 = .ok (.ifCond .eq 32, 3) := by decide +kernel
theorem dX4_takeBits_21 : decode cX4_takeBits 21 = .ok (.iload_n 1, 1) := by decide +kernel
theorem dX4_takeBits_22 : decode cX4_takeBits 22 = .ok (.iload_n 3, 1) := by decide +kernel
theorem dX4_takeBits_23 : decode cX4_takeBits 23 = .ok (.ishr, 1) := by decide +kernel
theorem dX4_takeBits_24 : decode cX4_takeBits 24 = .ok (.iconst 1, 1) := by decide +kernel
theorem dX4_takeBits_25 : decode cX4_takeBits 25 = .ok (.iand, 1) := by decide +kernel
theorem dX4_takeBits_26 : decode cX4_takeBits 26 = .ok (.iconst 1, 1) := by decide +kernel
theorem dX4_takeBits_27 : decode cX4_takeBits 27 = .ok (.if_icmp .ne 17, 3) := by decide +kernel
theorem dX4_takeBits_30 : decode cX4_takeBits 30 = .ok (.aload_n 0, 1) := by decide +kernel
theorem dX4_takeBits_31 : decode cX4_takeBits 31 = .ok (.iload_n 3, 1) := by decide +kernel
theorem dX4_takeBits_32 : decode cX4_takeBits 32 = .ok (.invokevirtual 179, 3) := by decide +kernel
theorem dX4_takeBits_35 : decode cX4_takeBits 35 = .ok (.ifCond .ne 9, 3) := by decide +kernel
theorem dX4_takeBits_38 : decode cX4_takeBits 38 = .ok (.iload_n 2, 1) := by decide +kernel
theorem dX4_takeBits_39 : decode cX4_takeBits 39 = .ok (.iconst 1, 1) := by decide +kernel
theorem dX4_takeBits_40 : decode cX4_takeBits 40 = .ok (.iload_n 3, 1) := by decide +kernel
theorem dX4_takeBits_41 : decode cX4_takeBits 41 = .ok (.ishl, 1) := by decide +kernel
theorem dX4_takeBits_42 : decode cX4_takeBits 42 = .ok (.ior, 1) := by decide +kernel
theorem dX4_takeBits_43 : decode cX4_takeBits 43 = .ok (.istore_n 2, 1) := by decide +kernel
theorem dX4_takeBits_44 : decode cX4_takeBits 44 = .ok (.iinc 3 1, 3) := by decide +kernel
theorem dX4_takeBits_47 : decode cX4_takeBits 47 = .ok (.goto (-43), 3) := by decide +kernel
theorem dX4_takeBits_50 : decode cX4_takeBits 50 = .ok (.iload_n 2, 1) := by decide +kernel
theorem dX4_takeBits_51 : decode cX4_takeBits 51 = .ok (.ireturn, 1) := by decide +kernel
theorem dX4_nextBit_0 : decode cX4_nextBit 0 = .ok (.aload_n 0, 1) := by decide +kernel
theorem dX4_nextBit_1 : decode cX4_nextBit 1 = .ok (.getfield 32, 3) := by decide +kernel
theorem dX4_nextBit_4 : decode cX4_nextBit 4 = .ok (.getfield 182, 3) := by decide +kernel
theorem dX4_nextBit_7 : decode cX4_nextBit 7 = .ok (.iload_n 1, 1) := by decide +kernel
theorem dX4_nextBit_8 : decode cX4_nextBit 8 = .ok (.invokestatic 99, 3) := by decide +kernel
theorem dX4_nextBit_11 : decode cX4_nextBit 11 = .ok (.istore_n 2, 1) := by decide +kernel
theorem dX4_nextBit_12 : decode cX4_nextBit 12 = .ok (.aload_n 0, 1) := by decide +kernel
theorem dX4_nextBit_13 : decode cX4_nextBit 13 = .ok (.getfield 12, 3) := by decide +kernel
theorem dX4_nextBit_16 : decode cX4_nextBit 16 = .ok (.getfield 185, 3) := by decide +kernel
theorem dX4_nextBit_19 : decode cX4_nextBit 19 = .ok (.iload_n 1, 1) := by decide +kernel
theorem dX4_nextBit_20 : decode cX4_nextBit 20 = .ok (.invokestatic 99, 3) := by decide +kernel
theorem dX4_nextBit_23 : decode cX4_nextBit 23 = .ok (.istore_n 3, 1) := by decide +kernel
theorem dX4_nextBit_24 : decode cX4_nextBit 24 = .ok (.aload_n 0, 1) := by decide +kernel
theorem dX4_nextBit_25 : decode cX4_nextBit 25 = .ok (.getfield 32, 3) := by decide +kernel
theorem dX4_nextBit_28 : decode cX4_nextBit 28 = .ok (.getfield 182, 3) := by decide +kernel
theorem dX4_nextBit_31 : decode cX4_nextBit 31 = .ok (.iload_n 1, 1) := by decide +kernel
theorem dX4_nextBit_32 : decode cX4_nextBit 32 = .ok (.iload_n 2, 1) := by decide +kernel
theorem dX4_nextBit_33 : decode cX4_nextBit 33 = .ok (.iconst 1, 1) := by decide +kernel
theorem dX4_nextBit_34 : decode cX4_nextBit 34 = .ok (.iadd, 1) := by decide +kernel
theorem dX4_nextBit_35 : decode cX4_nextBit 35 = .ok (.invokestatic 127, 3) := by decide +kernel
theorem dX4_nextBit_38 : decode cX4_nextBit 38 = .ok (.iload_n 3, 1) := by decide +kernel
theorem dX4_nextBit_39 : decode cX4_nextBit 39 = .ok (.ifCond .le 27, 3) := by decide +kernel
theorem dX4_nextBit_42 : decode cX4_nextBit 42 = .ok (.aload_n 0, 1) := by decide +kernel
theorem dX4_nextBit_43 : decode cX4_nextBit 43 = .ok (.getfield 12, 3) := by decide +kernel
theorem dX4_nextBit_46 : decode cX4_nextBit 46 = .ok (.getfield 188, 3) := by decide +kernel
theorem dX4_nextBit_49 : decode cX4_nextBit 49 = .ok (.iload_n 1, 1) := by decide +kernel
theorem dX4_nextBit_50 : decode cX4_nextBit 50 = .ok (.invokestatic 99, 3) := by decide +kernel
theorem dX4_nextBit_53 : decode cX4_nextBit 53 = .ok (.iload_n 3, 1) := by decide +kernel
theorem dX4_nextBit_54 : decode cX4_nextBit 54 = .ok (.iconst 1, 1) := by decide +kernel
theorem dX4_nextBit_55 : decode cX4_nextBit 55 = .ok (.isub, 1) := by decide +kernel
theorem dX4_nextBit_56 : decode cX4_nextBit 56 = .ok (.iload_n 2, 1) := by decide +kernel
theorem dX4_nextBit_57 : decode cX4_nextBit 57 = .ok (.iload_n 3, 1) := by decide +kernel
theorem dX4_nextBit_58 : decode cX4_nextBit 58 = .ok (.irem, 1) := by decide +kernel
theorem dX4_nextBit_59 : decode cX4_nextBit 59 = .ok (.isub, 1) := by decide +kernel
theorem dX4_nextBit_60 : decode cX4_nextBit 60 = .ok (.ishr, 1) := by decide +kernel
theorem dX4_nextBit_61 : decode cX4_nextBit 61 = .ok (.iconst 1, 1) := by decide +kernel
theorem dX4_nextBit_62 : decode cX4_nextBit 62 = .ok (.iand, 1) := by decide +kernel
theorem dX4_nextBit_63 : decode cX4_nextBit 63 = .ok (.goto 4, 3) := by decide +kernel
theorem dX4_nextBit_66 : decode cX4_nextBit 66 = .ok (.iconst 0, 1) := by decide +kernel
theorem dX4_nextBit_67 : decode cX4_nextBit 67 = .ok (.ireturn, 1) := by decide +kernel
theorem dX4_listen_0 : decode cX4_listen 0 = .ok (.iload_n 2, 1) := by decide +kernel
theorem dX4_listen_1 : decode cX4_listen 1 = .ok (.invokestatic 191, 3) := by decide +kernel
theorem dX4_listen_4 : decode cX4_listen 4 = .ok (.istore_n 3, 1) := by decide +kernel
theorem dX4_listen_5 : decode cX4_listen 5 = .ok (.aload_n 0, 1) := by decide +kernel
theorem dX4_listen_6 : decode cX4_listen 6 = .ok (.iload_n 1, 1) := by decide +kernel
theorem dX4_listen_7 : decode cX4_listen 7 = .ok (.iload_n 3, 1) := by decide +kernel
theorem dX4_listen_8 : decode cX4_listen 8 = .ok (.iconst 2, 1) := by decide +kernel
theorem dX4_listen_9 : decode cX4_listen 9 = .ok (.invokestatic 143, 3) := by decide +kernel
theorem dX4_listen_12 : decode cX4_listen 12 = .ok (.invokevirtual 196, 3) := by decide +kernel
theorem dX4_listen_15 : decode cX4_listen 15 = .ok (.istore 4, 2) := by decide +kernel
theorem dX4_listen_17 : decode cX4_listen 17 = .ok (.aload_n 0, 1) := by decide +kernel
theorem dX4_listen_18 : decode cX4_listen 18 = .ok (.getfield 32, 3) := by decide +kernel
theorem dX4_listen_21 : decode cX4_listen 21 = .ok (.getfield 199, 3) := by decide +kernel
theorem dX4_listen_24 : decode cX4_listen 24 = .ok (.iload_n 1, 1) := by decide +kernel
theorem dX4_listen_25 : decode cX4_listen 25 = .ok (.iload_n 2, 1) := by decide +kernel
theorem dX4_listen_26 : decode cX4_listen 26 = .ok (.invokestatic 127, 3) := by decide +kernel
theorem dX4_listen_29 : decode cX4_listen 29 = .ok (.aload_n 0, 1) := by decide +kernel
theorem dX4_listen_30 : decode cX4_listen 30 = .ok (.getfield 32, 3) := by decide +kernel
theorem dX4_listen_33 : decode cX4_listen 33 = .ok (.getfield 202, 3) := by decide +kernel
theorem dX4_listen_36 : decode cX4_listen 36 = .ok (.iload_n 1, 1) := by decide +kernel
theorem dX4_listen_37 : decode cX4_listen 37 = .ok (.iload 4, 2) := by decide +kernel
theorem dX4_listen_39 : decode cX4_listen 39 = .ok (.invokestatic 127, 3) := by decide +kernel
theorem dX4_listen_42 : decode cX4_listen 42 = .ok (.iload_n 3, 1) := by decide +kernel
theorem dX4_listen_43 : decode cX4_listen 43 = .ok (.iconst 1, 1) := by decide +kernel
theorem dX4_listen_44 : decode cX4_listen 44 = .ok (.if_icmp .ne 13, 3) := by decide +kernel
theorem dX4_listen_47 : decode cX4_listen 47 = .ok (.iload 4, 2) := by decide +kernel
theorem dX4_listen_49 : decode cX4_listen 49 = .ok (.iconst 1, 1) := by decide +kernel
theorem dX4_listen_50 : decode cX4_listen 50 = .ok (.if_icmp .ne 7, 3) := by decide +kernel
theorem dX4_listen_53 : decode cX4_listen 53 = .ok (.iconst 1, 1) := by decide +kernel
theorem dX4_listen_54 : decode cX4_listen 54 = .ok (.goto 4, 3) := by decide +kernel
theorem dX4_listen_57 : decode cX4_listen 57 = .ok (.iconst 0, 1) := by decide +kernel
theorem dX4_listen_58 : decode cX4_listen 58 = .ok (.istore 5, 2) := by decide +kernel
theorem dX4_listen_60 : decode cX4_listen 60 = .ok (.iconst 0, 1) := by decide +kernel
theorem dX4_listen_61 : decode cX4_listen 61 = .ok (.istore 6, 2) := by decide +kernel
theorem dX4_listen_63 : decode cX4_listen 63 = .ok (.iload 6, 2) := by decide +kernel
theorem dX4_listen_65 : decode cX4_listen 65 = .ok (.aload_n 0, 1) := by decide +kernel
theorem dX4_listen_66 : decode cX4_listen 66 = .ok (.getfield 12, 3) := by decide +kernel
theorem dX4_listen_69 : decode cX4_listen 69 = .ok (.getfield 93, 3) := by decide +kernel
theorem dX4_listen_72 : decode cX4_listen 72 = .ok (.if_icmp .ge 67, 3) := by decide +kernel
theorem dX4_listen_75 : decode cX4_listen 75 = .ok (.iload_n 2, 1) := by decide +kernel
theorem dX4_listen_76 : decode cX4_listen 76 = .ok (.iload 6, 2) := by decide +kernel
theorem dX4_listen_78 : decode cX4_listen 78 = .ok (.ishr, 1) := by decide +kernel
theorem dX4_listen_79 : decode cX4_listen 79 = .ok (.ifCond .eq 60, 3) := by decide +kernel
theorem dX4_listen_82 : decode cX4_listen 82 = .ok (.iload_n 2, 1) := by decide +kernel
theorem dX4_listen_83 : decode cX4_listen 83 = .ok (.iload 6, 2) := by decide +kernel
theorem dX4_listen_85 : decode cX4_listen 85 = .ok (.ishr, 1) := by decide +kernel
theorem dX4_listen_86 : decode cX4_listen 86 = .ok (.iconst 1, 1) := by decide +kernel
theorem dX4_listen_87 : decode cX4_listen 87 = .ok (.iand, 1) := by decide +kernel
theorem dX4_listen_88 : decode cX4_listen 88 = .ok (.iconst 1, 1) := by decide +kernel
theorem dX4_listen_89 : decode cX4_listen 89 = .ok (.if_icmp .ne 44, 3) := by decide +kernel
theorem dX4_listen_92 : decode cX4_listen 92 = .ok (.aload_n 0, 1) := by decide +kernel
theorem dX4_listen_93 : decode cX4_listen 93 = .ok (.getfield 32, 3) := by decide +kernel
theorem dX4_listen_96 : decode cX4_listen 96 = .ok (.getfield 205, 3) := by decide +kernel
theorem dX4_listen_99 : decode cX4_listen 99 = .ok (.iload 6, 2) := by decide +kernel
theorem dX4_listen_101 : decode cX4_listen 101 = .ok (.aload_n 0, 1) := by decide +kernel
theorem dX4_listen_102 : decode cX4_listen 102 = .ok (.getfield 32, 3) := by decide +kernel
theorem dX4_listen_105 : decode cX4_listen 105 = .ok (.getfield 205, 3) := by decide +kernel
theorem dX4_listen_108 : decode cX4_listen 108 = .ok (.iload 6, 2) := by decide +kernel
theorem dX4_listen_110 : decode cX4_listen 110 = .ok (.invokestatic 99, 3) := by decide +kernel
theorem dX4_listen_113 : decode cX4_listen 113 = .ok (.iconst 1, 1) := by decide +kernel
theorem dX4_listen_114 : decode cX4_listen 114 = .ok (.iadd, 1) := by decide +kernel
theorem dX4_listen_115 : decode cX4_listen 115 = .ok (.invokestatic 127, 3) := by decide +kernel
theorem dX4_listen_118 : decode cX4_listen 118 = .ok (.iload 5, 2) := by decide +kernel
theorem dX4_listen_120 : decode cX4_listen 120 = .ok (.ifCond .eq 13, 3) := by decide +kernel
theorem dX4_listen_123 : decode cX4_listen 123 = .ok (.aload_n 0, 1) := by decide +kernel
theorem dX4_listen_124 : decode cX4_listen 124 = .ok (.getfield 32, 3) := by decide +kernel
theorem dX4_listen_127 : decode cX4_listen 127 = .ok (.iload 6, 2) := by decide +kernel
theorem dX4_listen_129 : decode cX4_listen 129 = .ok (.iload_n 1, 1) := by decide +kernel
theorem dX4_listen_130 : decode cX4_listen 130 = .ok (.invokevirtual 208, 3) := by decide +kernel
theorem dX4_listen_133 : decode cX4_listen 133 = .ok (.iinc 6 1, 3) := by decide +kernel
theorem dX4_listen_136 : decode cX4_listen 136 = .ok (.goto (-73), 3) := by decide +kernel
theorem dX4_listen_139 : decode cX4_listen 139 = .ok (.iload 5, 2) := by decide +kernel
theorem dX4_listen_141 : decode cX4_listen 141 = .ok (.ifCond .eq 15, 3) := by decide +kernel
theorem dX4_listen_144 : decode cX4_listen 144 = .ok (.aload_n 0, 1) := by decide +kernel
theorem dX4_listen_145 : decode cX4_listen 145 = .ok (.dup, 1) := by decide +kernel
theorem dX4_listen_146 : decode cX4_listen 146 = .ok (.getfield 46, 3) := by decide +kernel
theorem dX4_listen_149 : decode cX4_listen 149 = .ok (.iload_n 2, 1) := by decide +kernel
theorem dX4_listen_150 : decode cX4_listen 150 = .ok (.iconst (-1), 1) := by decide +kernel
theorem dX4_listen_151 : decode cX4_listen 151 = .ok (.ixor, 1) := by decide +kernel
theorem dX4_listen_152 : decode cX4_listen 152 = .ok (.iand, 1) := by decide +kernel
theorem dX4_listen_153 : decode cX4_listen 153 = .ok (.putfield 46, 3) := by decide +kernel
theorem dX4_listen_156 : decode cX4_listen 156 = .ok (.iload 4, 2) := by decide +kernel
theorem dX4_listen_158 : decode cX4_listen 158 = .ok (.ireturn, 1) := by decide +kernel
theorem dX4_heardAt_0 : decode cX4_heardAt 0 = .ok (.iconst 0, 1) := by decide +kernel
theorem dX4_heardAt_1 : decode cX4_heardAt 1 = .ok (.istore_n 3, 1) := by decide +kernel
theorem dX4_heardAt_2 : decode cX4_heardAt 2 = .ok (.iload_n 3, 1) := by decide +kernel
theorem dX4_heardAt_3 : decode cX4_heardAt 3 = .ok (.aload_n 0, 1) := by decide +kernel
theorem dX4_heardAt_4 : decode cX4_heardAt 4 = .ok (.getfield 12, 3) := by decide +kernel
theorem dX4_heardAt_7 : decode cX4_heardAt 7 = .ok (.getfield 211, 3) := by decide +kernel
theorem dX4_heardAt_10 : decode cX4_heardAt 10 = .ok (.if_icmp .ge 44, 3) := by decide +kernel
theorem dX4_heardAt_13 : decode cX4_heardAt 13 = .ok (.aload_n 0, 1) := by decide +kernel
theorem dX4_heardAt_14 : decode cX4_heardAt 14 = .ok (.getfield 12, 3) := by decide +kernel
theorem dX4_heardAt_17 : decode cX4_heardAt 17 = .ok (.getfield 214, 3) := by decide +kernel
theorem dX4_heardAt_20 : decode cX4_heardAt 20 = .ok (.iload_n 3, 1) := by decide +kernel
theorem dX4_heardAt_21 : decode cX4_heardAt 21 = .ok (.invokestatic 99, 3) := by decide +kernel
theorem dX4_heardAt_24 : decode cX4_heardAt 24 = .ok (.iload_n 1, 1) := by decide +kernel
theorem dX4_heardAt_25 : decode cX4_heardAt 25 = .ok (.if_icmp .ne 23, 3) := by decide +kernel
theorem dX4_heardAt_28 : decode cX4_heardAt 28 = .ok (.iload_n 3, 1) := by decide +kernel
theorem dX4_heardAt_29 : decode cX4_heardAt 29 = .ok (.aload_n 0, 1) := by decide +kernel
theorem dX4_heardAt_30 : decode cX4_heardAt 30 = .ok (.getfield 40, 3) := by decide +kernel
theorem dX4_heardAt_33 : decode cX4_heardAt 33 = .ok (.if_icmp .eq 15, 3) := by decide +kernel
theorem dX4_heardAt_36 : decode cX4_heardAt 36 = .ok (.aload_n 0, 1) := by decide +kernel
theorem dX4_heardAt_37 : decode cX4_heardAt 37 = .ok (.getfield 12, 3) := by decide +kernel
theorem dX4_heardAt_40 : decode cX4_heardAt 40 = .ok (.getfield 217, 3) := by decide +kernel
theorem dX4_heardAt_43 : decode cX4_heardAt 43 = .ok (.iload_n 3, 1) := by decide +kernel
theorem dX4_heardAt_44 : decode cX4_heardAt 44 = .ok (.invokestatic 99, 3) := by decide +kernel
theorem dX4_heardAt_47 : decode cX4_heardAt 47 = .ok (.ireturn, 1) := by decide +kernel
theorem dX4_heardAt_48 : decode cX4_heardAt 48 = .ok (.iinc 3 1, 3) := by decide +kernel
theorem dX4_heardAt_51 : decode cX4_heardAt 51 = .ok (.goto (-49), 3) := by decide +kernel
theorem dX4_heardAt_54 : decode cX4_heardAt 54 = .ok (.iload_n 2, 1) := by decide +kernel
theorem dX4_heardAt_55 : decode cX4_heardAt 55 = .ok (.ireturn, 1) := by decide +kernel
theorem dX4_playByCounters_0 : decode cX4_playByCounters 0 = .ok (.iconst 0, 1) := by decide +kernel
theorem dX4_playByCounters_1 : decode cX4_playByCounters 1 = .ok (.istore_n 2, 1) := by decide +kernel
theorem dX4_playByCounters_2 : decode cX4_playByCounters 2 = .ok (.iconst 0, 1) := by decide +kernel
theorem dX4_playByCounters_3 : decode cX4_playByCounters 3 = .ok (.istore_n 3, 1) := by decide +kernel
end
section
theorem dX4_playByCounters_4 : decode cX4_playByCounters 4 = .ok (.iload_n 3, 1) := by decide +kernel
theorem dX4_playByCounters_5 : decode cX4_playByCounters 5 = .ok (.aload_n 0, 1) := by decide +kernel
theorem dX4_playByCounters_6 : decode cX4_playByCounters 6 = .ok (.getfield 12, 3) := by decide +kernel
theorem dX4_playByCounters_9 : decode cX4_playByCounters 9 = .ok (.getfield 93, 3) := by decide +kernel
theorem dX4_playByCounters_12 : decode cX4_playByCounters 12 = .ok (.if_icmp .ge 47, 3) := by decide +kernel
theorem dX4_playByCounters_15 : decode cX4_playByCounters 15 = .ok (.aload_n 0, 1) := by decide +kernel
theorem dX4_playByCounters_16 : decode cX4_playByCounters 16 = .ok (.getfield 46, 3) := by decide +kernel
theorem dX4_playByCounters_19 : decode cX4_playByCounters 19 = .ok (.iload_n 3, 1) := by decide +kernel
theorem dX4_playByCounters_20 : decode cX4_playByCounters 20 = .ok (.ishr, 1) := by decide +kernel
theorem dX4_playByCounters_21 : decode cX4_playByCounters 21 = .ok (.ifCond .eq 38, 3) := by decide +kernel
theorem dX4_playByCounters_24 : decode cX4_playByCounters 24 = .ok (.aload_n 0, 1) := by decide +kernel
theorem dX4_playByCounters_25 : decode cX4_playByCounters 25 = .ok (.getfield 46, 3) := by decide +kernel
theorem dX4_playByCounters_28 : decode cX4_playByCounters 28 = .ok (.iload_n 3, 1) := by decide +kernel
theorem dX4_playByCounters_29 : decode cX4_playByCounters 29 = .ok (.ishr, 1) := by decide +kernel
theorem dX4_playByCounters_30 : decode cX4_playByCounters 30 = .ok (.iconst 1, 1) := by decide +kernel
theorem dX4_playByCounters_31 : decode cX4_playByCounters 31 = .ok (.iand, 1) := by decide +kernel
theorem dX4_playByCounters_32 : decode cX4_playByCounters 32 = .ok (.iconst 1, 1) := by decide +kernel
theorem dX4_playByCounters_33 : decode cX4_playByCounters 33 = .ok (.if_icmp .ne 20, 3) := by decide +kernel
theorem dX4_playByCounters_36 : decode cX4_playByCounters 36 = .ok (.aload_n 0, 1) := by decide +kernel
theorem dX4_playByCounters_37 : decode cX4_playByCounters 37 = .ok (.getfield 25, 3) := by decide +kernel
theorem dX4_playByCounters_40 : decode cX4_playByCounters 40 = .ok (.iload_n 3, 1) := by decide +kernel
theorem dX4_playByCounters_41 : decode cX4_playByCounters 41 = .ok (.invokestatic 99, 3) := by decide +kernel
theorem dX4_playByCounters_44 : decode cX4_playByCounters 44 = .ok (.ifCond .ne 9, 3) := by decide +kernel
theorem dX4_playByCounters_47 : decode cX4_playByCounters 47 = .ok (.iload_n 2, 1) := by decide +kernel
theorem dX4_playByCounters_48 : decode cX4_playByCounters 48 = .ok (.iconst 1, 1) := by decide +kernel
theorem dX4_playByCounters_49 : decode cX4_playByCounters 49 = .ok (.iload_n 3, 1) := by decide +kernel
theorem dX4_playByCounters_50 : decode cX4_playByCounters 50 = .ok (.ishl, 1) := by decide +kernel
theorem dX4_playByCounters_51 : decode cX4_playByCounters 51 = .ok (.ior, 1) := by decide +kernel
theorem dX4_playByCounters_52 : decode cX4_playByCounters 52 = .ok (.istore_n 2, 1) := by decide +kernel
theorem dX4_playByCounters_53 : decode cX4_playByCounters 53 = .ok (.iinc 3 1, 3) := by decide +kernel
theorem dX4_playByCounters_56 : decode cX4_playByCounters 56 = .ok (.goto (-52), 3) := by decide +kernel
theorem dX4_playByCounters_59 : decode cX4_playByCounters 59 = .ok (.aload_n 0, 1) := by decide +kernel
theorem dX4_playByCounters_60 : decode cX4_playByCounters 60 = .ok (.iload_n 1, 1) := by decide +kernel
theorem dX4_playByCounters_61 : decode cX4_playByCounters 61 = .ok (.iload_n 2, 1) := by decide +kernel
theorem dX4_playByCounters_62 : decode cX4_playByCounters 62 = .ok (.invokevirtual 110, 3) := by decide +kernel
theorem dX4_playByCounters_65 : decode cX4_playByCounters 65 = .ok (.istore_n 3, 1) := by decide +kernel
theorem dX4_playByCounters_66 : decode cX4_playByCounters 66 = .ok (.iconst (-1), 1) := by decide +kernel
theorem dX4_playByCounters_67 : decode cX4_playByCounters 67 = .ok (.istore 4, 2) := by decide +kernel
theorem dX4_playByCounters_69 : decode cX4_playByCounters 69 = .ok (.iconst 0, 1) := by decide +kernel
theorem dX4_playByCounters_70 : decode cX4_playByCounters 70 = .ok (.istore 5, 2) := by decide +kernel
theorem dX4_playByCounters_72 : decode cX4_playByCounters 72 = .ok (.iload 5, 2) := by decide +kernel
theorem dX4_playByCounters_74 : decode cX4_playByCounters 74 = .ok (.aload_n 0, 1) := by decide +kernel
theorem dX4_playByCounters_75 : decode cX4_playByCounters 75 = .ok (.getfield 12, 3) := by decide +kernel
theorem dX4_playByCounters_78 : decode cX4_playByCounters 78 = .ok (.getfield 93, 3) := by decide +kernel
theorem dX4_playByCounters_81 : decode cX4_playByCounters 81 = .ok (.if_icmp .ge 88, 3) := by decide +kernel
theorem dX4_playByCounters_84 : decode cX4_playByCounters 84 = .ok (.aload_n 0, 1) := by decide +kernel
theorem dX4_playByCounters_85 : decode cX4_playByCounters 85 = .ok (.getfield 46, 3) := by decide +kernel
theorem dX4_playByCounters_88 : decode cX4_playByCounters 88 = .ok (.iload 5, 2) := by decide +kernel
theorem dX4_playByCounters_90 : decode cX4_playByCounters 90 = .ok (.ishr, 1) := by decide +kernel
theorem dX4_playByCounters_91 : decode cX4_playByCounters 91 = .ok (.ifCond .eq 78, 3) := by decide +kernel
theorem dX4_playByCounters_94 : decode cX4_playByCounters 94 = .ok (.aload_n 0, 1) := by decide +kernel
theorem dX4_playByCounters_95 : decode cX4_playByCounters 95 = .ok (.getfield 46, 3) := by decide +kernel
theorem dX4_playByCounters_98 : decode cX4_playByCounters 98 = .ok (.iload 5, 2) := by decide +kernel
theorem dX4_playByCounters_100 : decode cX4_playByCounters 100 = .ok (.ishr, 1) := by decide +kernel
theorem dX4_playByCounters_101 : decode cX4_playByCounters 101 = .ok (.iconst 1, 1) := by decide +kernel
theorem dX4_playByCounters_102 : decode cX4_playByCounters 102 = .ok (.iand, 1) := by decide +kernel
theorem dX4_playByCounters_103 : decode cX4_playByCounters 103 = .ok (.iconst 1, 1) := by decide +kernel
theorem dX4_playByCounters_104 : decode cX4_playByCounters 104 = .ok (.if_icmp .ne 59, 3) := by decide +kernel
theorem dX4_playByCounters_107 : decode cX4_playByCounters 107 = .ok (.aload_n 0, 1) := by decide +kernel
theorem dX4_playByCounters_108 : decode cX4_playByCounters 108 = .ok (.getfield 25, 3) := by decide +kernel
theorem dX4_playByCounters_111 : decode cX4_playByCounters 111 = .ok (.iload 5, 2) := by decide +kernel
theorem dX4_playByCounters_113 : decode cX4_playByCounters 113 = .ok (.aload_n 0, 1) := by decide +kernel
theorem dX4_playByCounters_114 : decode cX4_playByCounters 114 = .ok (.iload 5, 2) := by decide +kernel
theorem dX4_playByCounters_116 : decode cX4_playByCounters 116 = .ok (.iload_n 2, 1) := by decide +kernel
theorem dX4_playByCounters_117 : decode cX4_playByCounters 117 = .ok (.iload 5, 2) := by decide +kernel
theorem dX4_playByCounters_119 : decode cX4_playByCounters 119 = .ok (.ishr, 1) := by decide +kernel
theorem dX4_playByCounters_120 : decode cX4_playByCounters 120 = .ok (.iconst 1, 1) := by decide +kernel
theorem dX4_playByCounters_121 : decode cX4_playByCounters 121 = .ok (.iand, 1) := by decide +kernel
theorem dX4_playByCounters_122 : decode cX4_playByCounters 122 = .ok (.iconst 1, 1) := by decide +kernel
theorem dX4_playByCounters_123 : decode cX4_playByCounters 123 = .ok (.if_icmp .ne 7, 3) := by decide +kernel
theorem dX4_playByCounters_126 : decode cX4_playByCounters 126 = .ok (.iconst 1, 1) := by decide +kernel
theorem dX4_playByCounters_127 : decode cX4_playByCounters 127 = .ok (.goto 4, 3) := by decide +kernel
theorem dX4_playByCounters_130 : decode cX4_playByCounters 130 = .ok (.iconst 0, 1) := by decide +kernel
theorem dX4_playByCounters_131 : decode cX4_playByCounters 131 = .ok (.iload_n 3, 1) := by decide +kernel
theorem dX4_playByCounters_132 : decode cX4_playByCounters 132 = .ok (.iconst 2, 1) := by decide +kernel
theorem dX4_playByCounters_133 : decode cX4_playByCounters 133 = .ok (.if_icmp .ne 7, 3) := by decide +kernel
theorem dX4_playByCounters_136 : decode cX4_playByCounters 136 = .ok (.iconst 1, 1) := by decide +kernel
theorem dX4_playByCounters_137 : decode cX4_playByCounters 137 = .ok (.goto 4, 3) := by decide +kernel
theorem dX4_playByCounters_140 : decode cX4_playByCounters 140 = .ok (.iconst 0, 1) := by decide +kernel
theorem dX4_playByCounters_141 : decode cX4_playByCounters 141 = .ok (.invokevirtual 220, 3) := by decide +kernel
theorem dX4_playByCounters_144 : decode cX4_playByCounters 144 = .ok (.invokestatic 127, 3) := by decide +kernel
theorem dX4_playByCounters_147 : decode cX4_playByCounters 147 = .ok (.iload 4, 2) := by decide +kernel
theorem dX4_playByCounters_149 : decode cX4_playByCounters 149 = .ok (.aload_n 0, 1) := by decide +kernel
theorem dX4_playByCounters_150 : decode cX4_playByCounters 150 = .ok (.getfield 25, 3) := by decide +kernel
theorem dX4_playByCounters_153 : decode cX4_playByCounters 153 = .ok (.iload 5, 2) := by decide +kernel
theorem dX4_playByCounters_155 : decode cX4_playByCounters 155 = .ok (.invokestatic 99, 3) := by decide +kernel
theorem dX4_playByCounters_158 : decode cX4_playByCounters 158 = .ok (.invokestatic 224, 3) := by decide +kernel
theorem dX4_playByCounters_161 : decode cX4_playByCounters 161 = .ok (.istore 4, 2) := by decide +kernel
theorem dX4_playByCounters_163 : decode cX4_playByCounters 163 = .ok (.iinc 5 1, 3) := by decide +kernel
theorem dX4_playByCounters_166 : decode cX4_playByCounters 166 = .ok (.goto (-94), 3) := by decide +kernel
theorem dX4_playByCounters_169 : decode cX4_playByCounters 169 = .ok (.aload_n 0, 1) := by decide +kernel
theorem dX4_playByCounters_170 : decode cX4_playByCounters 170 = .ok (.getfield 32, 3) := by decide +kernel
theorem dX4_playByCounters_173 : decode cX4_playByCounters 173 = .ok (.getfield 134, 3) := by decide +kernel
theorem dX4_playByCounters_176 : decode cX4_playByCounters 176 = .ok (.iload_n 1, 1) := by decide +kernel
theorem dX4_playByCounters_177 : decode cX4_playByCounters 177 = .ok (.iload 4, 2) := by decide +kernel
theorem dX4_playByCounters_179 : decode cX4_playByCounters 179 = .ok (.iconst 1, 1) := by decide +kernel
theorem dX4_playByCounters_180 : decode cX4_playByCounters 180 = .ok (.iadd, 1) := by decide +kernel
theorem dX4_playByCounters_181 : decode cX4_playByCounters 181 = .ok (.invokestatic 127, 3) := by decide +kernel
theorem dX4_playByCounters_184 : decode cX4_playByCounters 184 = .ok (.return_, 1) := by decide +kernel
theorem dX4_counterBehind_0 : decode cX4_counterBehind 0 = .ok (.aload_n 0, 1) := by decide +kernel
theorem dX4_counterBehind_1 : decode cX4_counterBehind 1 = .ok (.getfield 25, 3) := by decide +kernel
theorem dX4_counterBehind_4 : decode cX4_counterBehind 4 = .ok (.iload_n 1, 1) := by decide +kernel
theorem dX4_counterBehind_5 : decode cX4_counterBehind 5 = .ok (.invokestatic 99, 3) := by decide +kernel
theorem dX4_counterBehind_8 : decode cX4_counterBehind 8 = .ok (.istore 4, 2) := by decide +kernel
theorem dX4_counterBehind_10 : decode cX4_counterBehind 10 = .ok (.iload_n 2, 1) := by decide +kernel
theorem dX4_counterBehind_11 : decode cX4_counterBehind 11 = .ok (.ifCond .eq 18, 3) := by decide +kernel
theorem dX4_counterBehind_14 : decode cX4_counterBehind 14 = .ok (.iload_n 3, 1) := by decide +kernel
theorem dX4_counterBehind_15 : decode cX4_counterBehind 15 = .ok (.ifCond .eq 11, 3) := by decide +kernel
theorem dX4_counterBehind_18 : decode cX4_counterBehind 18 = .ok (.aload_n 0, 1) := by decide +kernel
theorem dX4_counterBehind_19 : decode cX4_counterBehind 19 = .ok (.iload_n 1, 1) := by decide +kernel
theorem dX4_counterBehind_20 : decode cX4_counterBehind 20 = .ok (.invokevirtual 179, 3) := by decide +kernel
theorem dX4_counterBehind_23 : decode cX4_counterBehind 23 = .ok (.goto 5, 3) := by decide +kernel
theorem dX4_counterBehind_26 : decode cX4_counterBehind 26 = .ok (.iload 4, 2) := by decide +kernel
theorem dX4_counterBehind_28 : decode cX4_counterBehind 28 = .ok (.ireturn, 1) := by decide +kernel
theorem dX4_counterBehind_29 : decode cX4_counterBehind 29 = .ok (.iload_n 3, 1) := by decide +kernel
theorem dX4_counterBehind_30 : decode cX4_counterBehind 30 = .ok (.ifCond .eq 10, 3) := by decide +kernel
theorem dX4_counterBehind_33 : decode cX4_counterBehind 33 = .ok (.iload 4, 2) := by decide +kernel
theorem dX4_counterBehind_35 : decode cX4_counterBehind 35 = .ok (.iconst 1, 1) := by decide +kernel
theorem dX4_counterBehind_36 : decode cX4_counterBehind 36 = .ok (.iadd, 1) := by decide +kernel
theorem dX4_counterBehind_37 : decode cX4_counterBehind 37 = .ok (.goto 7, 3) := by decide +kernel
theorem dX4_counterBehind_40 : decode cX4_counterBehind 40 = .ok (.iload 4, 2) := by decide +kernel
theorem dX4_counterBehind_42 : decode cX4_counterBehind 42 = .ok (.iconst 1, 1) := by decide +kernel
theorem dX4_counterBehind_43 : decode cX4_counterBehind 43 = .ok (.isub, 1) := by decide +kernel
theorem dX4_counterBehind_44 : decode cX4_counterBehind 44 = .ok (.ireturn, 1) := by decide +kernel
theorem dX5_init_0 : decode cX5_init 0 = .ok (.aload_n 0, 1) := by decide +kernel
theorem dX5_init_1 : decode cX5_init 1 = .ok (.invokespecial 3, 3) := by decide +kernel
theorem dX5_init_4 : decode cX5_init 4 = .ok (.aload_n 0, 1) := by decide +kernel
theorem dX5_init_5 : decode cX5_init 5 = .ok (.new 9, 3) := by decide +kernel
theorem dX5_init_8 : decode cX5_init 8 = .ok (.dup, 1) := by decide +kernel
theorem dX5_init_9 : decode cX5_init 9 = .ok (.invokespecial 11, 3) := by decide +kernel
theorem dX5_init_12 : decode cX5_init 12 = .ok (.putfield 12, 3) := by decide +kernel
theorem dX5_init_15 : decode cX5_init 15 = .ok (.aload_n 0, 1) := by decide +kernel
theorem dX5_init_16 : decode cX5_init 16 = .ok (.new 18, 3) := by decide +kernel
theorem dX5_init_19 : decode cX5_init 19 = .ok (.dup, 1) := by decide +kernel
theorem dX5_init_20 : decode cX5_init 20 = .ok (.invokespecial 20, 3) := by decide +kernel
theorem dX5_init_23 : decode cX5_init 23 = .ok (.putfield 21, 3) := by decide +kernel
theorem dX5_init_26 : decode cX5_init 26 = .ok (.aload_n 0, 1) := by decide +kernel
theorem dX5_init_27 : decode cX5_init 27 = .ok (.iconst (-1), 1) := by decide +kernel
theorem dX5_init_28 : decode cX5_init 28 = .ok (.putfield 25, 3) := by decide +kernel
theorem dX5_init_31 : decode cX5_init 31 = .ok (.return_, 1) := by decide +kernel
theorem dX5_read_0 : decode cX5_read 0 = .ok (.aload_n 0, 1) := by decide +kernel
theorem dX5_read_1 : decode cX5_read 1 = .ok (.getfield 21, 3) := by decide +kernel
theorem dX5_read_4 : decode cX5_read 4 = .ok (.invokevirtual 29, 3) := by decide +kernel
theorem dX5_read_7 : decode cX5_read 7 = .ok (.aload_n 0, 1) := by decide +kernel
theorem dX5_read_8 : decode cX5_read 8 = .ok (.iconst 0, 1) := by decide +kernel
theorem dX5_read_9 : decode cX5_read 9 = .ok (.putfield 32, 3) := by decide +kernel
theorem dX5_read_12 : decode cX5_read 12 = .ok (.aload_n 0, 1) := by decide +kernel
theorem dX5_read_13 : decode cX5_read 13 = .ok (.iconst (-1), 1) := by decide +kernel
theorem dX5_read_14 : decode cX5_read 14 = .ok (.putfield 25, 3) := by decide +kernel
theorem dX5_read_17 : decode cX5_read 17 = .ok (.aload_n 0, 1) := by decide +kernel
theorem dX5_read_18 : decode cX5_read 18 = .ok (.iconst 0, 1) := by decide +kernel
theorem dX5_read_19 : decode cX5_read 19 = .ok (.putfield 35, 3) := by decide +kernel
theorem dX5_read_22 : decode cX5_read 22 = .ok (.iconst 0, 1) := by decide +kernel
theorem dX5_read_23 : decode cX5_read 23 = .ok (.istore_n 1, 1) := by decide +kernel
theorem dX5_read_24 : decode cX5_read 24 = .ok (.iload_n 1, 1) := by decide +kernel
theorem dX5_read_25 : decode cX5_read 25 = .ok (.sipush 500, 3) := by decide +kernel
theorem dX5_read_28 : decode cX5_read 28 = .ok (.if_icmp .gt 44, 3) := by decide +kernel
theorem dX5_read_31 : decode cX5_read 31 = .ok (.aload_n 0, 1) := by decide +kernel
theorem dX5_read_32 : decode cX5_read 32 = .ok (.invokevirtual 38, 3) := by decide +kernel
theorem dX5_read_35 : decode cX5_read 35 = .ok (.aload_n 0, 1) := by decide +kernel
theorem dX5_read_36 : decode cX5_read 36 = .ok (.getfield 41, 3) := by decide +kernel
theorem dX5_read_39 : decode cX5_read 39 = .ok (.ifCond .ne 5, 3) := by decide +kernel
theorem dX5_read_42 : decode cX5_read 42 = .ok (.iconst 1, 1) := by decide +kernel
theorem dX5_read_43 : decode cX5_read 43 = .ok (.ireturn, 1) := by decide +kernel
theorem dX5_read_44 : decode cX5_read 44 = .ok (.aload_n 0, 1) := by decide +kernel
theorem dX5_read_45 : decode cX5_read 45 = .ok (.invokevirtual 44, 3) := by decide +kernel
theorem dX5_read_48 : decode cX5_read 48 = .ok (.ifCond .ne 5, 3) := by decide +kernel
theorem dX5_read_51 : decode cX5_read 51 = .ok (.iconst 0, 1) := by decide +kernel
theorem dX5_read_52 : decode cX5_read 52 = .ok (.ireturn, 1) := by decide +kernel
theorem dX5_read_53 : decode cX5_read 53 = .ok (.aload_n 0, 1) := by decide +kernel
theorem dX5_read_54 : decode cX5_read 54 = .ok (.getfield 21, 3) := by decide +kernel
theorem dX5_read_57 : decode cX5_read 57 = .ok (.dup, 1) := by decide +kernel
theorem dX5_read_58 : decode cX5_read 58 = .ok (.getfield 48, 3) := by decide +kernel
theorem dX5_read_61 : decode cX5_read 61 = .ok (.iconst 1, 1) := by decide +kernel
theorem dX5_read_62 : decode cX5_read 62 = .ok (.iadd, 1) := by decide +kernel
theorem dX5_read_63 : decode cX5_read 63 = .ok (.putfield 48, 3) := by decide +kernel
theorem dX5_read_66 : decode cX5_read 66 = .ok (.iinc 1 1, 3) := by decide +kernel
theorem dX5_read_69 : decode cX5_read 69 = .ok (.goto (-45), 3) := by decide +kernel
theorem dX5_read_72 : decode cX5_read 72 = .ok (.iconst 1, 1) := by decide +kernel
theorem dX5_read_73 : decode cX5_read 73 = .ok (.ireturn, 1) := by decide +kernel
theorem dX5_readLine_0 : decode cX5_readLine 0 = .ok (.aload_n 0, 1) := by decide +kernel
theorem dX5_readLine_1 : decode cX5_readLine 1 = .ok (.ldc 51, 2) := by decide +kernel
theorem dX5_readLine_3 : decode cX5_readLine 3 = .ok (.invokevirtual 53, 3) := by decide +kernel
theorem dX5_readLine_6 : decode cX5_readLine 6 = .ok (.ifCond .eq 26, 3) := by decide +kernel
theorem dX5_readLine_9 : decode cX5_readLine 9 = .ok (.aload_n 0, 1) := by decide +kernel
theorem dX5_readLine_10 : decode cX5_readLine 10 = .ok (.getfield 21, 3) := by decide +kernel
theorem dX5_readLine_13 : decode cX5_readLine 13 = .ok (.getfield 48, 3) := by decide +kernel
theorem dX5_readLine_16 : decode cX5_readLine 16 = .ok (.ifCond .ne 10, 3) := by decide +kernel
theorem dX5_readLine_19 : decode cX5_readLine 19 = .ok (.aload_n 0, 1) := by decide +kernel
theorem dX5_readLine_20 : decode cX5_readLine 20 = .ok (.invokevirtual 57, 3) := by decide +kernel
theorem dX5_readLine_23 : decode cX5_readLine 23 = .ok (.goto 8, 3) := by decide +kernel
theorem dX5_readLine_26 : decode cX5_readLine 26 = .ok (.aload_n 0, 1) := by decide +kernel
theorem dX5_readLine_27 : decode cX5_readLine 27 = .ok (.iconst 1, 1) := by decide +kernel
theorem dX5_readLine_28 : decode cX5_readLine 28 = .ok (.invokevirtual 60, 3) := by decide +kernel
theorem dX5_readLine_31 : decode cX5_readLine 31 = .ok (.ireturn, 1) := by decide +kernel
theorem dX5_readLine_32 : decode cX5_readLine 32 = .ok (.aload_n 0, 1) := by decide +kernel
theorem dX5_readLine_33 : decode cX5_readLine 33 = .ok (.getfield 21, 3) := by decide +kernel
theorem dX5_readLine_36 : decode cX5_readLine 36 = .ok (.getfield 48, 3) := by decide +kernel
theorem dX5_readLine_39 : decode cX5_readLine 39 = .ok (.ifCond .le 17, 3) := by decide +kernel
theorem dX5_readLine_42 : decode cX5_readLine 42 = .ok (.aload_n 0, 1) := by decide +kernel
theorem dX5_readLine_43 : decode cX5_readLine 43 = .ok (.ldc 64, 2) := by decide +kernel
theorem dX5_readLine_45 : decode cX5_readLine 45 = .ok (.invokevirtual 53, 3) := by decide +kernel
theorem dX5_readLine_48 : decode cX5_readLine 48 = .ok (.ifCond .eq 8, 3) := by decide +kernel
theorem dX5_readLine_51 : decode cX5_readLine 51 = .ok (.aload_n 0, 1) := by decide +kernel
theorem dX5_readLine_52 : decode cX5_readLine 52 = .ok (.invokevirtual 66, 3) := by decide +kernel
theorem dX5_readLine_55 : decode cX5_readLine 55 = .ok (.ireturn, 1) := by decide +kernel
theorem dX5_readLine_56 : decode cX5_readLine 56 = .ok (.aload_n 0, 1) := by decide +kernel
theorem dX5_readLine_57 : decode cX5_readLine 57 = .ok (.getfield 21, 3) := by decide +kernel
theorem dX5_readLine_60 : decode cX5_readLine 60 = .ok (.getfield 48, 3) := by decide +kernel
theorem dX5_readLine_63 : decode cX5_readLine 63 = .ok (.ifCond .le 17, 3) := by decide +kernel
theorem dX5_readLine_66 : decode cX5_readLine 66 = .ok (.aload_n 0, 1) := by decide +kernel
theorem dX5_readLine_67 : decode cX5_readLine 67 = .ok (.ldc 69, 2) := by decide +kernel
theorem dX5_readLine_69 : decode cX5_readLine 69 = .ok (.invokevirtual 53, 3) := by decide +kernel
theorem dX5_readLine_72 : decode cX5_readLine 72 = .ok (.ifCond .eq 8, 3) := by decide +kernel
theorem dX5_readLine_75 : decode cX5_readLine 75 = .ok (.aload_n 0, 1) := by decide +kernel
theorem dX5_readLine_76 : decode cX5_readLine 76 = .ok (.invokevirtual 71, 3) := by decide +kernel
theorem dX5_readLine_79 : decode cX5_readLine 79 = .ok (.ireturn, 1) := by decide +kernel
theorem dX5_readLine_80 : decode cX5_readLine 80 = .ok (.aload_n 0, 1) := by decide +kernel
theorem dX5_readLine_81 : decode cX5_readLine 81 = .ok (.iconst 1, 1) := by decide +kernel
theorem dX5_readLine_82 : decode cX5_readLine 82 = .ok (.invokevirtual 60, 3) := by decide +kernel
theorem dX5_readLine_85 : decode cX5_readLine 85 = .ok (.ireturn, 1) := by decide +kernel
theorem dX5_readChannel_0 : decode cX5_readChannel 0 = .ok (.aload_n 0, 1) := by decide +kernel
theorem dX5_readChannel_1 : decode cX5_readChannel 1 = .ok (.ldc 74, 2) := by decide +kernel
theorem dX5_readChannel_3 : decode cX5_readChannel 3 = .ok (.invokevirtual 76, 3) := by decide +kernel
theorem dX5_readChannel_6 : decode cX5_readChannel 6 = .ok (.ifCond .eq 12, 3) := by decide +kernel
theorem dX5_readChannel_9 : decode cX5_readChannel 9 = .ok (.aload_n 0, 1) := by decide +kernel
theorem dX5_readChannel_10 : decode cX5_readChannel 10 = .ok (.iconst 0, 1) := by decide +kernel
theorem dX5_readChannel_11 : decode cX5_readChannel 11 = .ok (.iconst 3, 1) := by decide +kernel
theorem dX5_readChannel_12 : decode cX5_readChannel 12 = .ok (.invokevirtual 79, 3) := by decide +kernel
theorem dX5_readChannel_15 : decode cX5_readChannel 15 = .ok (.ifCond .ne 5, 3) := by decide +kernel
theorem dX5_readChannel_18 : decode cX5_readChannel 18 = .ok (.iconst 0, 1) := by decide +kernel
theorem dX5_readChannel_19 : decode cX5_readChannel 19 = .ok (.ireturn, 1) := by decide +kernel
theorem dX5_readChannel_20 : decode cX5_readChannel 20 = .ok (.aload_n 0, 1) := by decide +kernel
theorem dX5_readChannel_21 : decode cX5_readChannel 21 = .ok (.getfield 21, 3) := by decide +kernel
theorem dX5_readChannel_24 : decode cX5_readChannel 24 = .ok (.aload_n 0, 1) := by decide +kernel
theorem dX5_readChannel_25 : decode cX5_readChannel 25 = .ok (.getfield 83, 3) := by decide +kernel
theorem dX5_readChannel_28 : decode cX5_readChannel 28 = .ok (.putfield 86, 3) := by decide +kernel
theorem dX5_readChannel_31 : decode cX5_readChannel 31 = .ok (.aload_n 0, 1) := by decide +kernel
theorem dX5_readChannel_32 : decode cX5_readChannel 32 = .ok (.ldc 88, 2) := by decide +kernel
theorem dX5_readChannel_34 : decode cX5_readChannel 34 = .ok (.invokevirtual 76, 3) := by decide +kernel
theorem dX5_readChannel_37 : decode cX5_readChannel 37 = .ok (.ifCond .eq 14, 3) := by decide +kernel
theorem dX5_readChannel_40 : decode cX5_readChannel 40 = .ok (.aload_n 0, 1) := by decide +kernel
theorem dX5_readChannel_41 : decode cX5_readChannel 41 = .ok (.iconst 1, 1) := by decide +kernel
theorem dX5_readChannel_42 : decode cX5_readChannel 42 = .ok (.sipush 200, 3) := by decide +kernel
theorem dX5_readChannel_45 : decode cX5_readChannel 45 = .ok (.invokevirtual 79, 3) := by decide +kernel
theorem dX5_readChannel_48 : decode cX5_readChannel 48 = .ok (.ifCond .ne 5, 3) := by decide +kernel
theorem dX5_readChannel_51 : decode cX5_readChannel 51 = .ok (.iconst 0, 1) := by decide +kernel
theorem dX5_readChannel_52 : decode cX5_readChannel 52 = .ok (.ireturn, 1) := by decide +kernel
theorem dX5_readChannel_53 : decode cX5_readChannel 53 = .ok (.aload_n 0, 1) := by decide +kernel
theorem dX5_readChannel_54 : decode cX5_readChannel 54 = .ok (.getfield 21, 3) := by decide +kernel
theorem dX5_readChannel_57 : decode cX5_readChannel 57 = .ok (.aload_n 0, 1) := by decide +kernel
theorem dX5_readChannel_58 : decode cX5_readChannel 58 = .ok (.getfield 83, 3) := by decide +kernel
theorem dX5_readChannel_61 : decode cX5_readChannel 61 = .ok (.putfield 90, 3) := by decide +kernel
theorem dX5_readChannel_64 : decode cX5_readChannel 64 = .ok (.aload_n 0, 1) := by decide +kernel
theorem dX5_readChannel_65 : decode cX5_readChannel 65 = .ok (.ldc 92, 2) := by decide +kernel
theorem dX5_readChannel_67 : decode cX5_readChannel 67 = .ok (.invokevirtual 76, 3) := by decide +kernel
theorem dX5_readChannel_70 : decode cX5_readChannel 70 = .ok (.ifCond .eq 13, 3) := by decide +kernel
theorem dX5_readChannel_73 : decode cX5_readChannel 73 = .ok (.aload_n 0, 1) := by decide +kernel
theorem dX5_readChannel_74 : decode cX5_readChannel 74 = .ok (.iconst 0, 1) := by decide +kernel
theorem dX5_readChannel_75 : decode cX5_readChannel 75 = .ok (.bipush 9, 2) := by decide +kernel
theorem dX5_readChannel_77 : decode cX5_readChannel 77 = .ok (.invokevirtual 79, 3) := by decide +kernel
theorem dX5_readChannel_80 : decode cX5_readChannel 80 = .ok (.ifCond .ne 5, 3) := by decide +kernel
theorem dX5_readChannel_83 : decode cX5_readChannel 83 = .ok (.iconst 0, 1) := by decide +kernel
theorem dX5_readChannel_84 : decode cX5_readChannel 84 = .ok (.ireturn, 1) := by decide +kernel
theorem dX5_readChannel_85 : decode cX5_readChannel 85 = .ok (.aload_n 0, 1) := by decide +kernel
theorem dX5_readChannel_86 : decode cX5_readChannel 86 = .ok (.getfield 21, 3) := by decide +kernel
theorem dX5_readChannel_89 : decode cX5_readChannel 89 = .ok (.aload_n 0, 1) := by decide +kernel
theorem dX5_readChannel_90 : decode cX5_readChannel 90 = .ok (.getfield 83, 3) := by decide +kernel
theorem dX5_readChannel_93 : decode cX5_readChannel 93 = .ok (.putfield 94, 3) := by decide +kernel
theorem dX5_readChannel_96 : decode cX5_readChannel 96 = .ok (.aload_n 0, 1) := by decide +kernel
theorem dX5_readChannel_97 : decode cX5_readChannel 97 = .ok (.ldc 96, 2) := by decide +kernel
theorem dX5_readChannel_99 : decode cX5_readChannel 99 = .ok (.invokevirtual 76, 3) := by decide +kernel
theorem dX5_readChannel_102 : decode cX5_readChannel 102 = .ok (.ifCond .eq 13, 3) := by decide +kernel
theorem dX5_readChannel_105 : decode cX5_readChannel 105 = .ok (.aload_n 0, 1) := by decide +kernel
theorem dX5_readChannel_106 : decode cX5_readChannel 106 = .ok (.iconst 1, 1) := by decide +kernel
theorem dX5_readChannel_107 : decode cX5_readChannel 107 = .ok (.bipush 20, 2) := by decide +kernel
theorem dX5_readChannel_109 : decode cX5_readChannel 109 = .ok (.invokevirtual 79, 3) := by decide +kernel
theorem dX5_readChannel_112 : decode cX5_readChannel 112 = .ok (.ifCond .ne 5, 3) := by decide +kernel
theorem dX5_readChannel_115 : decode cX5_readChannel 115 = .ok (.iconst 0, 1) := by decide +kernel
theorem dX5_readChannel_116 : decode cX5_readChannel 116 = .ok (.ireturn, 1) := by decide +kernel
theorem dX5_readChannel_117 : decode cX5_readChannel 117 = .ok (.aload_n 0, 1) := by decide +kernel
theorem dX5_readChannel_118 : decode cX5_readChannel 118 = .ok (.getfield 21, 3) := by decide +kernel
theorem dX5_readChannel_121 : decode cX5_readChannel 121 = .ok (.aload_n 0, 1) := by decide +kernel
theorem dX5_readChannel_122 : decode cX5_readChannel 122 = .ok (.getfield 83, 3) := by decide +kernel
theorem dX5_readChannel_125 : decode cX5_readChannel 125 = .ok (.putfield 98, 3) := by decide +kernel
theorem dX5_readChannel_128 : decode cX5_readChannel 128 = .ok (.aload_n 0, 1) := by decide +kernel
theorem dX5_readChannel_129 : decode cX5_readChannel 129 = .ok (.invokevirtual 100, 3) := by decide +kernel
theorem dX5_readChannel_132 : decode cX5_readChannel 132 = .ok (.ireturn, 1) := by decide +kernel
theorem dX5_readSender_0 : decode cX5_readSender 0 = .ok (.aload_n 0, 1) := by decide +kernel
theorem dX5_readSender_1 : decode cX5_readSender 1 = .ok (.getfield 21, 3) := by decide +kernel
theorem dX5_readSender_4 : decode cX5_readSender 4 = .ok (.getfield 103, 3) := by decide +kernel
theorem dX5_readSender_7 : decode cX5_readSender 7 = .ok (.bipush 10, 2) := by decide +kernel
theorem dX5_readSender_9 : decode cX5_readSender 9 = .ok (.if_icmp .lt 9, 3) := by decide +kernel
theorem dX5_readSender_12 : decode cX5_readSender 12 = .ok (.aload_n 0, 1) := by decide +kernel
theorem dX5_readSender_13 : decode cX5_readSender 13 = .ok (.iconst 3, 1) := by decide +kernel
theorem dX5_readSender_14 : decode cX5_readSender 14 = .ok (.invokevirtual 60, 3) := by decide +kernel
theorem dX5_readSender_17 : decode cX5_readSender 17 = .ok (.ireturn, 1) := by decide +kernel
theorem dX5_readSender_18 : decode cX5_readSender 18 = .ok (.aload_n 0, 1) := by decide +kernel
theorem dX5_readSender_19 : decode cX5_readSender 19 = .ok (.ldc 106, 2) := by decide +kernel
theorem dX5_readSender_21 : decode cX5_readSender 21 = .ok (.invokevirtual 76, 3) := by decide +kernel
theorem dX5_readSender_24 : decode cX5_readSender 24 = .ok (.ifCond .eq 14, 3) := by decide +kernel
theorem dX5_readSender_27 : decode cX5_readSender 27 = .ok (.aload_n 0, 1) := by decide +kernel
theorem dX5_readSender_28 : decode cX5_readSender 28 = .ok (.iconst 0, 1) := by decide +kernel
theorem dX5_readSender_29 : decode cX5_readSender 29 = .ok (.sipush 199, 3) := by decide +kernel
theorem dX5_readSender_32 : decode cX5_readSender 32 = .ok (.invokevirtual 79, 3) := by decide +kernel
theorem dX5_readSender_35 : decode cX5_readSender 35 = .ok (.ifCond .ne 5, 3) := by decide +kernel
theorem dX5_readSender_38 : decode cX5_readSender 38 = .ok (.iconst 0, 1) := by decide +kernel
theorem dX5_readSender_39 : decode cX5_readSender 39 = .ok (.ireturn, 1) := by decide +kernel
theorem dX5_readSender_40 : decode cX5_readSender 40 = .ok (.aload_n 0, 1) := by decide +kernel
theorem dX5_readSender_41 : decode cX5_readSender 41 = .ok (.getfield 83, 3) := by decide +kernel
theorem dX5_readSender_44 : decode cX5_readSender 44 = .ok (.istore_n 1, 1) := by decide +kernel
theorem dX5_readSender_45 : decode cX5_readSender 45 = .ok (.aload_n 0, 1) := by decide +kernel
theorem dX5_readSender_46 : decode cX5_readSender 46 = .ok (.ldc 108, 2) := by decide +kernel
theorem dX5_readSender_48 : decode cX5_readSender 48 = .ok (.invokevirtual 76, 3) := by decide +kernel
theorem dX5_readSender_51 : decode cX5_readSender 51 = .ok (.ifCond .eq 10, 3) := by decide +kernel
theorem dX5_readSender_54 : decode cX5_readSender 54 = .ok (.aload_n 0, 1) := by decide +kernel
theorem dX5_readSender_55 : decode cX5_readSender 55 = .ok (.invokevirtual 110, 3) := by decide +kernel
theorem dX5_readSender_58 : decode cX5_readSender 58 = .ok (.ifCond .ne 5, 3) := by decide +kernel
theorem dX5_readSender_61 : decode cX5_readSender 61 = .ok (.iconst 0, 1) := by decide +kernel
theorem dX5_readSender_62 : decode cX5_readSender 62 = .ok (.ireturn, 1) := by decide +kernel
theorem dX5_readSender_63 : decode cX5_readSender 63 = .ok (.aload_n 0, 1) := by decide +kernel
theorem dX5_readSender_64 : decode cX5_readSender 64 = .ok (.getfield 21, 3) := by decide +kernel
theorem dX5_readSender_67 : decode cX5_readSender 67 = .ok (.iload_n 1, 1) := by decide +kernel
theorem dX5_readSender_68 : decode cX5_readSender 68 = .ok (.aload_n 0, 1) := by decide +kernel
theorem dX5_readSender_69 : decode cX5_readSender 69 = .ok (.getfield 83, 3) := by decide +kernel
theorem dX5_readSender_72 : decode cX5_readSender 72 = .ok (.aload_n 0, 1) := by decide +kernel
theorem dX5_readSender_73 : decode cX5_readSender 73 = .ok (.getfield 35, 3) := by decide +kernel
theorem dX5_readSender_76 : decode cX5_readSender 76 = .ok (.aload_n 0, 1) := by decide +kernel
theorem dX5_readSender_77 : decode cX5_readSender 77 = .ok (.getfield 113, 3) := by decide +kernel
theorem dX5_readSender_80 : decode cX5_readSender 80 = .ok (.isub, 1) := by decide +kernel
theorem dX5_readSender_81 : decode cX5_readSender 81 = .ok (.invokevirtual 116, 3) := by decide +kernel
theorem dX5_readSender_84 : decode cX5_readSender 84 = .ok (.aload_n 0, 1) := by decide +kernel
theorem dX5_readSender_85 : decode cX5_readSender 85 = .ok (.invokevirtual 100, 3) := by decide +kernel
theorem dX5_readSender_88 : decode cX5_readSender 88 = .ok (.ireturn, 1) := by decide +kernel
theorem dX5_readNoise_0 : decode cX5_readNoise 0 = .ok (.aload_n 0, 1) := by decide +kernel
theorem dX5_readNoise_1 : decode cX5_readNoise 1 = .ok (.getfield 21, 3) := by decide +kernel
theorem dX5_readNoise_4 : decode cX5_readNoise 4 = .ok (.getfield 120, 3) := by decide +kernel
theorem dX5_readNoise_7 : decode cX5_readNoise 7 = .ok (.bipush 10, 2) := by decide +kernel
theorem dX5_readNoise_9 : decode cX5_readNoise 9 = .ok (.if_icmp .lt 9, 3) := by decide +kernel
theorem dX5_readNoise_12 : decode cX5_readNoise 12 = .ok (.aload_n 0, 1) := by decide +kernel
theorem dX5_readNoise_13 : decode cX5_readNoise 13 = .ok (.iconst 3, 1) := by decide +kernel
theorem dX5_readNoise_14 : decode cX5_readNoise 14 = .ok (.invokevirtual 60, 3) := by decide +kernel
theorem dX5_readNoise_17 : decode cX5_readNoise 17 = .ok (.ireturn, 1) := by decide +kernel
theorem dX5_readNoise_18 : decode cX5_readNoise 18 = .ok (.aload_n 0, 1) := by decide +kernel
theorem dX5_readNoise_19 : decode cX5_readNoise 19 = .ok (.ldc 106, 2) := by decide +kernel
theorem dX5_readNoise_21 : decode cX5_readNoise 21 = .ok (.invokevirtual 76, 3) := by decide +kernel
theorem dX5_readNoise_24 : decode cX5_readNoise 24 = .ok (.ifCond .eq 14, 3) := by decide +kernel
theorem dX5_readNoise_27 : decode cX5_readNoise 27 = .ok (.aload_n 0, 1) := by decide +kernel
theorem dX5_readNoise_28 : decode cX5_readNoise 28 = .ok (.iconst 0, 1) := by decide +kernel
theorem dX5_readNoise_29 : decode cX5_readNoise 29 = .ok (.sipush 199, 3) := by decide +kernel
theorem dX5_readNoise_32 : decode cX5_readNoise 32 = .ok (.invokevirtual 79, 3) := by decide +kernel
theorem dX5_readNoise_35 : decode cX5_readNoise 35 = .ok (.ifCond .ne 5, 3) := by decide +kernel
theorem dX5_readNoise_38 : decode cX5_readNoise 38 = .ok (.iconst 0, 1) := by decide +kernel
theorem dX5_readNoise_39 : decode cX5_readNoise 39 = .ok (.ireturn, 1) := by decide +kernel
theorem dX5_readNoise_40 : decode cX5_readNoise 40 = .ok (.aload_n 0, 1) := by decide +kernel
theorem dX5_readNoise_41 : decode cX5_readNoise 41 = .ok (.getfield 21, 3) := by decide +kernel
theorem dX5_readNoise_44 : decode cX5_readNoise 44 = .ok (.aload_n 0, 1) := by decide +kernel
theorem dX5_readNoise_45 : decode cX5_readNoise 45 = .ok (.getfield 83, 3) := by decide +kernel
theorem dX5_readNoise_48 : decode cX5_readNoise 48 = .ok (.invokevirtual 123, 3) := by decide +kernel
theorem dX5_readNoise_51 : decode cX5_readNoise 51 = .ok (.ifCond .eq 9, 3) := by decide +kernel
theorem dX5_readNoise_54 : decode cX5_readNoise 54 = .ok (.aload_n 0, 1) := by decide +kernel
theorem dX5_readNoise_55 : decode cX5_readNoise 55 = .ok (.iconst 2, 1) := by decide +kernel
theorem dX5_readNoise_56 : decode cX5_readNoise 56 = .ok (.invokevirtual 60, 3) := by decide +kernel
theorem dX5_readNoise_59 : decode cX5_readNoise 59 = .ok (.ireturn, 1) := by decide +kernel
theorem dX5_readNoise_60 : decode cX5_readNoise 60 = .ok (.aload_n 0, 1) := by decide +kernel
theorem dX5_readNoise_61 : decode cX5_readNoise 61 = .ok (.getfield 83, 3) := by decide +kernel
theorem dX5_readNoise_64 : decode cX5_readNoise 64 = .ok (.istore_n 1, 1) := by decide +kernel
theorem dX5_readNoise_65 : decode cX5_readNoise 65 = .ok (.aload_n 0, 1) := by decide +kernel
theorem dX5_readNoise_66 : decode cX5_readNoise 66 = .ok (.ldc 126, 2) := by decide +kernel
theorem dX5_readNoise_68 : decode cX5_readNoise 68 = .ok (.invokevirtual 76, 3) := by decide +kernel
theorem dX5_readNoise_71 : decode cX5_readNoise 71 = .ok (.ifCond .eq 10, 3) := by decide +kernel
theorem dX5_readNoise_74 : decode cX5_readNoise 74 = .ok (.aload_n 0, 1) := by decide +kernel
theorem dX5_readNoise_75 : decode cX5_readNoise 75 = .ok (.invokevirtual 128, 3) := by decide +kernel
theorem dX5_readNoise_78 : decode cX5_readNoise 78 = .ok (.ifCond .ne 5, 3) := by decide +kernel
theorem dX5_readNoise_81 : decode cX5_readNoise 81 = .ok (.iconst 0, 1) := by decide +kernel
theorem dX5_readNoise_82 : decode cX5_readNoise 82 = .ok (.ireturn, 1) := by decide +kernel
theorem dX5_readNoise_83 : decode cX5_readNoise 83 = .ok (.aload_n 0, 1) := by decide +kernel
theorem dX5_readNoise_84 : decode cX5_readNoise 84 = .ok (.getfield 21, 3) := by decide +kernel
theorem dX5_readNoise_87 : decode cX5_readNoise 87 = .ok (.iload_n 1, 1) := by decide +kernel
theorem dX5_readNoise_88 : decode cX5_readNoise 88 = .ok (.aload_n 0, 1) := by decide +kernel
theorem dX5_readNoise_89 : decode cX5_readNoise 89 = .ok (.getfield 83, 3) := by decide +kernel
theorem dX5_readNoise_92 : decode cX5_readNoise 92 = .ok (.invokevirtual 131, 3) := by decide +kernel
theorem dX5_readNoise_95 : decode cX5_readNoise 95 = .ok (.aload_n 0, 1) := by decide +kernel
theorem dX5_readNoise_96 : decode cX5_readNoise 96 = .ok (.invokevirtual 100, 3) := by decide +kernel
theorem dX5_readNoise_99 : decode cX5_readNoise 99 = .ok (.ireturn, 1) := by decide +kernel
theorem dX5_readWord_0 : decode cX5_readWord 0 = .ok (.aload_n 0, 1) := by decide +kernel
theorem dX5_readWord_1 : decode cX5_readWord 1 = .ok (.invokevirtual 38, 3) := by decide +kernel
theorem dX5_readWord_4 : decode cX5_readWord 4 = .ok (.aload_n 0, 1) := by decide +kernel
theorem dX5_readWord_5 : decode cX5_readWord 5 = .ok (.aload_n 1, 1) := by decide +kernel
theorem dX5_readWord_6 : decode cX5_readWord 6 = .ok (.invokevirtual 53, 3) := by decide +kernel
theorem dX5_readWord_9 : decode cX5_readWord 9 = .ok (.ifCond .ne 11, 3) := by decide +kernel
theorem dX5_readWord_12 : decode cX5_readWord 12 = .ok (.aload_n 0, 1) := by decide +kernel
theorem dX5_readWord_13 : decode cX5_readWord 13 = .ok (.iconst 1, 1) := by decide +kernel
theorem dX5_readWord_14 : decode cX5_readWord 14 = .ok (.invokevirtual 60, 3) := by decide +kernel
theorem dX5_readWord_17 : decode cX5_readWord 17 = .ok (.ifCond .eq 7, 3) := by decide +kernel
theorem dX5_readWord_20 : decode cX5_readWord 20 = .ok (.iconst 1, 1) := by decide +kernel
theorem dX5_readWord_21 : decode cX5_readWord 21 = .ok (.goto 4, 3) := by decide +kernel
theorem dX5_readWord_24 : decode cX5_readWord 24 = .ok (.iconst 0, 1) := by decide +kernel
theorem dX5_readWord_25 : decode cX5_readWord 25 = .ok (.ireturn, 1) := by decide +kernel
theorem dX5_readNumber_0 : decode cX5_readNumber 0 = .ok (.aload_n 0, 1) := by decide +kernel
theorem dX5_readNumber_1 : decode cX5_readNumber 1 = .ok (.invokevirtual 38, 3) := by decide +kernel
theorem dX5_readNumber_4 : decode cX5_readNumber 4 = .ok (.aload_n 0, 1) := by decide +kernel
theorem dX5_readNumber_5 : decode cX5_readNumber 5 = .ok (.getfield 41, 3) := by decide +kernel
theorem dX5_readNumber_8 : decode cX5_readNumber 8 = .ok (.iconst 2, 1) := by decide +kernel
theorem dX5_readNumber_9 : decode cX5_readNumber 9 = .ok (.if_icmp .eq 9, 3) := by decide +kernel
theorem dX5_readNumber_12 : decode cX5_readNumber 12 = .ok (.aload_n 0, 1) := by decide +kernel
theorem dX5_readNumber_13 : decode cX5_readNumber 13 = .ok (.iconst 1, 1) := by decide +kernel
theorem dX5_readNumber_14 : decode cX5_readNumber 14 = .ok (.invokevirtual 60, 3) := by decide +kernel
theorem dX5_readNumber_17 : decode cX5_readNumber 17 = .ok (.ireturn, 1) := by decide +kernel
theorem dX5_readNumber_18 : decode cX5_readNumber 18 = .ok (.aload_n 0, 1) := by decide +kernel
theorem dX5_readNumber_19 : decode cX5_readNumber 19 = .ok (.iconst 0, 1) := by decide +kernel
theorem dX5_readNumber_20 : decode cX5_readNumber 20 = .ok (.putfield 83, 3) := by decide +kernel
theorem dX5_readNumber_23 : decode cX5_readNumber 23 = .ok (.aload_n 0, 1) := by decide +kernel
theorem dX5_readNumber_24 : decode cX5_readNumber 24 = .ok (.getfield 113, 3) := by decide +kernel
theorem dX5_readNumber_27 : decode cX5_readNumber 27 = .ok (.istore_n 3, 1) := by decide +kernel
theorem dX5_readNumber_28 : decode cX5_readNumber 28 = .ok (.iload_n 3, 1) := by decide +kernel
theorem dX5_readNumber_29 : decode cX5_readNumber 29 = .ok (.aload_n 0, 1) := by decide +kernel
theorem dX5_readNumber_30 : decode cX5_readNumber 30 = .ok (.getfield 35, 3) := by decide +kernel
theorem dX5_readNumber_33 : decode cX5_readNumber 33 = .ok (.if_icmp .ge 50, 3) := by decide +kernel
theorem dX5_readNumber_36 : decode cX5_readNumber 36 = .ok (.aload_n 0, 1) := by decide +kernel
theorem dX5_readNumber_37 : decode cX5_readNumber 37 = .ok (.aload_n 0, 1) := by decide +kernel
theorem dX5_readNumber_38 : decode cX5_readNumber 38 = .ok (.getfield 83, 3) := by decide +kernel
theorem dX5_readNumber_41 : decode cX5_readNumber 41 = .ok (.bipush 10, 2) := by decide +kernel
theorem dX5_readNumber_43 : decode cX5_readNumber 43 = .ok (.imul, 1) := by decide +kernel
theorem dX5_readNumber_44 : decode cX5_readNumber 44 = .ok (.aload_n 0, 1) := by decide +kernel
theorem dX5_readNumber_45 : decode cX5_readNumber 45 = .ok (.getfield 12, 3) := by decide +kernel
theorem dX5_readNumber_48 : decode cX5_readNumber 48 = .ok (.getfield 135, 3) := by decide +kernel
theorem dX5_readNumber_51 : decode cX5_readNumber 51 = .ok (.iload_n 3, 1) := by decide +kernel
theorem dX5_readNumber_52 : decode cX5_readNumber 52 = .ok (.invokestatic 139, 3) := by decide +kernel
theorem dX5_readNumber_55 : decode cX5_readNumber 55 = .ok (.iadd, 1) := by decide +kernel
theorem dX5_readNumber_56 : decode cX5_readNumber 56 = .ok (.bipush 48, 2) := by decide +kernel
theorem dX5_readNumber_58 : decode cX5_readNumber 58 = .ok (.isub, 1) := by decide +kernel
theorem dX5_readNumber_59 : decode cX5_readNumber 59 = .ok (.putfield 83, 3) := by decide +kernel
theorem dX5_readNumber_62 : decode cX5_readNumber 62 = .ok (.aload_n 0, 1) := by decide +kernel
theorem dX5_readNumber_63 : decode cX5_readNumber 63 = .ok (.getfield 83, 3) := by decide +kernel
theorem dX5_readNumber_66 : decode cX5_readNumber 66 = .ok (.ldc 142, 2) := by decide +kernel
theorem dX5_readNumber_68 : decode cX5_readNumber 68 = .ok (.if_icmp .le 9, 3) := by decide +kernel
theorem dX5_readNumber_71 : decode cX5_readNumber 71 = .ok (.aload_n 0, 1) := by decide +kernel
theorem dX5_readNumber_72 : decode cX5_readNumber 72 = .ok (.ldc 142, 2) := by decide +kernel
theorem dX5_readNumber_74 : decode cX5_readNumber 74 = .ok (.putfield 83, 3) := by decide +kernel
theorem dX5_readNumber_77 : decode cX5_readNumber 77 = .ok (.iinc 3 1, 3) := by decide +kernel
theorem dX5_readNumber_80 : decode cX5_readNumber 80 = .ok (.goto (-52), 3) := by decide +kernel
theorem dX5_readNumber_83 : decode cX5_readNumber 83 = .ok (.aload_n 0, 1) := by decide +kernel
theorem dX5_readNumber_84 : decode cX5_readNumber 84 = .ok (.getfield 83, 3) := by decide +kernel
theorem dX5_readNumber_87 : decode cX5_readNumber 87 = .ok (.iload_n 1, 1) := by decide +kernel
theorem dX5_readNumber_88 : decode cX5_readNumber 88 = .ok (.if_icmp .lt 11, 3) := by decide +kernel
theorem dX5_readNumber_91 : decode cX5_readNumber 91 = .ok (.aload_n 0, 1) := by decide +kernel
theorem dX5_readNumber_92 : decode cX5_readNumber 92 = .ok (.getfield 83, 3) := by decide +kernel
theorem dX5_readNumber_95 : decode cX5_readNumber 95 = .ok (.iload_n 2, 1) := by decide +kernel
theorem dX5_readNumber_96 : decode cX5_readNumber 96 = .ok (.if_icmp .le 11, 3) := by decide +kernel
theorem dX5_readNumber_99 : decode cX5_readNumber 99 = .ok (.aload_n 0, 1) := by decide +kernel
theorem dX5_readNumber_100 : decode cX5_readNumber 100 = .ok (.iconst 2, 1) := by decide +kernel
theorem dX5_readNumber_101 : decode cX5_readNumber 101 = .ok (.invokevirtual 60, 3) := by decide +kernel
theorem dX5_readNumber_104 : decode cX5_readNumber 104 = .ok (.ifCond .eq 7, 3) := by decide +kernel
theorem dX5_readNumber_107 : decode cX5_readNumber 107 = .ok (.iconst 1, 1) := by decide +kernel
theorem dX5_readNumber_108 : decode cX5_readNumber 108 = .ok (.goto 4, 3) := by decide +kernel
theorem dX5_readNumber_111 : decode cX5_readNumber 111 = .ok (.iconst 0, 1) := by decide +kernel
theorem dX5_readNumber_112 : decode cX5_readNumber 112 = .ok (.ireturn, 1) := by decide +kernel
theorem dX5_readBits_0 : decode cX5_readBits 0 = .ok (.aload_n 0, 1) := by decide +kernel
theorem dX5_readBits_1 : decode cX5_readBits 1 = .ok (.invokevirtual 38, 3) := by decide +kernel
theorem dX5_readBits_4 : decode cX5_readBits 4 = .ok (.aload_n 0, 1) := by decide +kernel
theorem dX5_readBits_5 : decode cX5_readBits 5 = .ok (.getfield 41, 3) := by decide +kernel
theorem dX5_readBits_8 : decode cX5_readBits 8 = .ok (.iconst 2, 1) := by decide +kernel
theorem dX5_readBits_9 : decode cX5_readBits 9 = .ok (.if_icmp .eq 9, 3) := by decide +kernel
theorem dX5_readBits_12 : decode cX5_readBits 12 = .ok (.aload_n 0, 1) := by decide +kernel
theorem dX5_readBits_13 : decode cX5_readBits 13 = .ok (.iconst 1, 1) := by decide +kernel
theorem dX5_readBits_14 : decode cX5_readBits 14 = .ok (.invokevirtual 60, 3) := by decide +kernel
theorem dX5_readBits_17 : decode cX5_readBits 17 = .ok (.ireturn, 1) := by decide +kernel
theorem dX5_readBits_18 : decode cX5_readBits 18 = .ok (.aload_n 0, 1) := by decide +kernel
theorem dX5_readBits_19 : decode cX5_readBits 19 = .ok (.getfield 35, 3) := by decide +kernel
theorem dX5_readBits_22 : decode cX5_readBits 22 = .ok (.aload_n 0, 1) := by decide +kernel
theorem dX5_readBits_23 : decode cX5_readBits 23 = .ok (.getfield 113, 3) := by decide +kernel
theorem dX5_readBits_26 : decode cX5_readBits 26 = .ok (.isub, 1) := by decide +kernel
theorem dX5_readBits_27 : decode cX5_readBits 27 = .ok (.bipush 12, 2) := by decide +kernel
theorem dX5_readBits_29 : decode cX5_readBits 29 = .ok (.if_icmp .le 9, 3) := by decide +kernel
theorem dX5_readBits_32 : decode cX5_readBits 32 = .ok (.aload_n 0, 1) := by decide +kernel
theorem dX5_readBits_33 : decode cX5_readBits 33 = .ok (.iconst 2, 1) := by decide +kernel
theorem dX5_readBits_34 : decode cX5_readBits 34 = .ok (.invokevirtual 60, 3) := by decide +kernel
theorem dX5_readBits_37 : decode cX5_readBits 37 = .ok (.ireturn, 1) := by decide +kernel
theorem dX5_readBits_38 : decode cX5_readBits 38 = .ok (.aload_n 0, 1) := by decide +kernel
theorem dX5_readBits_39 : decode cX5_readBits 39 = .ok (.iconst 0, 1) := by decide +kernel
theorem dX5_readBits_40 : decode cX5_readBits 40 = .ok (.putfield 83, 3) := by decide +kernel
theorem dX5_readBits_43 : decode cX5_readBits 43 = .ok (.aload_n 0, 1) := by decide +kernel
theorem dX5_readBits_44 : decode cX5_readBits 44 = .ok (.getfield 113, 3) := by decide +kernel
theorem dX5_readBits_47 : decode cX5_readBits 47 = .ok (.istore_n 1, 1) := by decide +kernel
theorem dX5_readBits_48 : decode cX5_readBits 48 = .ok (.iload_n 1, 1) := by decide +kernel
theorem dX5_readBits_49 : decode cX5_readBits 49 = .ok (.aload_n 0, 1) := by decide +kernel
theorem dX5_readBits_50 : decode cX5_readBits 50 = .ok (.getfield 35, 3) := by decide +kernel
theorem dX5_readBits_53 : decode cX5_readBits 53 = .ok (.if_icmp .ge 47, 3) := by decide +kernel
theorem dX5_readBits_56 : decode cX5_readBits 56 = .ok (.aload_n 0, 1) := by decide +kernel
theorem dX5_readBits_57 : decode cX5_readBits 57 = .ok (.getfield 12, 3) := by decide +kernel
theorem dX5_readBits_60 : decode cX5_readBits 60 = .ok (.getfield 135, 3) := by decide +kernel
theorem dX5_readBits_63 : decode cX5_readBits 63 = .ok (.iload_n 1, 1) := by decide +kernel
theorem dX5_readBits_64 : decode cX5_readBits 64 = .ok (.invokestatic 139, 3) := by decide +kernel
theorem dX5_readBits_67 : decode cX5_readBits 67 = .ok (.bipush 48, 2) := by decide +kernel
theorem dX5_readBits_69 : decode cX5_readBits 69 = .ok (.isub, 1) := by decide +kernel
theorem dX5_readBits_70 : decode cX5_readBits 70 = .ok (.istore_n 2, 1) := by decide +kernel
theorem dX5_readBits_71 : decode cX5_readBits 71 = .ok (.iload_n 2, 1) := by decide +kernel
theorem dX5_readBits_72 : decode cX5_readBits 72 = .ok (.iconst 1, 1) := by decide +kernel
theorem dX5_readBits_73 : decode cX5_readBits 73 = .ok (.if_icmp .le 9, 3) := by decide +kernel
theorem dX5_readBits_76 : decode cX5_readBits 76 = .ok (.aload_n 0, 1) := by decide +kernel
theorem dX5_readBits_77 : decode cX5_readBits 77 = .ok (.iconst 2, 1) := by decide +kernel
theorem dX5_readBits_78 : decode cX5_readBits 78 = .ok (.invokevirtual 60, 3) := by decide +kernel
theorem dX5_readBits_81 : decode cX5_readBits 81 = .ok (.ireturn, 1) := by decide +kernel
theorem dX5_readBits_82 : decode cX5_readBits 82 = .ok (.aload_n 0, 1) := by decide +kernel
theorem dX5_readBits_83 : decode cX5_readBits 83 = .ok (.aload_n 0, 1) := by decide +kernel
theorem dX5_readBits_84 : decode cX5_readBits 84 = .ok (.getfield 83, 3) := by decide +kernel
theorem dX5_readBits_87 : decode cX5_readBits 87 = .ok (.iconst 2, 1) := by decide +kernel
theorem dX5_readBits_88 : decode cX5_readBits 88 = .ok (.imul, 1) := by decide +kernel
theorem dX5_readBits_89 : decode cX5_readBits 89 = .ok (.iload_n 2, 1) := by decide +kernel
theorem dX5_readBits_90 : decode cX5_readBits 90 = .ok (.iadd, 1) := by decide +kernel
theorem dX5_readBits_91 : decode cX5_readBits 91 = .ok (.putfield 83, 3) := by decide +kernel
theorem dX5_readBits_94 : decode cX5_readBits 94 = .ok (.iinc 1 1, 3) := by decide +kernel
theorem dX5_readBits_97 : decode cX5_readBits 97 = .ok (.goto (-49), 3) := by decide +kernel
theorem dX5_readBits_100 : decode cX5_readBits 100 = .ok (.iconst 1, 1) := by decide +kernel
theorem dX5_readBits_101 : decode cX5_readBits 101 = .ok (.ireturn, 1) := by decide +kernel
theorem dX5_readKind_0 : decode cX5_readKind 0 = .ok (.aload_n 0, 1) := by decide +kernel
theorem dX5_readKind_1 : decode cX5_readKind 1 = .ok (.invokevirtual 38, 3) := by decide +kernel
theorem dX5_readKind_4 : decode cX5_readKind 4 = .ok (.aload_n 0, 1) := by decide +kernel
theorem dX5_readKind_5 : decode cX5_readKind 5 = .ok (.ldc 143, 2) := by decide +kernel
theorem dX5_readKind_7 : decode cX5_readKind 7 = .ok (.invokevirtual 53, 3) := by decide +kernel
theorem dX5_readKind_10 : decode cX5_readKind 10 = .ok (.ifCond .eq 11, 3) := by decide +kernel
theorem dX5_readKind_13 : decode cX5_readKind 13 = .ok (.aload_n 0, 1) := by decide +kernel
theorem dX5_readKind_14 : decode cX5_readKind 14 = .ok (.iconst 0, 1) := by decide +kernel
theorem dX5_readKind_15 : decode cX5_readKind 15 = .ok (.putfield 83, 3) := by decide +kernel
theorem dX5_readKind_18 : decode cX5_readKind 18 = .ok (.goto 43, 3) := by decide +kernel
theorem dX5_readKind_21 : decode cX5_readKind 21 = .ok (.aload_n 0, 1) := by decide +kernel
theorem dX5_readKind_22 : decode cX5_readKind 22 = .ok (.ldc 145, 2) := by decide +kernel
theorem dX5_readKind_24 : decode cX5_readKind 24 = .ok (.invokevirtual 53, 3) := by decide +kernel
theorem dX5_readKind_27 : decode cX5_readKind 27 = .ok (.ifCond .eq 11, 3) := by decide +kernel
theorem dX5_readKind_30 : decode cX5_readKind 30 = .ok (.aload_n 0, 1) := by decide +kernel
theorem dX5_readKind_31 : decode cX5_readKind 31 = .ok (.iconst 1, 1) := by decide +kernel
theorem dX5_readKind_32 : decode cX5_readKind 32 = .ok (.putfield 83, 3) := by decide +kernel
theorem dX5_readKind_35 : decode cX5_readKind 35 = .ok (.goto 26, 3) := by decide +kernel
theorem dX5_readKind_38 : decode cX5_readKind 38 = .ok (.aload_n 0, 1) := by decide +kernel
theorem dX5_readKind_39 : decode cX5_readKind 39 = .ok (.ldc 147, 2) := by decide +kernel
theorem dX5_readKind_41 : decode cX5_readKind 41 = .ok (.invokevirtual 53, 3) := by decide +kernel
theorem dX5_readKind_44 : decode cX5_readKind 44 = .ok (.ifCond .eq 11, 3) := by decide +kernel
theorem dX5_readKind_47 : decode cX5_readKind 47 = .ok (.aload_n 0, 1) := by decide +kernel
theorem dX5_readKind_48 : decode cX5_readKind 48 = .ok (.iconst 2, 1) := by decide +kernel
theorem dX5_readKind_49 : decode cX5_readKind 49 = .ok (.putfield 83, 3) := by decide +kernel
theorem dX5_readKind_52 : decode cX5_readKind 52 = .ok (.goto 9, 3) := by decide +kernel
theorem dX5_readKind_55 : decode cX5_readKind 55 = .ok (.aload_n 0, 1) := by decide +kernel
theorem dX5_readKind_56 : decode cX5_readKind 56 = .ok (.iconst 1, 1) := by decide +kernel
theorem dX5_readKind_57 : decode cX5_readKind 57 = .ok (.invokevirtual 60, 3) := by decide +kernel
theorem dX5_readKind_60 : decode cX5_readKind 60 = .ok (.ireturn, 1) := by decide +kernel
theorem dX5_readKind_61 : decode cX5_readKind 61 = .ok (.iconst 1, 1) := by decide +kernel
theorem dX5_readKind_62 : decode cX5_readKind 62 = .ok (.ireturn, 1) := by decide +kernel
theorem dX5_readSign_0 : decode cX5_readSign 0 = .ok (.aload_n 0, 1) := by decide +kernel
theorem dX5_readSign_1 : decode cX5_readSign 1 = .ok (.invokevirtual 38, 3) := by decide +kernel
theorem dX5_readSign_4 : decode cX5_readSign 4 = .ok (.aload_n 0, 1) := by decide +kernel
theorem dX5_readSign_5 : decode cX5_readSign 5 = .ok (.getfield 41, 3) := by decide +kernel
theorem dX5_readSign_8 : decode cX5_readSign 8 = .ok (.iconst 3, 1) := by decide +kernel
theorem dX5_readSign_9 : decode cX5_readSign 9 = .ok (.if_icmp .eq 11, 3) := by decide +kernel
theorem dX5_readSign_12 : decode cX5_readSign 12 = .ok (.aload_n 0, 1) := by decide +kernel
theorem dX5_readSign_13 : decode cX5_readSign 13 = .ok (.iconst 1, 1) := by decide +kernel
theorem dX5_readSign_14 : decode cX5_readSign 14 = .ok (.invokevirtual 60, 3) := by decide +kernel
theorem dX5_readSign_17 : decode cX5_readSign 17 = .ok (.ifCond .eq 7, 3) := by decide +kernel
theorem dX5_readSign_20 : decode cX5_readSign 20 = .ok (.iconst 1, 1) := by decide +kernel
theorem dX5_readSign_21 : decode cX5_readSign 21 = .ok (.goto 4, 3) := by decide +kernel
theorem dX5_readSign_24 : decode cX5_readSign 24 = .ok (.iconst 0, 1) := by decide +kernel
theorem dX5_readSign_25 : decode cX5_readSign 25 = .ok (.ireturn, 1) := by decide +kernel
theorem dX5_refuse_0 : decode cX5_refuse 0 = .ok (.aload_n 0, 1) := by decide +kernel
theorem dX5_refuse_1 : decode cX5_refuse 1 = .ok (.iload_n 1, 1) := by decide +kernel
theorem dX5_refuse_2 : decode cX5_refuse 2 = .ok (.putfield 32, 3) := by decide +kernel
theorem dX5_refuse_5 : decode cX5_refuse 5 = .ok (.aload_n 0, 1) := by decide +kernel
theorem dX5_refuse_6 : decode cX5_refuse 6 = .ok (.aload_n 0, 1) := by decide +kernel
theorem dX5_refuse_7 : decode cX5_refuse 7 = .ok (.getfield 113, 3) := by decide +kernel
theorem dX5_refuse_10 : decode cX5_refuse 10 = .ok (.putfield 25, 3) := by decide +kernel
theorem dX5_refuse_13 : decode cX5_refuse 13 = .ok (.iconst 0, 1) := by decide +kernel
theorem dX5_refuse_14 : decode cX5_refuse 14 = .ok (.ireturn, 1) := by decide +kernel
theorem dX5_isWord_0 : decode cX5_isWord 0 = .ok (.aload_n 0, 1) := by decide +kernel
theorem dX5_isWord_1 : decode cX5_isWord 1 = .ok (.getfield 41, 3) := by decide +kernel
theorem dX5_isWord_4 : decode cX5_isWord 4 = .ok (.iconst 1, 1) := by decide +kernel
theorem dX5_isWord_5 : decode cX5_isWord 5 = .ok (.if_icmp .ne 19, 3) := by decide +kernel
theorem dX5_isWord_8 : decode cX5_isWord 8 = .ok (.aload_n 1, 1) := by decide +kernel
theorem dX5_isWord_9 : decode cX5_isWord 9 = .ok (.invokevirtual 149, 3) := by decide +kernel
theorem dX5_isWord_12 : decode cX5_isWord 12 = .ok (.aload_n 0, 1) := by decide +kernel
theorem dX5_isWord_13 : decode cX5_isWord 13 = .ok (.getfield 35, 3) := by decide +kernel
theorem dX5_isWord_16 : decode cX5_isWord 16 = .ok (.aload_n 0, 1) := by decide +kernel
theorem dX5_isWord_17 : decode cX5_isWord 17 = .ok (.getfield 113, 3) := by decide +kernel
theorem dX5_isWord_20 : decode cX5_isWord 20 = .ok (.isub, 1) := by decide +kernel
theorem dX5_isWord_21 : decode cX5_isWord 21 = .ok (.if_icmp .eq 5, 3) := by decide +kernel
theorem dX5_isWord_24 : decode cX5_isWord 24 = .ok (.iconst 0, 1) := by decide +kernel
theorem dX5_isWord_25 : decode cX5_isWord 25 = .ok (.ireturn, 1) := by decide +kernel
theorem dX5_isWord_26 : decode cX5_isWord 26 = .ok (.iconst 0, 1) := by decide +kernel
theorem dX5_isWord_27 : decode cX5_isWord 27 = .ok (.istore_n 2, 1) := by decide +kernel
theorem dX5_isWord_28 : decode cX5_isWord 28 = .ok (.iload_n 2, 1) := by decide +kernel
theorem dX5_isWord_29 : decode cX5_isWord 29 = .ok (.aload_n 1, 1) := by decide +kernel
theorem dX5_isWord_30 : decode cX5_isWord 30 = .ok (.invokevirtual 149, 3) := by decide +kernel
theorem dX5_isWord_33 : decode cX5_isWord 33 = .ok (.if_icmp .ge 35, 3) := by decide +kernel
theorem dX5_isWord_36 : decode cX5_isWord 36 = .ok (.aload_n 1, 1) := by decide +kernel
theorem dX5_isWord_37 : decode cX5_isWord 37 = .ok (.iload_n 2, 1) := by decide +kernel
theorem dX5_isWord_38 : decode cX5_isWord 38 = .ok (.invokevirtual 155, 3) := by decide +kernel
theorem dX5_isWord_41 : decode cX5_isWord 41 = .ok (.aload_n 0, 1) := by decide +kernel
theorem dX5_isWord_42 : decode cX5_isWord 42 = .ok (.getfield 12, 3) := by decide +kernel
theorem dX5_isWord_45 : decode cX5_isWord 45 = .ok (.getfield 135, 3) := by decide +kernel
theorem dX5_isWord_48 : decode cX5_isWord 48 = .ok (.aload_n 0, 1) := by decide +kernel
theorem dX5_isWord_49 : decode cX5_isWord 49 = .ok (.getfield 113, 3) := by decide +kernel
theorem dX5_isWord_52 : decode cX5_isWord 52 = .ok (.iload_n 2, 1) := by decide +kernel
theorem dX5_isWord_53 : decode cX5_isWord 53 = .ok (.iadd, 1) := by decide +kernel
theorem dX5_isWord_54 : decode cX5_isWord 54 = .ok (.invokestatic 139, 3) := by decide +kernel
theorem dX5_isWord_57 : decode cX5_isWord 57 = .ok (.if_icmp .eq 5, 3) := by decide +kernel
theorem dX5_isWord_60 : decode cX5_isWord 60 = .ok (.iconst 0, 1) := by decide +kernel
theorem dX5_isWord_61 : decode cX5_isWord 61 = .ok (.ireturn, 1) := by decide +kernel
theorem dX5_isWord_62 : decode cX5_isWord 62 = .ok (.iinc 2 1, 3) := by decide +kernel
theorem dX5_isWord_65 : decode cX5_isWord 65 = .ok (.goto (-37), 3) := by decide +kernel
theorem dX5_isWord_68 : decode cX5_isWord 68 = .ok (.iconst 1, 1) := by decide +kernel
theorem dX5_isWord_69 : decode cX5_isWord 69 = .ok (.ireturn, 1) := by decide +kernel
theorem dX5_step_0 : decode cX5_step 0 = .ok (.aload_n 0, 1) := by decide +kernel
theorem dX5_step_1 : decode cX5_step 1 = .ok (.aload_n 0, 1) := by decide +kernel
theorem dX5_step_2 : decode cX5_step 2 = .ok (.getfield 35, 3) := by decide +kernel
theorem dX5_step_5 : decode cX5_step 5 = .ok (.putfield 113, 3) := by decide +kernel
theorem dX5_step_8 : decode cX5_step 8 = .ok (.aload_n 0, 1) := by decide +kernel
theorem dX5_step_9 : decode cX5_step 9 = .ok (.getfield 113, 3) := by decide +kernel
theorem dX5_step_12 : decode cX5_step 12 = .ok (.aload_n 0, 1) := by decide +kernel
theorem dX5_step_13 : decode cX5_step 13 = .ok (.getfield 12, 3) := by decide +kernel
theorem dX5_step_16 : decode cX5_step 16 = .ok (.getfield 159, 3) := by decide +kernel
theorem dX5_step_19 : decode cX5_step 19 = .ok (.if_icmp .ge 36, 3) := by decide +kernel
theorem dX5_step_22 : decode cX5_step 22 = .ok (.aload_n 0, 1) := by decide +kernel
theorem dX5_step_23 : decode cX5_step 23 = .ok (.getfield 12, 3) := by decide +kernel
theorem dX5_step_26 : decode cX5_step 26 = .ok (.getfield 135, 3) := by decide +kernel
theorem dX5_step_29 : decode cX5_step 29 = .ok (.aload_n 0, 1) := by decide +kernel
theorem dX5_step_30 : decode cX5_step 30 = .ok (.getfield 113, 3) := by decide +kernel
theorem dX5_step_33 : decode cX5_step 33 = .ok (.invokestatic 139, 3) := by decide +kernel
theorem dX5_step_36 : decode cX5_step 36 = .ok (.invokestatic 161, 3) := by decide +kernel
theorem dX5_step_39 : decode cX5_step 39 = .ok (.ifCond .eq 16, 3) := by decide +kernel
theorem dX5_step_42 : decode cX5_step 42 = .ok (.aload_n 0, 1) := by decide +kernel
theorem dX5_step_43 : decode cX5_step 43 = .ok (.dup, 1) := by decide +kernel
theorem dX5_step_44 : decode cX5_step 44 = .ok (.getfield 113, 3) := by decide +kernel
theorem dX5_step_47 : decode cX5_step 47 = .ok (.iconst 1, 1) := by decide +kernel
theorem dX5_step_48 : decode cX5_step 48 = .ok (.iadd, 1) := by decide +kernel
theorem dX5_step_49 : decode cX5_step 49 = .ok (.putfield 113, 3) := by decide +kernel
theorem dX5_step_52 : decode cX5_step 52 = .ok (.goto (-44), 3) := by decide +kernel
theorem dX5_step_55 : decode cX5_step 55 = .ok (.aload_n 0, 1) := by decide +kernel
theorem dX5_step_56 : decode cX5_step 56 = .ok (.aload_n 0, 1) := by decide +kernel
theorem dX5_step_57 : decode cX5_step 57 = .ok (.getfield 113, 3) := by decide +kernel
theorem dX5_step_60 : decode cX5_step 60 = .ok (.putfield 35, 3) := by decide +kernel
theorem dX5_step_63 : decode cX5_step 63 = .ok (.aload_n 0, 1) := by decide +kernel
theorem dX5_step_64 : decode cX5_step 64 = .ok (.getfield 113, 3) := by decide +kernel
theorem dX5_step_67 : decode cX5_step 67 = .ok (.aload_n 0, 1) := by decide +kernel
theorem dX5_step_68 : decode cX5_step 68 = .ok (.getfield 12, 3) := by decide +kernel
theorem dX5_step_71 : decode cX5_step 71 = .ok (.getfield 159, 3) := by decide +kernel
theorem dX5_step_74 : decode cX5_step 74 = .ok (.if_icmp .lt 9, 3) := by decide +kernel
theorem dX5_step_77 : decode cX5_step 77 = .ok (.aload_n 0, 1) := by decide +kernel
theorem dX5_step_78 : decode cX5_step 78 = .ok (.iconst 0, 1) := by decide +kernel
theorem dX5_step_79 : decode cX5_step 79 = .ok (.putfield 41, 3) := by decide +kernel
theorem dX5_step_82 : decode cX5_step 82 = .ok (.return_, 1) := by decide +kernel
theorem dX5_step_83 : decode cX5_step 83 = .ok (.aload_n 0, 1) := by decide +kernel
theorem dX5_step_84 : decode cX5_step 84 = .ok (.aload_n 0, 1) := by decide +kernel
theorem dX5_step_85 : decode cX5_step 85 = .ok (.getfield 12, 3) := by decide +kernel
theorem dX5_step_88 : decode cX5_step 88 = .ok (.getfield 135, 3) := by decide +kernel
theorem dX5_step_91 : decode cX5_step 91 = .ok (.aload_n 0, 1) := by decide +kernel
theorem dX5_step_92 : decode cX5_step 92 = .ok (.getfield 113, 3) := by decide +kernel
theorem dX5_step_95 : decode cX5_step 95 = .ok (.invokestatic 139, 3) := by decide +kernel
theorem dX5_step_98 : decode cX5_step 98 = .ok (.invokestatic 164, 3) := by decide +kernel
theorem dX5_step_101 : decode cX5_step 101 = .ok (.putfield 41, 3) := by decide +kernel
theorem dX5_step_104 : decode cX5_step 104 = .ok (.aload_n 0, 1) := by decide +kernel
theorem dX5_step_105 : decode cX5_step 105 = .ok (.dup, 1) := by decide +kernel
theorem dX5_step_106 : decode cX5_step 106 = .ok (.getfield 35, 3) := by decide +kernel
theorem dX5_step_109 : decode cX5_step 109 = .ok (.iconst 1, 1) := by decide +kernel
theorem dX5_step_110 : decode cX5_step 110 = .ok (.iadd, 1) := by decide +kernel
theorem dX5_step_111 : decode cX5_step 111 = .ok (.putfield 35, 3) := by decide +kernel
theorem dX5_step_114 : decode cX5_step 114 = .ok (.aload_n 0, 1) := by decide +kernel
theorem dX5_step_115 : decode cX5_step 115 = .ok (.getfield 41, 3) := by decide +kernel
theorem dX5_step_118 : decode cX5_step 118 = .ok (.iconst 1, 1) := by decide +kernel
theorem dX5_step_119 : decode cX5_step 119 = .ok (.if_icmp .eq 11, 3) := by decide +kernel
theorem dX5_step_122 : decode cX5_step 122 = .ok (.aload_n 0, 1) := by decide +kernel
theorem dX5_step_123 : decode cX5_step 123 = .ok (.getfield 41, 3) := by decide +kernel
theorem dX5_step_126 : decode cX5_step 126 = .ok (.iconst 2, 1) := by decide +kernel
theorem dX5_step_127 : decode cX5_step 127 = .ok (.if_icmp .ne 7, 3) := by decide +kernel
theorem dX5_step_130 : decode cX5_step 130 = .ok (.iconst 1, 1) := by decide +kernel
theorem dX5_step_131 : decode cX5_step 131 = .ok (.goto 4, 3) := by decide +kernel
theorem dX5_step_134 : decode cX5_step 134 = .ok (.iconst 0, 1) := by decide +kernel
theorem dX5_step_135 : decode cX5_step 135 = .ok (.istore_n 1, 1) := by decide +kernel
theorem dX5_step_136 : decode cX5_step 136 = .ok (.iload_n 1, 1) := by decide +kernel
theorem dX5_step_137 : decode cX5_step 137 = .ok (.ifCond .eq 54, 3) := by decide +kernel
theorem dX5_step_140 : decode cX5_step 140 = .ok (.aload_n 0, 1) := by decide +kernel
theorem dX5_step_141 : decode cX5_step 141 = .ok (.getfield 35, 3) := by decide +kernel
theorem dX5_step_144 : decode cX5_step 144 = .ok (.aload_n 0, 1) := by decide +kernel
theorem dX5_step_145 : decode cX5_step 145 = .ok (.getfield 12, 3) := by decide +kernel
theorem dX5_step_148 : decode cX5_step 148 = .ok (.getfield 159, 3) := by decide +kernel
theorem dX5_step_151 : decode cX5_step 151 = .ok (.if_icmp .ge 40, 3) := by decide +kernel
theorem dX5_step_154 : decode cX5_step 154 = .ok (.aload_n 0, 1) := by decide +kernel
theorem dX5_step_155 : decode cX5_step 155 = .ok (.getfield 12, 3) := by decide +kernel
theorem dX5_step_158 : decode cX5_step 158 = .ok (.getfield 135, 3) := by decide +kernel
theorem dX5_step_161 : decode cX5_step 161 = .ok (.aload_n 0, 1) := by decide +kernel
theorem dX5_step_162 : decode cX5_step 162 = .ok (.getfield 35, 3) := by decide +kernel
theorem dX5_step_165 : decode cX5_step 165 = .ok (.invokestatic 139, 3) := by decide +kernel
theorem dX5_step_168 : decode cX5_step 168 = .ok (.invokestatic 164, 3) := by decide +kernel
theorem dX5_step_171 : decode cX5_step 171 = .ok (.aload_n 0, 1) := by decide +kernel
theorem dX5_step_172 : decode cX5_step 172 = .ok (.getfield 41, 3) := by decide +kernel
theorem dX5_step_175 : decode cX5_step 175 = .ok (.if_icmp .ne 16, 3) := by decide +kernel
theorem dX5_step_178 : decode cX5_step 178 = .ok (.aload_n 0, 1) := by decide +kernel
theorem dX5_step_179 : decode cX5_step 179 = .ok (.dup, 1) := by decide +kernel
theorem dX5_step_180 : decode cX5_step 180 = .ok (.getfield 35, 3) := by decide +kernel
theorem dX5_step_183 : decode cX5_step 183 = .ok (.iconst 1, 1) := by decide +kernel
theorem dX5_step_184 : decode cX5_step 184 = .ok (.iadd, 1) := by decide +kernel
theorem dX5_step_185 : decode cX5_step 185 = .ok (.putfield 35, 3) := by decide +kernel
theorem dX5_step_188 : decode cX5_step 188 = .ok (.goto (-52), 3) := by decide +kernel
theorem dX5_step_191 : decode cX5_step 191 = .ok (.return_, 1) := by decide +kernel
theorem dX5_isBlank_0 : decode cX5_isBlank 0 = .ok (.iload_n 0, 1) := by decide +kernel
theorem dX5_isBlank_1 : decode cX5_isBlank 1 = .ok (.bipush 32, 2) := by decide +kernel
theorem dX5_isBlank_3 : decode cX5_isBlank 3 = .ok (.if_icmp .eq 9, 3) := by decide +kernel
theorem dX5_isBlank_6 : decode cX5_isBlank 6 = .ok (.iload_n 0, 1) := by decide +kernel
theorem dX5_isBlank_7 : decode cX5_isBlank 7 = .ok (.bipush 10, 2) := by decide +kernel
theorem dX5_isBlank_9 : decode cX5_isBlank 9 = .ok (.if_icmp .ne 7, 3) := by decide +kernel
theorem dX5_isBlank_12 : decode cX5_isBlank 12 = .ok (.iconst 1, 1) := by decide +kernel
theorem dX5_isBlank_13 : decode cX5_isBlank 13 = .ok (.goto 4, 3) := by decide +kernel
theorem dX5_isBlank_16 : decode cX5_isBlank 16 = .ok (.iconst 0, 1) := by decide +kernel
theorem dX5_isBlank_17 : decode cX5_isBlank 17 = .ok (.ireturn, 1) := by decide +kernel
theorem dX5_kindOf_0 : decode cX5_kindOf 0 = .ok (.iload_n 0, 1) := by decide +kernel
theorem dX5_kindOf_1 : decode cX5_kindOf 1 = .ok (.bipush 97, 2) := by decide +kernel
theorem dX5_kindOf_3 : decode cX5_kindOf 3 = .ok (.if_icmp .lt 11, 3) := by decide +kernel
theorem dX5_kindOf_6 : decode cX5_kindOf 6 = .ok (.iload_n 0, 1) := by decide +kernel
theorem dX5_kindOf_7 : decode cX5_kindOf 7 = .ok (.bipush 122, 2) := by decide +kernel
theorem dX5_kindOf_9 : decode cX5_kindOf 9 = .ok (.if_icmp .gt 5, 3) := by decide +kernel
theorem dX5_kindOf_12 : decode cX5_kindOf 12 = .ok (.iconst 1, 1) := by decide +kernel
theorem dX5_kindOf_13 : decode cX5_kindOf 13 = .ok (.ireturn, 1) := by decide +kernel
theorem dX5_kindOf_14 : decode cX5_kindOf 14 = .ok (.iload_n 0, 1) := by decide +kernel
theorem dX5_kindOf_15 : decode cX5_kindOf 15 = .ok (.bipush 48, 2) := by decide +kernel
theorem dX5_kindOf_17 : decode cX5_kindOf 17 = .ok (.if_icmp .lt 11, 3) := by decide +kernel
theorem dX5_kindOf_20 : decode cX5_kindOf 20 = .ok (.iload_n 0, 1) := by decide +kernel
theorem dX5_kindOf_21 : decode cX5_kindOf 21 = .ok (.bipush 57, 2) := by decide +kernel
theorem dX5_kindOf_23 : decode cX5_kindOf 23 = .ok (.if_icmp .gt 5, 3) := by decide +kernel
theorem dX5_kindOf_26 : decode cX5_kindOf 26 = .ok (.iconst 2, 1) := by decide +kernel
theorem dX5_kindOf_27 : decode cX5_kindOf 27 = .ok (.ireturn, 1) := by decide +kernel
theorem dX5_kindOf_28 : decode cX5_kindOf 28 = .ok (.iload_n 0, 1) := by decide +kernel
theorem dX5_kindOf_29 : decode cX5_kindOf 29 = .ok (.bipush 59, 2) := by decide +kernel
theorem dX5_kindOf_31 : decode cX5_kindOf 31 = .ok (.if_icmp .ne 7, 3) := by decide +kernel
theorem dX5_kindOf_34 : decode cX5_kindOf 34 = .ok (.iconst 3, 1) := by decide +kernel
theorem dX5_kindOf_35 : decode cX5_kindOf 35 = .ok (.goto 4, 3) := by decide +kernel
theorem dX5_kindOf_38 : decode cX5_kindOf 38 = .ok (.iconst 4, 1) := by decide +kernel
theorem dX5_kindOf_39 : decode cX5_kindOf 39 = .ok (.ireturn, 1) := by decide +kernel
theorem dX6_init_0 : decode cX6_init 0 = .ok (.aload_n 0, 1) := by decide +kernel
theorem dX6_init_1 : decode cX6_init 1 = .ok (.invokespecial 3, 3) := by decide +kernel
theorem dX6_init_4 : decode cX6_init 4 = .ok (.aload_n 0, 1) := by decide +kernel
theorem dX6_init_5 : decode cX6_init 5 = .ok (.sipush 201, 3) := by decide +kernel
theorem dX6_init_8 : decode cX6_init 8 = .ok (.newarray .int, 2) := by decide +kernel
theorem dX6_init_10 : decode cX6_init 10 = .ok (.putfield 11, 3) := by decide +kernel
theorem dX6_init_13 : decode cX6_init 13 = .ok (.aload_n 0, 1) := by decide +kernel
theorem dX6_init_14 : decode cX6_init 14 = .ok (.sipush 201, 3) := by decide +kernel
theorem dX6_init_17 : decode cX6_init 17 = .ok (.newarray .int, 2) := by decide +kernel
theorem dX6_init_19 : decode cX6_init 19 = .ok (.putfield 15, 3) := by decide +kernel
theorem dX6_init_22 : decode cX6_init 22 = .ok (.aload_n 0, 1) := by decide +kernel
theorem dX6_init_23 : decode cX6_init 23 = .ok (.sipush 201, 3) := by decide +kernel
theorem dX6_init_26 : decode cX6_init 26 = .ok (.newarray .int, 2) := by decide +kernel
theorem dX6_init_28 : decode cX6_init 28 = .ok (.putfield 18, 3) := by decide +kernel
theorem dX6_init_31 : decode cX6_init 31 = .ok (.return_, 1) := by decide +kernel
theorem dX6_push_0 : decode cX6_push 0 = .ok (.aload_n 0, 1) := by decide +kernel
theorem dX6_push_1 : decode cX6_push 1 = .ok (.getfield 11, 3) := by decide +kernel
theorem dX6_push_4 : decode cX6_push 4 = .ok (.aload_n 0, 1) := by decide +kernel
theorem dX6_push_5 : decode cX6_push 5 = .ok (.getfield 21, 3) := by decide +kernel
theorem dX6_push_8 : decode cX6_push 8 = .ok (.iload_n 1, 1) := by decide +kernel
theorem dX6_push_9 : decode cX6_push 9 = .ok (.invokestatic 25, 3) := by decide +kernel
theorem dX6_push_12 : decode cX6_push 12 = .ok (.aload_n 0, 1) := by decide +kernel
theorem dX6_push_13 : decode cX6_push 13 = .ok (.getfield 15, 3) := by decide +kernel
theorem dX6_push_16 : decode cX6_push 16 = .ok (.aload_n 0, 1) := by decide +kernel
theorem dX6_push_17 : decode cX6_push 17 = .ok (.getfield 21, 3) := by decide +kernel
theorem dX6_push_20 : decode cX6_push 20 = .ok (.iload_n 2, 1) := by decide +kernel
theorem dX6_push_21 : decode cX6_push 21 = .ok (.invokestatic 25, 3) := by decide +kernel
theorem dX6_push_24 : decode cX6_push 24 = .ok (.aload_n 0, 1) := by decide +kernel
theorem dX6_push_25 : decode cX6_push 25 = .ok (.getfield 18, 3) := by decide +kernel
theorem dX6_push_28 : decode cX6_push 28 = .ok (.aload_n 0, 1) := by decide +kernel
theorem dX6_push_29 : decode cX6_push 29 = .ok (.getfield 21, 3) := by decide +kernel
theorem dX6_push_32 : decode cX6_push 32 = .ok (.iload_n 3, 1) := by decide +kernel
theorem dX6_push_33 : decode cX6_push 33 = .ok (.invokestatic 25, 3) := by decide +kernel
theorem dX6_push_36 : decode cX6_push 36 = .ok (.aload_n 0, 1) := by decide +kernel
theorem dX6_push_37 : decode cX6_push 37 = .ok (.dup, 1) := by decide +kernel
theorem dX6_push_38 : decode cX6_push 38 = .ok (.getfield 21, 3) := by decide +kernel
theorem dX6_push_41 : decode cX6_push 41 = .ok (.iconst 1, 1) := by decide +kernel
theorem dX6_push_42 : decode cX6_push 42 = .ok (.iadd, 1) := by decide +kernel
theorem dX6_push_43 : decode cX6_push 43 = .ok (.putfield 21, 3) := by decide +kernel
theorem dX6_push_46 : decode cX6_push 46 = .ok (.return_, 1) := by decide +kernel
theorem dX6_pop_0 : decode cX6_pop 0 = .ok (.aload_n 0, 1) := by decide +kernel
theorem dX6_pop_1 : decode cX6_pop 1 = .ok (.getfield 21, 3) := by decide +kernel
theorem dX6_pop_4 : decode cX6_pop 4 = .ok (.ifCond .le 13, 3) := by decide +kernel
theorem dX6_pop_7 : decode cX6_pop 7 = .ok (.aload_n 0, 1) := by decide +kernel
theorem dX6_pop_8 : decode cX6_pop 8 = .ok (.dup, 1) := by decide +kernel
theorem dX6_pop_9 : decode cX6_pop 9 = .ok (.getfield 21, 3) := by decide +kernel
theorem dX6_pop_12 : decode cX6_pop 12 = .ok (.iconst 1, 1) := by decide +kernel
theorem dX6_pop_13 : decode cX6_pop 13 = .ok (.isub, 1) := by decide +kernel
theorem dX6_pop_14 : decode cX6_pop 14 = .ok (.putfield 21, 3) := by decide +kernel
theorem dX6_pop_17 : decode cX6_pop 17 = .ok (.return_, 1) := by decide +kernel
theorem dX6_topWho_0 : decode cX6_topWho 0 = .ok (.aload_n 0, 1) := by decide +kernel
theorem dX6_topWho_1 : decode cX6_topWho 1 = .ok (.getfield 11, 3) := by decide +kernel
theorem dX6_topWho_4 : decode cX6_topWho 4 = .ok (.aload_n 0, 1) := by decide +kernel
theorem dX6_topWho_5 : decode cX6_topWho 5 = .ok (.getfield 21, 3) := by decide +kernel
theorem dX6_topWho_8 : decode cX6_topWho 8 = .ok (.iconst 1, 1) := by decide +kernel
theorem dX6_topWho_9 : decode cX6_topWho 9 = .ok (.isub, 1) := by decide +kernel
theorem dX6_topWho_10 : decode cX6_topWho 10 = .ok (.invokestatic 29, 3) := by decide +kernel
theorem dX6_topWho_13 : decode cX6_topWho 13 = .ok (.ireturn, 1) := by decide +kernel
theorem dX7_init_0 : decode cX7_init 0 = .ok (.aload_n 0, 1) := by decide +kernel
theorem dX7_init_1 : decode cX7_init 1 = .ok (.invokespecial 3, 3) := by decide +kernel
theorem dX7_init_4 : decode cX7_init 4 = .ok (.aload_n 0, 1) := by decide +kernel
theorem dX7_init_5 : decode cX7_init 5 = .ok (.sipush 500, 3) := by decide +kernel
theorem dX7_init_8 : decode cX7_init 8 = .ok (.newarray .int, 2) := by decide +kernel
theorem dX7_init_10 : decode cX7_init 10 = .ok (.putfield 9, 3) := by decide +kernel
theorem dX7_init_13 : decode cX7_init 13 = .ok (.return_, 1) := by decide +kernel
theorem dX7_append_0 : decode cX7_append 0 = .ok (.bipush 24, 2) := by decide +kernel
theorem dX7_append_2 : decode cX7_append 2 = .ok (.istore_n 2, 1) := by decide +kernel
theorem dX7_append_3 : decode cX7_append 3 = .ok (.iload_n 2, 1) := by decide +kernel
theorem dX7_append_4 : decode cX7_append 4 = .ok (.ifCond .lt 37, 3) := by decide +kernel
theorem dX7_append_7 : decode cX7_append 7 = .ok (.aload_n 0, 1) := by decide +kernel
theorem dX7_append_8 : decode cX7_append 8 = .ok (.getfield 9, 3) := by decide +kernel
theorem dX7_append_11 : decode cX7_append 11 = .ok (.aload_n 0, 1) := by decide +kernel
theorem dX7_append_12 : decode cX7_append 12 = .ok (.getfield 15, 3) := by decide +kernel
theorem dX7_append_15 : decode cX7_append 15 = .ok (.iload_n 1, 1) := by decide +kernel
theorem dX7_append_16 : decode cX7_append 16 = .ok (.iload_n 2, 1) := by decide +kernel
theorem dX7_append_17 : decode cX7_append 17 = .ok (.ishr, 1) := by decide +kernel
theorem dX7_append_18 : decode cX7_append 18 = .ok (.sipush 255, 3) := by decide +kernel
theorem dX7_append_21 : decode cX7_append 21 = .ok (.iand, 1) := by decide +kernel
theorem dX7_append_22 : decode cX7_append 22 = .ok (.invokestatic 19, 3) := by decide +kernel
theorem dX7_append_25 : decode cX7_append 25 = .ok (.aload_n 0, 1) := by decide +kernel
theorem dX7_append_26 : decode cX7_append 26 = .ok (.dup, 1) := by decide +kernel
theorem dX7_append_27 : decode cX7_append 27 = .ok (.getfield 15, 3) := by decide +kernel
theorem dX7_append_30 : decode cX7_append 30 = .ok (.iconst 1, 1) := by decide +kernel
theorem dX7_append_31 : decode cX7_append 31 = .ok (.iadd, 1) := by decide +kernel
theorem dX7_append_32 : decode cX7_append 32 = .ok (.putfield 15, 3) := by decide +kernel
theorem dX7_append_35 : decode cX7_append 35 = .ok (.iinc 2 (-8), 3) := by decide +kernel
theorem dX7_append_38 : decode cX7_append 38 = .ok (.goto (-35), 3) := by decide +kernel
theorem dX7_append_41 : decode cX7_append 41 = .ok (.return_, 1) := by decide +kernel
theorem dX8_init_0 : decode cX8_init 0 = .ok (.aload_n 0, 1) := by decide +kernel
theorem dX8_init_1 : decode cX8_init 1 = .ok (.invokespecial 1, 3) := by decide +kernel
theorem dX8_init_4 : decode cX8_init 4 = .ok (.aload_n 0, 1) := by decide +kernel
theorem dX8_init_5 : decode cX8_init 5 = .ok (.new 7, 3) := by decide +kernel
theorem dX8_init_8 : decode cX8_init 8 = .ok (.dup, 1) := by decide +kernel
theorem dX8_init_9 : decode cX8_init 9 = .ok (.invokespecial 9, 3) := by decide +kernel
theorem dX8_init_12 : decode cX8_init 12 = .ok (.putfield 10, 3) := by decide +kernel
theorem dX8_init_15 : decode cX8_init 15 = .ok (.aload_n 0, 1) := by decide +kernel
theorem dX8_init_16 : decode cX8_init 16 = .ok (.aload_n 0, 1) := by decide +kernel
theorem dX8_init_17 : decode cX8_init 17 = .ok (.getfield 10, 3) := by decide +kernel
theorem dX8_init_20 : decode cX8_init 20 = .ok (.getfield 16, 3) := by decide +kernel
theorem dX8_init_23 : decode cX8_init 23 = .ok (.putfield 20, 3) := by decide +kernel
theorem dX8_init_26 : decode cX8_init 26 = .ok (.aload_n 0, 1) := by decide +kernel
theorem dX8_init_27 : decode cX8_init 27 = .ok (.aload_n 0, 1) := by decide +kernel
theorem dX8_init_28 : decode cX8_init 28 = .ok (.getfield 10, 3) := by decide +kernel
theorem dX8_init_31 : decode cX8_init 31 = .ok (.getfield 21, 3) := by decide +kernel
theorem dX8_init_34 : decode cX8_init 34 = .ok (.putfield 25, 3) := by decide +kernel
theorem dX8_init_37 : decode cX8_init 37 = .ok (.aload_n 0, 1) := by decide +kernel
theorem dX8_init_38 : decode cX8_init 38 = .ok (.new 26, 3) := by decide +kernel
theorem dX8_init_41 : decode cX8_init 41 = .ok (.dup, 1) := by decide +kernel
theorem dX8_init_42 : decode cX8_init 42 = .ok (.invokespecial 28, 3) := by decide +kernel
theorem dX8_init_45 : decode cX8_init 45 = .ok (.putfield 29, 3) := by decide +kernel
theorem dX8_init_48 : decode cX8_init 48 = .ok (.aload_n 0, 1) := by decide +kernel
theorem dX8_init_49 : decode cX8_init 49 = .ok (.aload_n 0, 1) := by decide +kernel
theorem dX8_init_50 : decode cX8_init 50 = .ok (.getfield 29, 3) := by decide +kernel
theorem dX8_init_53 : decode cX8_init 53 = .ok (.getfield 33, 3) := by decide +kernel
theorem dX8_init_56 : decode cX8_init 56 = .ok (.putfield 36, 3) := by decide +kernel
theorem dX8_init_59 : decode cX8_init 59 = .ok (.aload_n 0, 1) := by decide +kernel
theorem dX8_init_60 : decode cX8_init 60 = .ok (.aload_n 0, 1) := by decide +kernel
theorem dX8_init_61 : decode cX8_init 61 = .ok (.getfield 29, 3) := by decide +kernel
theorem dX8_init_64 : decode cX8_init 64 = .ok (.getfield 37, 3) := by decide +kernel
theorem dX8_init_67 : decode cX8_init 67 = .ok (.putfield 41, 3) := by decide +kernel
theorem dX8_init_70 : decode cX8_init 70 = .ok (.aload_n 0, 1) := by decide +kernel
theorem dX8_init_71 : decode cX8_init 71 = .ok (.new 44, 3) := by decide +kernel
theorem dX8_init_74 : decode cX8_init 74 = .ok (.dup, 1) := by decide +kernel
theorem dX8_init_75 : decode cX8_init 75 = .ok (.invokespecial 46, 3) := by decide +kernel
theorem dX8_init_78 : decode cX8_init 78 = .ok (.putfield 47, 3) := by decide +kernel
theorem dX8_init_81 : decode cX8_init 81 = .ok (.aload_n 0, 1) := by decide +kernel
theorem dX8_init_82 : decode cX8_init 82 = .ok (.new 50, 3) := by decide +kernel
theorem dX8_init_85 : decode cX8_init 85 = .ok (.dup, 1) := by decide +kernel
theorem dX8_init_86 : decode cX8_init 86 = .ok (.invokespecial 52, 3) := by decide +kernel
theorem dX8_init_89 : decode cX8_init 89 = .ok (.putfield 53, 3) := by decide +kernel
theorem dX8_init_92 : decode cX8_init 92 = .ok (.aload_n 0, 1) := by decide +kernel
theorem dX8_init_93 : decode cX8_init 93 = .ok (.new 57, 3) := by decide +kernel
theorem dX8_init_96 : decode cX8_init 96 = .ok (.dup, 1) := by decide +kernel
theorem dX8_init_97 : decode cX8_init 97 = .ok (.invokespecial 59, 3) := by decide +kernel
theorem dX8_init_100 : decode cX8_init 100 = .ok (.putfield 60, 3) := by decide +kernel
theorem dX8_init_103 : decode cX8_init 103 = .ok (.return_, 1) := by decide +kernel
theorem dX8_feed_0 : decode cX8_feed 0 = .ok (.aload_n 0, 1) := by decide +kernel
theorem dX8_feed_1 : decode cX8_feed 1 = .ok (.getfield 20, 3) := by decide +kernel
theorem dX8_feed_4 : decode cX8_feed 4 = .ok (.getfield 64, 3) := by decide +kernel
theorem dX8_feed_7 : decode cX8_feed 7 = .ok (.bipush 20, 2) := by decide +kernel
theorem dX8_feed_9 : decode cX8_feed 9 = .ok (.iadd, 1) := by decide +kernel
theorem dX8_feed_10 : decode cX8_feed 10 = .ok (.sipush 500, 3) := by decide +kernel
theorem dX8_feed_13 : decode cX8_feed 13 = .ok (.if_icmp .le 5, 3) := by decide +kernel
theorem dX8_feed_16 : decode cX8_feed 16 = .ok (.iconst (-1), 1) := by decide +kernel
theorem dX8_feed_17 : decode cX8_feed 17 = .ok (.ireturn, 1) := by decide +kernel
theorem dX8_feed_18 : decode cX8_feed 18 = .ok (.aload_n 0, 1) := by decide +kernel
theorem dX8_feed_19 : decode cX8_feed 19 = .ok (.getfield 20, 3) := by decide +kernel
theorem dX8_feed_22 : decode cX8_feed 22 = .ok (.iload_n 1, 1) := by decide +kernel
theorem dX8_feed_23 : decode cX8_feed 23 = .ok (.invokevirtual 70, 3) := by decide +kernel
theorem dX8_feed_26 : decode cX8_feed 26 = .ok (.aload_n 0, 1) := by decide +kernel
theorem dX8_feed_27 : decode cX8_feed 27 = .ok (.getfield 20, 3) := by decide +kernel
theorem dX8_feed_30 : decode cX8_feed 30 = .ok (.iload_n 2, 1) := by decide +kernel
theorem dX8_feed_31 : decode cX8_feed 31 = .ok (.invokevirtual 70, 3) := by decide +kernel
theorem dX8_feed_34 : decode cX8_feed 34 = .ok (.aload_n 0, 1) := by decide +kernel
theorem dX8_feed_35 : decode cX8_feed 35 = .ok (.getfield 20, 3) := by decide +kernel
theorem dX8_feed_38 : decode cX8_feed 38 = .ok (.iload_n 3, 1) := by decide +kernel
theorem dX8_feed_39 : decode cX8_feed 39 = .ok (.invokevirtual 70, 3) := by decide +kernel
theorem dX8_feed_42 : decode cX8_feed 42 = .ok (.aload_n 0, 1) := by decide +kernel
theorem dX8_feed_43 : decode cX8_feed 43 = .ok (.getfield 20, 3) := by decide +kernel
theorem dX8_feed_46 : decode cX8_feed 46 = .ok (.iload 4, 2) := by decide +kernel
theorem dX8_feed_48 : decode cX8_feed 48 = .ok (.invokevirtual 70, 3) := by decide +kernel
theorem dX8_feed_51 : decode cX8_feed 51 = .ok (.aload_n 0, 1) := by decide +kernel
theorem dX8_feed_52 : decode cX8_feed 52 = .ok (.getfield 20, 3) := by decide +kernel
theorem dX8_feed_55 : decode cX8_feed 55 = .ok (.iload 5, 2) := by decide +kernel
theorem dX8_feed_57 : decode cX8_feed 57 = .ok (.invokevirtual 70, 3) := by decide +kernel
theorem dX8_feed_60 : decode cX8_feed 60 = .ok (.aload_n 0, 1) := by decide +kernel
theorem dX8_feed_61 : decode cX8_feed 61 = .ok (.getfield 20, 3) := by decide +kernel
theorem dX8_feed_64 : decode cX8_feed 64 = .ok (.getfield 64, 3) := by decide +kernel
theorem dX8_feed_67 : decode cX8_feed 67 = .ok (.ireturn, 1) := by decide +kernel
theorem dX8_end_0 : decode cX8_end 0 = .ok (.iload_n 1, 1) := by decide +kernel
theorem dX8_end_1 : decode cX8_end 1 = .ok (.ifCond .lt 14, 3) := by decide +kernel
theorem dX8_end_4 : decode cX8_end 4 = .ok (.iload_n 1, 1) := by decide +kernel
theorem dX8_end_5 : decode cX8_end 5 = .ok (.aload_n 0, 1) := by decide +kernel
theorem dX8_end_6 : decode cX8_end 6 = .ok (.getfield 20, 3) := by decide +kernel
theorem dX8_end_9 : decode cX8_end 9 = .ok (.getfield 64, 3) := by decide +kernel
theorem dX8_end_12 : decode cX8_end 12 = .ok (.if_icmp .le 5, 3) := by decide +kernel
theorem dX8_end_15 : decode cX8_end 15 = .ok (.iconst (-1), 1) := by decide +kernel
theorem dX8_end_16 : decode cX8_end 16 = .ok (.ireturn, 1) := by decide +kernel
theorem dX8_end_17 : decode cX8_end 17 = .ok (.aload_n 0, 1) := by decide +kernel
theorem dX8_end_18 : decode cX8_end 18 = .ok (.getfield 20, 3) := by decide +kernel
theorem dX8_end_21 : decode cX8_end 21 = .ok (.iload_n 1, 1) := by decide +kernel
theorem dX8_end_22 : decode cX8_end 22 = .ok (.putfield 64, 3) := by decide +kernel
theorem dX8_end_25 : decode cX8_end 25 = .ok (.iload_n 1, 1) := by decide +kernel
theorem dX8_end_26 : decode cX8_end 26 = .ok (.ireturn, 1) := by decide +kernel
theorem dX8_channel_0 : decode cX8_channel 0 = .ok (.aload_n 0, 1) := by decide +kernel
theorem dX8_channel_1 : decode cX8_channel 1 = .ok (.getfield 10, 3) := by decide +kernel
theorem dX8_channel_4 : decode cX8_channel 4 = .ok (.invokevirtual 74, 3) := by decide +kernel
theorem dX8_channel_7 : decode cX8_channel 7 = .ok (.istore_n 1, 1) := by decide +kernel
theorem dX8_channel_8 : decode cX8_channel 8 = .ok (.aload_n 0, 1) := by decide +kernel
theorem dX8_channel_9 : decode cX8_channel 9 = .ok (.getfield 20, 3) := by decide +kernel
theorem dX8_channel_12 : decode cX8_channel 12 = .ok (.iconst 0, 1) := by decide +kernel
theorem dX8_channel_13 : decode cX8_channel 13 = .ok (.putfield 64, 3) := by decide +kernel
theorem dX8_channel_16 : decode cX8_channel 16 = .ok (.iload_n 1, 1) := by decide +kernel
theorem dX8_channel_17 : decode cX8_channel 17 = .ok (.ifCond .ne 6, 3) := by decide +kernel
theorem dX8_channel_20 : decode cX8_channel 20 = .ok (.bipush (-4), 2) := by decide +kernel
theorem dX8_channel_22 : decode cX8_channel 22 = .ok (.ireturn, 1) := by decide +kernel
theorem dX8_channel_23 : decode cX8_channel 23 = .ok (.aload_n 0, 1) := by decide +kernel
theorem dX8_channel_24 : decode cX8_channel 24 = .ok (.getfield 36, 3) := by decide +kernel
theorem dX8_channel_27 : decode cX8_channel 27 = .ok (.aload_n 0, 1) := by decide +kernel
theorem dX8_channel_28 : decode cX8_channel 28 = .ok (.getfield 25, 3) := by decide +kernel
theorem dX8_channel_31 : decode cX8_channel 31 = .ok (.invokevirtual 78, 3) := by decide +kernel
theorem dX8_channel_34 : decode cX8_channel 34 = .ok (.aload_n 0, 1) := by decide +kernel
theorem dX8_channel_35 : decode cX8_channel 35 = .ok (.getfield 53, 3) := by decide +kernel
theorem dX8_channel_38 : decode cX8_channel 38 = .ok (.iconst 0, 1) := by decide +kernel
theorem dX8_channel_39 : decode cX8_channel 39 = .ok (.putfield 84, 3) := by decide +kernel
theorem dX8_channel_42 : decode cX8_channel 42 = .ok (.aload_n 0, 1) := by decide +kernel
theorem dX8_channel_43 : decode cX8_channel 43 = .ok (.getfield 29, 3) := by decide +kernel
theorem dX8_channel_46 : decode cX8_channel 46 = .ok (.aload_n 0, 1) := by decide +kernel
theorem dX8_channel_47 : decode cX8_channel 47 = .ok (.getfield 41, 3) := by decide +kernel
theorem dX8_channel_50 : decode cX8_channel 50 = .ok (.aload_n 0, 1) := by decide +kernel
theorem dX8_channel_51 : decode cX8_channel 51 = .ok (.getfield 36, 3) := by decide +kernel
theorem dX8_channel_54 : decode cX8_channel 54 = .ok (.getfield 87, 3) := by decide +kernel
theorem dX8_channel_57 : decode cX8_channel 57 = .ok (.iconst (-1), 1) := by decide +kernel
theorem dX8_channel_58 : decode cX8_channel 58 = .ok (.iconst (-1), 1) := by decide +kernel
theorem dX8_channel_59 : decode cX8_channel 59 = .ok (.invokevirtual 90, 3) := by decide +kernel
theorem dX8_channel_62 : decode cX8_channel 62 = .ok (.pop, 1) := by decide +kernel
theorem dX8_channel_63 : decode cX8_channel 63 = .ok (.aload_n 0, 1) := by decide +kernel
theorem dX8_channel_64 : decode cX8_channel 64 = .ok (.getfield 36, 3) := by decide +kernel
theorem dX8_channel_67 : decode cX8_channel 67 = .ok (.getfield 94, 3) := by decide +kernel
theorem dX8_channel_70 : decode cX8_channel 70 = .ok (.ireturn, 1) := by decide +kernel
theorem dX8_fault_0 : decode cX8_fault 0 = .ok (.iload_n 1, 1) := by decide +kernel
theorem dX8_fault_1 : decode cX8_fault 1 = .ok (.ifCond .ne 11, 3) := by decide +kernel
theorem dX8_fault_4 : decode cX8_fault 4 = .ok (.aload_n 0, 1) := by decide +kernel
theorem dX8_fault_5 : decode cX8_fault 5 = .ok (.getfield 10, 3) := by decide +kernel
theorem dX8_fault_8 : decode cX8_fault 8 = .ok (.getfield 97, 3) := by decide +kernel
theorem dX8_fault_11 : decode cX8_fault 11 = .ok (.ireturn, 1) := by decide +kernel
theorem dX8_fault_12 : decode cX8_fault 12 = .ok (.iload_n 1, 1) := by decide +kernel
theorem dX8_fault_13 : decode cX8_fault 13 = .ok (.iconst 1, 1) := by decide +kernel
theorem dX8_fault_14 : decode cX8_fault 14 = .ok (.if_icmp .ne 13, 3) := by decide +kernel
theorem dX8_fault_17 : decode cX8_fault 17 = .ok (.aload_n 0, 1) := by decide +kernel
theorem dX8_fault_18 : decode cX8_fault 18 = .ok (.getfield 10, 3) := by decide +kernel
theorem dX8_fault_21 : decode cX8_fault 21 = .ok (.getfield 100, 3) := by decide +kernel
theorem dX8_fault_24 : decode cX8_fault 24 = .ok (.goto 4, 3) := by decide +kernel
theorem dX8_fault_27 : decode cX8_fault 27 = .ok (.iconst (-1), 1) := by decide +kernel
theorem dX8_fault_28 : decode cX8_fault 28 = .ok (.ireturn, 1) := by decide +kernel
theorem dX8_count_0 : decode cX8_count 0 = .ok (.iload_n 1, 1) := by decide +kernel
theorem dX8_count_1 : decode cX8_count 1 = .ok (.tableswitch 123 0 8 #[51, 59, 67, 75, 83, 91, 99, 107, 115], 51) := by decide +kernel
theorem dX8_count_52 : decode cX8_count 52 = .ok (.aload_n 0, 1) := by decide +kernel
theorem dX8_count_53 : decode cX8_count 53 = .ok (.getfield 36, 3) := by decide +kernel
theorem dX8_count_56 : decode cX8_count 56 = .ok (.getfield 87, 3) := by decide +kernel
theorem dX8_count_59 : decode cX8_count 59 = .ok (.ireturn, 1) := by decide +kernel
theorem dX8_count_60 : decode cX8_count 60 = .ok (.aload_n 0, 1) := by decide +kernel
theorem dX8_count_61 : decode cX8_count 61 = .ok (.getfield 36, 3) := by decide +kernel
theorem dX8_count_64 : decode cX8_count 64 = .ok (.getfield 103, 3) := by decide +kernel
theorem dX8_count_67 : decode cX8_count 67 = .ok (.ireturn, 1) := by decide +kernel
theorem dX8_count_68 : decode cX8_count 68 = .ok (.aload_n 0, 1) := by decide +kernel
theorem dX8_count_69 : decode cX8_count 69 = .ok (.getfield 36, 3) := by decide +kernel
theorem dX8_count_72 : decode cX8_count 72 = .ok (.getfield 106, 3) := by decide +kernel
theorem dX8_count_75 : decode cX8_count 75 = .ok (.ireturn, 1) := by decide +kernel
theorem dX8_count_76 : decode cX8_count 76 = .ok (.aload_n 0, 1) := by decide +kernel
theorem dX8_count_77 : decode cX8_count 77 = .ok (.getfield 36, 3) := by decide +kernel
theorem dX8_count_80 : decode cX8_count 80 = .ok (.getfield 109, 3) := by decide +kernel
theorem dX8_count_83 : decode cX8_count 83 = .ok (.ireturn, 1) := by decide +kernel
theorem dX8_count_84 : decode cX8_count 84 = .ok (.aload_n 0, 1) := by decide +kernel
theorem dX8_count_85 : decode cX8_count 85 = .ok (.getfield 36, 3) := by decide +kernel
theorem dX8_count_88 : decode cX8_count 88 = .ok (.getfield 112, 3) := by decide +kernel
theorem dX8_count_91 : decode cX8_count 91 = .ok (.ireturn, 1) := by decide +kernel
theorem dX8_count_92 : decode cX8_count 92 = .ok (.aload_n 0, 1) := by decide +kernel
theorem dX8_count_93 : decode cX8_count 93 = .ok (.getfield 36, 3) := by decide +kernel
theorem dX8_count_96 : decode cX8_count 96 = .ok (.getfield 115, 3) := by decide +kernel
theorem dX8_count_99 : decode cX8_count 99 = .ok (.ireturn, 1) := by decide +kernel
theorem dX8_count_100 : decode cX8_count 100 = .ok (.aload_n 0, 1) := by decide +kernel
theorem dX8_count_101 : decode cX8_count 101 = .ok (.getfield 53, 3) := by decide +kernel
theorem dX8_count_104 : decode cX8_count 104 = .ok (.getfield 84, 3) := by decide +kernel
theorem dX8_count_107 : decode cX8_count 107 = .ok (.ireturn, 1) := by decide +kernel
theorem dX8_count_108 : decode cX8_count 108 = .ok (.aload_n 0, 1) := by decide +kernel
theorem dX8_count_109 : decode cX8_count 109 = .ok (.getfield 36, 3) := by decide +kernel
theorem dX8_count_112 : decode cX8_count 112 = .ok (.getfield 94, 3) := by decide +kernel
theorem dX8_count_115 : decode cX8_count 115 = .ok (.ireturn, 1) := by decide +kernel
theorem dX8_count_116 : decode cX8_count 116 = .ok (.aload_n 0, 1) := by decide +kernel
theorem dX8_count_117 : decode cX8_count 117 = .ok (.getfield 20, 3) := by decide +kernel
theorem dX8_count_120 : decode cX8_count 120 = .ok (.getfield 64, 3) := by decide +kernel
theorem dX8_count_123 : decode cX8_count 123 = .ok (.ireturn, 1) := by decide +kernel
theorem dX8_count_124 : decode cX8_count 124 = .ok (.iconst (-1), 1) := by decide +kernel
theorem dX8_count_125 : decode cX8_count 125 = .ok (.ireturn, 1) := by decide +kernel
theorem dX8_sender_0 : decode cX8_sender 0 = .ok (.aload_n 0, 1) := by decide +kernel
theorem dX8_sender_1 : decode cX8_sender 1 = .ok (.getfield 36, 3) := by decide +kernel
theorem dX8_sender_4 : decode cX8_sender 4 = .ok (.iload_n 1, 1) := by decide +kernel
theorem dX8_sender_5 : decode cX8_sender 5 = .ok (.invokevirtual 118, 3) := by decide +kernel
theorem dX8_sender_8 : decode cX8_sender 8 = .ok (.ifCond .eq 13, 3) := by decide +kernel
theorem dX8_sender_11 : decode cX8_sender 11 = .ok (.iload_n 2, 1) := by decide +kernel
theorem dX8_sender_12 : decode cX8_sender 12 = .ok (.ifCond .lt 9, 3) := by decide +kernel
theorem dX8_sender_15 : decode cX8_sender 15 = .ok (.iload_n 2, 1) := by decide +kernel
theorem dX8_sender_16 : decode cX8_sender 16 = .ok (.bipush 13, 2) := by decide +kernel
theorem dX8_sender_18 : decode cX8_sender 18 = .ok (.if_icmp .le 6, 3) := by decide +kernel
theorem dX8_sender_21 : decode cX8_sender 21 = .ok (.bipush (-2), 2) := by decide +kernel
theorem dX8_sender_23 : decode cX8_sender 23 = .ok (.ireturn, 1) := by decide +kernel
theorem dX8_sender_24 : decode cX8_sender 24 = .ok (.iload_n 2, 1) := by decide +kernel
theorem dX8_sender_25 : decode cX8_sender 25 = .ok (.ifCond .ne 15, 3) := by decide +kernel
theorem dX8_sender_28 : decode cX8_sender 28 = .ok (.aload_n 0, 1) := by decide +kernel
theorem dX8_sender_29 : decode cX8_sender 29 = .ok (.getfield 36, 3) := by decide +kernel
theorem dX8_sender_32 : decode cX8_sender 32 = .ok (.getfield 122, 3) := by decide +kernel
theorem dX8_sender_35 : decode cX8_sender 35 = .ok (.iload_n 1, 1) := by decide +kernel
theorem dX8_sender_36 : decode cX8_sender 36 = .ok (.invokestatic 126, 3) := by decide +kernel
theorem dX8_sender_39 : decode cX8_sender 39 = .ok (.ireturn, 1) := by decide +kernel
theorem dX8_sender_40 : decode cX8_sender 40 = .ok (.aload_n 0, 1) := by decide +kernel
theorem dX8_sender_41 : decode cX8_sender 41 = .ok (.getfield 36, 3) := by decide +kernel
theorem dX8_sender_44 : decode cX8_sender 44 = .ok (.getfield 130, 3) := by decide +kernel
theorem dX8_sender_47 : decode cX8_sender 47 = .ok (.iload_n 1, 1) := by decide +kernel
theorem dX8_sender_48 : decode cX8_sender 48 = .ok (.invokestatic 126, 3) := by decide +kernel
theorem dX8_sender_51 : decode cX8_sender 51 = .ok (.istore_n 3, 1) := by decide +kernel
theorem dX8_sender_52 : decode cX8_sender 52 = .ok (.iload_n 2, 1) := by decide +kernel
theorem dX8_sender_53 : decode cX8_sender 53 = .ok (.iconst 1, 1) := by decide +kernel
theorem dX8_sender_54 : decode cX8_sender 54 = .ok (.if_icmp .ne 5, 3) := by decide +kernel
theorem dX8_sender_57 : decode cX8_sender 57 = .ok (.iload_n 3, 1) := by decide +kernel
theorem dX8_sender_58 : decode cX8_sender 58 = .ok (.ireturn, 1) := by decide +kernel
theorem dX8_sender_59 : decode cX8_sender 59 = .ok (.iload_n 2, 1) := by decide +kernel
theorem dX8_sender_60 : decode cX8_sender 60 = .ok (.iconst 2, 1) := by decide +kernel
theorem dX8_sender_61 : decode cX8_sender 61 = .ok (.isub, 1) := by decide +kernel
theorem dX8_sender_62 : decode cX8_sender 62 = .ok (.iload_n 3, 1) := by decide +kernel
theorem dX8_sender_63 : decode cX8_sender 63 = .ok (.if_icmp .ge 17, 3) := by decide +kernel
theorem dX8_sender_66 : decode cX8_sender 66 = .ok (.aload_n 0, 1) := by decide +kernel
theorem dX8_sender_67 : decode cX8_sender 67 = .ok (.getfield 36, 3) := by decide +kernel
theorem dX8_sender_70 : decode cX8_sender 70 = .ok (.iload_n 1, 1) := by decide +kernel
theorem dX8_sender_71 : decode cX8_sender 71 = .ok (.iload_n 2, 1) := by decide +kernel
theorem dX8_sender_72 : decode cX8_sender 72 = .ok (.iconst 2, 1) := by decide +kernel
theorem dX8_sender_73 : decode cX8_sender 73 = .ok (.isub, 1) := by decide +kernel
theorem dX8_sender_74 : decode cX8_sender 74 = .ok (.invokevirtual 133, 3) := by decide +kernel
theorem dX8_sender_77 : decode cX8_sender 77 = .ok (.goto 4, 3) := by decide +kernel
theorem dX8_sender_80 : decode cX8_sender 80 = .ok (.iconst (-1), 1) := by decide +kernel
theorem dX8_sender_81 : decode cX8_sender 81 = .ok (.ireturn, 1) := by decide +kernel
theorem dX8_slot_0 : decode cX8_slot 0 = .ok (.aload_n 0, 1) := by decide +kernel
theorem dX8_slot_1 : decode cX8_slot 1 = .ok (.getfield 36, 3) := by decide +kernel
theorem dX8_slot_4 : decode cX8_slot 4 = .ok (.iload_n 1, 1) := by decide +kernel
theorem dX8_slot_5 : decode cX8_slot 5 = .ok (.invokevirtual 137, 3) := by decide +kernel
theorem dX8_slot_8 : decode cX8_slot 8 = .ok (.ifCond .ne 6, 3) := by decide +kernel
theorem dX8_slot_11 : decode cX8_slot 11 = .ok (.bipush (-2), 2) := by decide +kernel
theorem dX8_slot_13 : decode cX8_slot 13 = .ok (.ireturn, 1) := by decide +kernel
theorem dX8_slot_14 : decode cX8_slot 14 = .ok (.iload_n 2, 1) := by decide +kernel
theorem dX8_slot_15 : decode cX8_slot 15 = .ok (.tableswitch 96 0 4 #[33, 48, 60, 72, 84], 33) := by decide +kernel
theorem dX8_slot_48 : decode cX8_slot 48 = .ok (.aload_n 0, 1) := by decide +kernel
theorem dX8_slot_49 : decode cX8_slot 49 = .ok (.getfield 41, 3) := by decide +kernel
theorem dX8_slot_52 : decode cX8_slot 52 = .ok (.getfield 140, 3) := by decide +kernel
theorem dX8_slot_55 : decode cX8_slot 55 = .ok (.iload_n 1, 1) := by decide +kernel
theorem dX8_slot_56 : decode cX8_slot 56 = .ok (.invokestatic 126, 3) := by decide +kernel
theorem dX8_slot_59 : decode cX8_slot 59 = .ok (.invokestatic 143, 3) := by decide +kernel
theorem dX8_slot_62 : decode cX8_slot 62 = .ok (.ireturn, 1) := by decide +kernel
theorem dX8_slot_63 : decode cX8_slot 63 = .ok (.aload_n 0, 1) := by decide +kernel
theorem dX8_slot_64 : decode cX8_slot 64 = .ok (.getfield 41, 3) := by decide +kernel
theorem dX8_slot_67 : decode cX8_slot 67 = .ok (.getfield 149, 3) := by decide +kernel
theorem dX8_slot_70 : decode cX8_slot 70 = .ok (.iload_n 1, 1) := by decide +kernel
theorem dX8_slot_71 : decode cX8_slot 71 = .ok (.invokestatic 126, 3) := by decide +kernel
theorem dX8_slot_74 : decode cX8_slot 74 = .ok (.ireturn, 1) := by decide +kernel
theorem dX8_slot_75 : decode cX8_slot 75 = .ok (.aload_n 0, 1) := by decide +kernel
theorem dX8_slot_76 : decode cX8_slot 76 = .ok (.getfield 41, 3) := by decide +kernel
theorem dX8_slot_79 : decode cX8_slot 79 = .ok (.getfield 152, 3) := by decide +kernel
theorem dX8_slot_82 : decode cX8_slot 82 = .ok (.iload_n 1, 1) := by decide +kernel
theorem dX8_slot_83 : decode cX8_slot 83 = .ok (.invokestatic 126, 3) := by decide +kernel
theorem dX8_slot_86 : decode cX8_slot 86 = .ok (.ireturn, 1) := by decide +kernel
theorem dX8_slot_87 : decode cX8_slot 87 = .ok (.aload_n 0, 1) := by decide +kernel
theorem dX8_slot_88 : decode cX8_slot 88 = .ok (.getfield 41, 3) := by decide +kernel
theorem dX8_slot_91 : decode cX8_slot 91 = .ok (.getfield 155, 3) := by decide +kernel
theorem dX8_slot_94 : decode cX8_slot 94 = .ok (.iload_n 1, 1) := by decide +kernel
theorem dX8_slot_95 : decode cX8_slot 95 = .ok (.invokestatic 126, 3) := by decide +kernel
theorem dX8_slot_98 : decode cX8_slot 98 = .ok (.ireturn, 1) := by decide +kernel
theorem dX8_slot_99 : decode cX8_slot 99 = .ok (.aload_n 0, 1) := by decide +kernel
theorem dX8_slot_100 : decode cX8_slot 100 = .ok (.getfield 41, 3) := by decide +kernel
theorem dX8_slot_103 : decode cX8_slot 103 = .ok (.getfield 158, 3) := by decide +kernel
theorem dX8_slot_106 : decode cX8_slot 106 = .ok (.iload_n 1, 1) := by decide +kernel
theorem dX8_slot_107 : decode cX8_slot 107 = .ok (.invokestatic 126, 3) := by decide +kernel
theorem dX8_slot_110 : decode cX8_slot 110 = .ok (.ireturn, 1) := by decide +kernel
theorem dX8_slot_111 : decode cX8_slot 111 = .ok (.bipush (-2), 2) := by decide +kernel
theorem dX8_slot_113 : decode cX8_slot 113 = .ok (.ireturn, 1) := by decide +kernel
theorem dX8_sends_0 : decode cX8_sends 0 = .ok (.aload_n 0, 1) := by decide +kernel
theorem dX8_sends_1 : decode cX8_sends 1 = .ok (.getfield 36, 3) := by decide +kernel
theorem dX8_sends_4 : decode cX8_sends 4 = .ok (.iload_n 1, 1) := by decide +kernel
theorem dX8_sends_5 : decode cX8_sends 5 = .ok (.invokevirtual 137, 3) := by decide +kernel
theorem dX8_sends_8 : decode cX8_sends 8 = .ok (.ifCond .eq 14, 3) := by decide +kernel
theorem dX8_sends_11 : decode cX8_sends 11 = .ok (.aload_n 0, 1) := by decide +kernel
theorem dX8_sends_12 : decode cX8_sends 12 = .ok (.getfield 36, 3) := by decide +kernel
theorem dX8_sends_15 : decode cX8_sends 15 = .ok (.iload_n 2, 1) := by decide +kernel
theorem dX8_sends_16 : decode cX8_sends 16 = .ok (.invokevirtual 118, 3) := by decide +kernel
theorem dX8_sends_19 : decode cX8_sends 19 = .ok (.ifCond .ne 6, 3) := by decide +kernel
theorem dX8_sends_22 : decode cX8_sends 22 = .ok (.bipush (-2), 2) := by decide +kernel
theorem dX8_sends_24 : decode cX8_sends 24 = .ok (.ireturn, 1) := by decide +kernel
theorem dX8_sends_25 : decode cX8_sends 25 = .ok (.aload_n 0, 1) := by decide +kernel
theorem dX8_sends_26 : decode cX8_sends 26 = .ok (.getfield 41, 3) := by decide +kernel
theorem dX8_sends_29 : decode cX8_sends 29 = .ok (.getfield 140, 3) := by decide +kernel
theorem dX8_sends_32 : decode cX8_sends 32 = .ok (.iload_n 1, 1) := by decide +kernel
theorem dX8_sends_33 : decode cX8_sends 33 = .ok (.invokestatic 126, 3) := by decide +kernel
theorem dX8_sends_36 : decode cX8_sends 36 = .ok (.iload_n 2, 1) := by decide +kernel
theorem dX8_sends_37 : decode cX8_sends 37 = .ok (.ishr, 1) := by decide +kernel
theorem dX8_sends_38 : decode cX8_sends 38 = .ok (.iconst 1, 1) := by decide +kernel
theorem dX8_sends_39 : decode cX8_sends 39 = .ok (.iand, 1) := by decide +kernel
theorem dX8_sends_40 : decode cX8_sends 40 = .ok (.ireturn, 1) := by decide +kernel
theorem dX8_delivered_0 : decode cX8_delivered 0 = .ok (.aload_n 0, 1) := by decide +kernel
theorem dX8_delivered_1 : decode cX8_delivered 1 = .ok (.getfield 36, 3) := by decide +kernel
theorem dX8_delivered_4 : decode cX8_delivered 4 = .ok (.iload_n 1, 1) := by decide +kernel
theorem dX8_delivered_5 : decode cX8_delivered 5 = .ok (.invokevirtual 118, 3) := by decide +kernel
theorem dX8_delivered_8 : decode cX8_delivered 8 = .ok (.ifCond .eq 17, 3) := by decide +kernel
theorem dX8_delivered_11 : decode cX8_delivered 11 = .ok (.aload_n 0, 1) := by decide +kernel
theorem dX8_delivered_12 : decode cX8_delivered 12 = .ok (.getfield 41, 3) := by decide +kernel
theorem dX8_delivered_15 : decode cX8_delivered 15 = .ok (.getfield 161, 3) := by decide +kernel
theorem dX8_delivered_18 : decode cX8_delivered 18 = .ok (.iload_n 1, 1) := by decide +kernel
theorem dX8_delivered_19 : decode cX8_delivered 19 = .ok (.invokestatic 126, 3) := by decide +kernel
theorem dX8_delivered_22 : decode cX8_delivered 22 = .ok (.goto 5, 3) := by decide +kernel
theorem dX8_delivered_25 : decode cX8_delivered 25 = .ok (.bipush (-2), 2) := by decide +kernel
theorem dX8_delivered_27 : decode cX8_delivered 27 = .ok (.ireturn, 1) := by decide +kernel
theorem dX8_tries_0 : decode cX8_tries 0 = .ok (.aload_n 0, 1) := by decide +kernel
theorem dX8_tries_1 : decode cX8_tries 1 = .ok (.getfield 36, 3) := by decide +kernel
theorem dX8_tries_4 : decode cX8_tries 4 = .ok (.iload_n 1, 1) := by decide +kernel
theorem dX8_tries_5 : decode cX8_tries 5 = .ok (.invokevirtual 118, 3) := by decide +kernel
theorem dX8_tries_8 : decode cX8_tries 8 = .ok (.ifCond .eq 17, 3) := by decide +kernel
theorem dX8_tries_11 : decode cX8_tries 11 = .ok (.aload_n 0, 1) := by decide +kernel
theorem dX8_tries_12 : decode cX8_tries 12 = .ok (.getfield 41, 3) := by decide +kernel
theorem dX8_tries_15 : decode cX8_tries 15 = .ok (.getfield 164, 3) := by decide +kernel
theorem dX8_tries_18 : decode cX8_tries 18 = .ok (.iload_n 1, 1) := by decide +kernel
theorem dX8_tries_19 : decode cX8_tries 19 = .ok (.invokestatic 126, 3) := by decide +kernel
theorem dX8_tries_22 : decode cX8_tries 22 = .ok (.goto 5, 3) := by decide +kernel
theorem dX8_tries_25 : decode cX8_tries 25 = .ok (.bipush (-2), 2) := by decide +kernel
theorem dX8_tries_27 : decode cX8_tries 27 = .ok (.ireturn, 1) := by decide +kernel
theorem dX8_taken_0 : decode cX8_taken 0 = .ok (.aload_n 0, 1) := by decide +kernel
theorem dX8_taken_1 : decode cX8_taken 1 = .ok (.getfield 36, 3) := by decide +kernel
theorem dX8_taken_4 : decode cX8_taken 4 = .ok (.iload_n 1, 1) := by decide +kernel
theorem dX8_taken_5 : decode cX8_taken 5 = .ok (.invokevirtual 118, 3) := by decide +kernel
theorem dX8_taken_8 : decode cX8_taken 8 = .ok (.ifCond .eq 17, 3) := by decide +kernel
theorem dX8_taken_11 : decode cX8_taken 11 = .ok (.aload_n 0, 1) := by decide +kernel
theorem dX8_taken_12 : decode cX8_taken 12 = .ok (.getfield 41, 3) := by decide +kernel
theorem dX8_taken_15 : decode cX8_taken 15 = .ok (.getfield 167, 3) := by decide +kernel
theorem dX8_taken_18 : decode cX8_taken 18 = .ok (.iload_n 1, 1) := by decide +kernel
theorem dX8_taken_19 : decode cX8_taken 19 = .ok (.invokestatic 126, 3) := by decide +kernel
theorem dX8_taken_22 : decode cX8_taken 22 = .ok (.goto 5, 3) := by decide +kernel
theorem dX8_taken_25 : decode cX8_taken 25 = .ok (.bipush (-2), 2) := by decide +kernel
theorem dX8_taken_27 : decode cX8_taken 27 = .ok (.ireturn, 1) := by decide +kernel
theorem dX8_order_0 : decode cX8_order 0 = .ok (.iload_n 1, 1) := by decide +kernel
theorem dX8_order_1 : decode cX8_order 1 = .ok (.ifCond .lt 13, 3) := by decide +kernel
theorem dX8_order_4 : decode cX8_order 4 = .ok (.aload_n 0, 1) := by decide +kernel
theorem dX8_order_5 : decode cX8_order 5 = .ok (.getfield 36, 3) := by decide +kernel
theorem dX8_order_8 : decode cX8_order 8 = .ok (.invokevirtual 170, 3) := by decide +kernel
theorem dX8_order_11 : decode cX8_order 11 = .ok (.ifCond .ne 6, 3) := by decide +kernel
theorem dX8_order_14 : decode cX8_order 14 = .ok (.bipush (-2), 2) := by decide +kernel
theorem dX8_order_16 : decode cX8_order 16 = .ok (.ireturn, 1) := by decide +kernel
theorem dX8_order_17 : decode cX8_order 17 = .ok (.iload_n 1, 1) := by decide +kernel
theorem dX8_order_18 : decode cX8_order 18 = .ok (.aload_n 0, 1) := by decide +kernel
theorem dX8_order_19 : decode cX8_order 19 = .ok (.getfield 41, 3) := by decide +kernel
theorem dX8_order_22 : decode cX8_order 22 = .ok (.getfield 173, 3) := by decide +kernel
theorem dX8_order_25 : decode cX8_order 25 = .ok (.if_icmp .ge 17, 3) := by decide +kernel
theorem dX8_order_28 : decode cX8_order 28 = .ok (.aload_n 0, 1) := by decide +kernel
theorem dX8_order_29 : decode cX8_order 29 = .ok (.getfield 41, 3) := by decide +kernel
theorem dX8_order_32 : decode cX8_order 32 = .ok (.getfield 176, 3) := by decide +kernel
theorem dX8_order_35 : decode cX8_order 35 = .ok (.iload_n 1, 1) := by decide +kernel
theorem dX8_order_36 : decode cX8_order 36 = .ok (.invokestatic 126, 3) := by decide +kernel
theorem dX8_order_39 : decode cX8_order 39 = .ok (.goto 4, 3) := by decide +kernel
theorem dX8_order_42 : decode cX8_order 42 = .ok (.iconst (-1), 1) := by decide +kernel
theorem dX8_order_43 : decode cX8_order 43 = .ok (.ireturn, 1) := by decide +kernel
theorem dX8_all_0 : decode cX8_all 0 = .ok (.aload_n 0, 1) := by decide +kernel
theorem dX8_all_1 : decode cX8_all 1 = .ok (.getfield 36, 3) := by decide +kernel
theorem dX8_all_4 : decode cX8_all 4 = .ok (.invokevirtual 170, 3) := by decide +kernel
theorem dX8_all_7 : decode cX8_all 7 = .ok (.ifCond .eq 13, 3) := by decide +kernel
theorem dX8_all_10 : decode cX8_all 10 = .ok (.aload_n 0, 1) := by decide +kernel
theorem dX8_all_11 : decode cX8_all 11 = .ok (.getfield 41, 3) := by decide +kernel
theorem dX8_all_14 : decode cX8_all 14 = .ok (.getfield 173, 3) := by decide +kernel
theorem dX8_all_17 : decode cX8_all 17 = .ok (.goto 5, 3) := by decide +kernel
theorem dX8_all_20 : decode cX8_all 20 = .ok (.bipush (-2), 2) := by decide +kernel
theorem dX8_all_22 : decode cX8_all 22 = .ok (.ireturn, 1) := by decide +kernel
theorem dX8_done_0 : decode cX8_done 0 = .ok (.aload_n 0, 1) := by decide +kernel
theorem dX8_done_1 : decode cX8_done 1 = .ok (.getfield 36, 3) := by decide +kernel
theorem dX8_done_4 : decode cX8_done 4 = .ok (.invokevirtual 170, 3) := by decide +kernel
theorem dX8_done_7 : decode cX8_done 7 = .ok (.ifCond .eq 20, 3) := by decide +kernel
theorem dX8_done_10 : decode cX8_done 10 = .ok (.aload_n 0, 1) := by decide +kernel
theorem dX8_done_11 : decode cX8_done 11 = .ok (.getfield 41, 3) := by decide +kernel
theorem dX8_done_14 : decode cX8_done 14 = .ok (.aload_n 0, 1) := by decide +kernel
theorem dX8_done_15 : decode cX8_done 15 = .ok (.getfield 36, 3) := by decide +kernel
theorem dX8_done_18 : decode cX8_done 18 = .ok (.getfield 112, 3) := by decide +kernel
theorem dX8_done_21 : decode cX8_done 21 = .ok (.invokevirtual 179, 3) := by decide +kernel
theorem dX8_done_24 : decode cX8_done 24 = .ok (.goto 5, 3) := by decide +kernel
theorem dX8_done_27 : decode cX8_done 27 = .ok (.bipush (-2), 2) := by decide +kernel
theorem dX8_done_29 : decode cX8_done 29 = .ok (.ireturn, 1) := by decide +kernel
theorem dX8_heard_0 : decode cX8_heard 0 = .ok (.iload_n 1, 1) := by decide +kernel
theorem dX8_heard_1 : decode cX8_heard 1 = .ok (.ifCond .lt 18, 3) := by decide +kernel
theorem dX8_heard_4 : decode cX8_heard 4 = .ok (.iload_n 1, 1) := by decide +kernel
theorem dX8_heard_5 : decode cX8_heard 5 = .ok (.iconst 2, 1) := by decide +kernel
theorem dX8_heard_6 : decode cX8_heard 6 = .ok (.if_icmp .gt 13, 3) := by decide +kernel
theorem dX8_heard_9 : decode cX8_heard 9 = .ok (.aload_n 0, 1) := by decide +kernel
theorem dX8_heard_10 : decode cX8_heard 10 = .ok (.getfield 36, 3) := by decide +kernel
theorem dX8_heard_13 : decode cX8_heard 13 = .ok (.invokevirtual 170, 3) := by decide +kernel
theorem dX8_heard_16 : decode cX8_heard 16 = .ok (.ifCond .ne 6, 3) := by decide +kernel
theorem dX8_heard_19 : decode cX8_heard 19 = .ok (.bipush (-2), 2) := by decide +kernel
theorem dX8_heard_21 : decode cX8_heard 21 = .ok (.ireturn, 1) := by decide +kernel
theorem dX8_heard_22 : decode cX8_heard 22 = .ok (.aload_n 0, 1) := by decide +kernel
theorem dX8_heard_23 : decode cX8_heard 23 = .ok (.getfield 41, 3) := by decide +kernel
theorem dX8_heard_26 : decode cX8_heard 26 = .ok (.iload_n 1, 1) := by decide +kernel
theorem dX8_heard_27 : decode cX8_heard 27 = .ok (.aload_n 0, 1) := by decide +kernel
theorem dX8_heard_28 : decode cX8_heard 28 = .ok (.getfield 36, 3) := by decide +kernel
theorem dX8_heard_31 : decode cX8_heard 31 = .ok (.getfield 103, 3) := by decide +kernel
theorem dX8_heard_34 : decode cX8_heard 34 = .ok (.invokevirtual 182, 3) := by decide +kernel
theorem dX8_heard_37 : decode cX8_heard 37 = .ok (.ireturn, 1) := by decide +kernel
theorem dX8_collided_0 : decode cX8_collided 0 = .ok (.aload_n 0, 1) := by decide +kernel
theorem dX8_collided_1 : decode cX8_collided 1 = .ok (.getfield 36, 3) := by decide +kernel
theorem dX8_collided_4 : decode cX8_collided 4 = .ok (.invokevirtual 170, 3) := by decide +kernel
theorem dX8_collided_7 : decode cX8_collided 7 = .ok (.ifCond .eq 20, 3) := by decide +kernel
theorem dX8_collided_10 : decode cX8_collided 10 = .ok (.aload_n 0, 1) := by decide +kernel
theorem dX8_collided_11 : decode cX8_collided 11 = .ok (.getfield 41, 3) := by decide +kernel
theorem dX8_collided_14 : decode cX8_collided 14 = .ok (.aload_n 0, 1) := by decide +kernel
theorem dX8_collided_15 : decode cX8_collided 15 = .ok (.getfield 36, 3) := by decide +kernel
theorem dX8_collided_18 : decode cX8_collided 18 = .ok (.getfield 103, 3) := by decide +kernel
theorem dX8_collided_21 : decode cX8_collided 21 = .ok (.invokevirtual 185, 3) := by decide +kernel
theorem dX8_collided_24 : decode cX8_collided 24 = .ok (.goto 5, 3) := by decide +kernel
theorem dX8_collided_27 : decode cX8_collided 27 = .ok (.bipush (-2), 2) := by decide +kernel
theorem dX8_collided_29 : decode cX8_collided 29 = .ok (.ireturn, 1) := by decide +kernel
theorem dX8_skips_0 : decode cX8_skips 0 = .ok (.aload_n 0, 1) := by decide +kernel
theorem dX8_skips_1 : decode cX8_skips 1 = .ok (.getfield 36, 3) := by decide +kernel
theorem dX8_skips_4 : decode cX8_skips 4 = .ok (.invokevirtual 170, 3) := by decide +kernel
theorem dX8_skips_7 : decode cX8_skips 7 = .ok (.ifCond .eq 20, 3) := by decide +kernel
theorem dX8_skips_10 : decode cX8_skips 10 = .ok (.aload_n 0, 1) := by decide +kernel
theorem dX8_skips_11 : decode cX8_skips 11 = .ok (.getfield 41, 3) := by decide +kernel
theorem dX8_skips_14 : decode cX8_skips 14 = .ok (.aload_n 0, 1) := by decide +kernel
theorem dX8_skips_15 : decode cX8_skips 15 = .ok (.getfield 36, 3) := by decide +kernel
theorem dX8_skips_18 : decode cX8_skips 18 = .ok (.getfield 103, 3) := by decide +kernel
theorem dX8_skips_21 : decode cX8_skips 21 = .ok (.invokevirtual 188, 3) := by decide +kernel
theorem dX8_skips_24 : decode cX8_skips 24 = .ok (.goto 5, 3) := by decide +kernel
theorem dX8_skips_27 : decode cX8_skips 27 = .ok (.bipush (-2), 2) := by decide +kernel
theorem dX8_skips_29 : decode cX8_skips 29 = .ok (.ireturn, 1) := by decide +kernel
theorem dX8_deepest_0 : decode cX8_deepest 0 = .ok (.aload_n 0, 1) := by decide +kernel
theorem dX8_deepest_1 : decode cX8_deepest 1 = .ok (.getfield 36, 3) := by decide +kernel
theorem dX8_deepest_4 : decode cX8_deepest 4 = .ok (.invokevirtual 170, 3) := by decide +kernel
theorem dX8_deepest_7 : decode cX8_deepest 7 = .ok (.ifCond .eq 20, 3) := by decide +kernel
theorem dX8_deepest_10 : decode cX8_deepest 10 = .ok (.aload_n 0, 1) := by decide +kernel
theorem dX8_deepest_11 : decode cX8_deepest 11 = .ok (.getfield 41, 3) := by decide +kernel
theorem dX8_deepest_14 : decode cX8_deepest 14 = .ok (.aload_n 0, 1) := by decide +kernel
theorem dX8_deepest_15 : decode cX8_deepest 15 = .ok (.getfield 36, 3) := by decide +kernel
theorem dX8_deepest_18 : decode cX8_deepest 18 = .ok (.getfield 103, 3) := by decide +kernel
theorem dX8_deepest_21 : decode cX8_deepest 21 = .ok (.invokevirtual 191, 3) := by decide +kernel
theorem dX8_deepest_24 : decode cX8_deepest 24 = .ok (.goto 5, 3) := by decide +kernel
theorem dX8_deepest_27 : decode cX8_deepest 27 = .ok (.bipush (-2), 2) := by decide +kernel
theorem dX8_deepest_29 : decode cX8_deepest 29 = .ok (.ireturn, 1) := by decide +kernel
theorem dX8_epochs_0 : decode cX8_epochs 0 = .ok (.aload_n 0, 1) := by decide +kernel
theorem dX8_epochs_1 : decode cX8_epochs 1 = .ok (.getfield 36, 3) := by decide +kernel
theorem dX8_epochs_4 : decode cX8_epochs 4 = .ok (.invokevirtual 170, 3) := by decide +kernel
theorem dX8_epochs_7 : decode cX8_epochs 7 = .ok (.ifCond .eq 13, 3) := by decide +kernel
theorem dX8_epochs_10 : decode cX8_epochs 10 = .ok (.aload_n 0, 1) := by decide +kernel
theorem dX8_epochs_11 : decode cX8_epochs 11 = .ok (.getfield 41, 3) := by decide +kernel
theorem dX8_epochs_14 : decode cX8_epochs 14 = .ok (.getfield 194, 3) := by decide +kernel
theorem dX8_epochs_17 : decode cX8_epochs 17 = .ok (.goto 5, 3) := by decide +kernel
theorem dX8_epochs_20 : decode cX8_epochs 20 = .ok (.bipush (-2), 2) := by decide +kernel
theorem dX8_epochs_22 : decode cX8_epochs 22 = .ok (.ireturn, 1) := by decide +kernel
theorem dX8_epoch_0 : decode cX8_epoch 0 = .ok (.iload_n 1, 1) := by decide +kernel
theorem dX8_epoch_1 : decode cX8_epoch 1 = .ok (.ifCond .lt 22, 3) := by decide +kernel
theorem dX8_epoch_4 : decode cX8_epoch 4 = .ok (.iload_n 2, 1) := by decide +kernel
theorem dX8_epoch_5 : decode cX8_epoch 5 = .ok (.ifCond .lt 18, 3) := by decide +kernel
theorem dX8_epoch_8 : decode cX8_epoch 8 = .ok (.iload_n 2, 1) := by decide +kernel
theorem dX8_epoch_9 : decode cX8_epoch 9 = .ok (.iconst 2, 1) := by decide +kernel
theorem dX8_epoch_10 : decode cX8_epoch 10 = .ok (.if_icmp .gt 13, 3) := by decide +kernel
theorem dX8_epoch_13 : decode cX8_epoch 13 = .ok (.aload_n 0, 1) := by decide +kernel
theorem dX8_epoch_14 : decode cX8_epoch 14 = .ok (.getfield 36, 3) := by decide +kernel
theorem dX8_epoch_17 : decode cX8_epoch 17 = .ok (.invokevirtual 170, 3) := by decide +kernel
theorem dX8_epoch_20 : decode cX8_epoch 20 = .ok (.ifCond .ne 6, 3) := by decide +kernel
theorem dX8_epoch_23 : decode cX8_epoch 23 = .ok (.bipush (-2), 2) := by decide +kernel
theorem dX8_epoch_25 : decode cX8_epoch 25 = .ok (.ireturn, 1) := by decide +kernel
theorem dX8_epoch_26 : decode cX8_epoch 26 = .ok (.iload_n 1, 1) := by decide +kernel
theorem dX8_epoch_27 : decode cX8_epoch 27 = .ok (.aload_n 0, 1) := by decide +kernel
theorem dX8_epoch_28 : decode cX8_epoch 28 = .ok (.getfield 41, 3) := by decide +kernel
theorem dX8_epoch_31 : decode cX8_epoch 31 = .ok (.getfield 194, 3) := by decide +kernel
theorem dX8_epoch_34 : decode cX8_epoch 34 = .ok (.if_icmp .lt 5, 3) := by decide +kernel
theorem dX8_epoch_37 : decode cX8_epoch 37 = .ok (.iconst (-1), 1) := by decide +kernel
theorem dX8_epoch_38 : decode cX8_epoch 38 = .ok (.ireturn, 1) := by decide +kernel
theorem dX8_epoch_39 : decode cX8_epoch 39 = .ok (.iload_n 2, 1) := by decide +kernel
theorem dX8_epoch_40 : decode cX8_epoch 40 = .ok (.lookupswitch 52 #[(0, 28), (1, 40)], 28) := by decide +kernel
theorem dX8_epoch_68 : decode cX8_epoch 68 = .ok (.aload_n 0, 1) := by decide +kernel
theorem dX8_epoch_69 : decode cX8_epoch 69 = .ok (.getfield 41, 3) := by decide +kernel
theorem dX8_epoch_72 : decode cX8_epoch 72 = .ok (.getfield 197, 3) := by decide +kernel
theorem dX8_epoch_75 : decode cX8_epoch 75 = .ok (.iload_n 1, 1) := by decide +kernel
theorem dX8_epoch_76 : decode cX8_epoch 76 = .ok (.invokestatic 126, 3) := by decide +kernel
theorem dX8_epoch_79 : decode cX8_epoch 79 = .ok (.ireturn, 1) := by decide +kernel
theorem dX8_epoch_80 : decode cX8_epoch 80 = .ok (.aload_n 0, 1) := by decide +kernel
theorem dX8_epoch_81 : decode cX8_epoch 81 = .ok (.getfield 41, 3) := by decide +kernel
theorem dX8_epoch_84 : decode cX8_epoch 84 = .ok (.getfield 200, 3) := by decide +kernel
theorem dX8_epoch_87 : decode cX8_epoch 87 = .ok (.iload_n 1, 1) := by decide +kernel
theorem dX8_epoch_88 : decode cX8_epoch 88 = .ok (.invokestatic 126, 3) := by decide +kernel
theorem dX8_epoch_91 : decode cX8_epoch 91 = .ok (.ireturn, 1) := by decide +kernel
theorem dX8_epoch_92 : decode cX8_epoch 92 = .ok (.aload_n 0, 1) := by decide +kernel
theorem dX8_epoch_93 : decode cX8_epoch 93 = .ok (.getfield 41, 3) := by decide +kernel
theorem dX8_epoch_96 : decode cX8_epoch 96 = .ok (.getfield 203, 3) := by decide +kernel
theorem dX8_epoch_99 : decode cX8_epoch 99 = .ok (.iload_n 1, 1) := by decide +kernel
theorem dX8_epoch_100 : decode cX8_epoch 100 = .ok (.invokestatic 126, 3) := by decide +kernel
theorem dX8_epoch_103 : decode cX8_epoch 103 = .ok (.ireturn, 1) := by decide +kernel
theorem dX8_behind_0 : decode cX8_behind 0 = .ok (.aload_n 0, 1) := by decide +kernel
theorem dX8_behind_1 : decode cX8_behind 1 = .ok (.getfield 36, 3) := by decide +kernel
theorem dX8_behind_4 : decode cX8_behind 4 = .ok (.iload_n 1, 1) := by decide +kernel
theorem dX8_behind_5 : decode cX8_behind 5 = .ok (.invokevirtual 118, 3) := by decide +kernel
theorem dX8_behind_8 : decode cX8_behind 8 = .ok (.ifCond .ne 6, 3) := by decide +kernel
theorem dX8_behind_11 : decode cX8_behind 11 = .ok (.bipush (-2), 2) := by decide +kernel
theorem dX8_behind_13 : decode cX8_behind 13 = .ok (.ireturn, 1) := by decide +kernel
theorem dX8_behind_14 : decode cX8_behind 14 = .ok (.aload_n 0, 1) := by decide +kernel
theorem dX8_behind_15 : decode cX8_behind 15 = .ok (.getfield 41, 3) := by decide +kernel
theorem dX8_behind_18 : decode cX8_behind 18 = .ok (.getfield 161, 3) := by decide +kernel
theorem dX8_behind_21 : decode cX8_behind 21 = .ok (.iload_n 1, 1) := by decide +kernel
theorem dX8_behind_22 : decode cX8_behind 22 = .ok (.invokestatic 126, 3) := by decide +kernel
theorem dX8_behind_25 : decode cX8_behind 25 = .ok (.istore_n 2, 1) := by decide +kernel
theorem dX8_behind_26 : decode cX8_behind 26 = .ok (.iload_n 2, 1) := by decide +kernel
theorem dX8_behind_27 : decode cX8_behind 27 = .ok (.iconst (-1), 1) := by decide +kernel
theorem dX8_behind_28 : decode cX8_behind 28 = .ok (.if_icmp .ne 15, 3) := by decide +kernel
theorem dX8_behind_31 : decode cX8_behind 31 = .ok (.aload_n 0, 1) := by decide +kernel
theorem dX8_behind_32 : decode cX8_behind 32 = .ok (.getfield 36, 3) := by decide +kernel
theorem dX8_behind_35 : decode cX8_behind 35 = .ok (.getfield 103, 3) := by decide +kernel
theorem dX8_behind_38 : decode cX8_behind 38 = .ok (.iconst 1, 1) := by decide +kernel
theorem dX8_behind_39 : decode cX8_behind 39 = .ok (.isub, 1) := by decide +kernel
theorem dX8_behind_40 : decode cX8_behind 40 = .ok (.goto 4, 3) := by decide +kernel
theorem dX8_behind_43 : decode cX8_behind 43 = .ok (.iload_n 2, 1) := by decide +kernel
theorem dX8_behind_44 : decode cX8_behind 44 = .ok (.istore_n 3, 1) := by decide +kernel
theorem dX8_behind_45 : decode cX8_behind 45 = .ok (.iconst 0, 1) := by decide +kernel
theorem dX8_behind_46 : decode cX8_behind 46 = .ok (.istore 4, 2) := by decide +kernel
theorem dX8_behind_48 : decode cX8_behind 48 = .ok (.aload_n 0, 1) := by decide +kernel
theorem dX8_behind_49 : decode cX8_behind 49 = .ok (.getfield 36, 3) := by decide +kernel
theorem dX8_behind_52 : decode cX8_behind 52 = .ok (.getfield 122, 3) := by decide +kernel
theorem dX8_behind_55 : decode cX8_behind 55 = .ok (.iload_n 1, 1) := by decide +kernel
theorem dX8_behind_56 : decode cX8_behind 56 = .ok (.invokestatic 126, 3) := by decide +kernel
theorem dX8_behind_59 : decode cX8_behind 59 = .ok (.istore 5, 2) := by decide +kernel
theorem dX8_behind_61 : decode cX8_behind 61 = .ok (.iload 5, 2) := by decide +kernel
theorem dX8_behind_63 : decode cX8_behind 63 = .ok (.iload_n 3, 1) := by decide +kernel
theorem dX8_behind_64 : decode cX8_behind 64 = .ok (.if_icmp .gt 38, 3) := by decide +kernel
theorem dX8_behind_67 : decode cX8_behind 67 = .ok (.aload_n 0, 1) := by decide +kernel
theorem dX8_behind_68 : decode cX8_behind 68 = .ok (.getfield 41, 3) := by decide +kernel
theorem dX8_behind_71 : decode cX8_behind 71 = .ok (.getfield 152, 3) := by decide +kernel
theorem dX8_behind_74 : decode cX8_behind 74 = .ok (.iload 5, 2) := by decide +kernel
theorem dX8_behind_76 : decode cX8_behind 76 = .ok (.invokestatic 126, 3) := by decide +kernel
theorem dX8_behind_79 : decode cX8_behind 79 = .ok (.istore 6, 2) := by decide +kernel
theorem dX8_behind_81 : decode cX8_behind 81 = .ok (.iload 6, 2) := by decide +kernel
theorem dX8_behind_83 : decode cX8_behind 83 = .ok (.iconst (-1), 1) := by decide +kernel
theorem dX8_behind_84 : decode cX8_behind 84 = .ok (.if_icmp .eq 12, 3) := by decide +kernel
theorem dX8_behind_87 : decode cX8_behind 87 = .ok (.iload 6, 2) := by decide +kernel
theorem dX8_behind_89 : decode cX8_behind 89 = .ok (.iload_n 1, 1) := by decide +kernel
theorem dX8_behind_90 : decode cX8_behind 90 = .ok (.if_icmp .eq 6, 3) := by decide +kernel
theorem dX8_behind_93 : decode cX8_behind 93 = .ok (.iinc 4 1, 3) := by decide +kernel
theorem dX8_behind_96 : decode cX8_behind 96 = .ok (.iinc 5 1, 3) := by decide +kernel
theorem dX8_behind_99 : decode cX8_behind 99 = .ok (.goto (-38), 3) := by decide +kernel
theorem dX8_behind_102 : decode cX8_behind 102 = .ok (.iload 4, 2) := by decide +kernel
theorem dX8_behind_104 : decode cX8_behind 104 = .ok (.ireturn, 1) := by decide +kernel
theorem dX8_by_0 : decode cX8_by 0 = .ok (.iload_n 1, 1) := by decide +kernel
theorem dX8_by_1 : decode cX8_by 1 = .ok (.invokestatic 206, 3) := by decide +kernel
theorem dX8_by_4 : decode cX8_by 4 = .ok (.ifCond .eq 22, 3) := by decide +kernel
theorem dX8_by_7 : decode cX8_by 7 = .ok (.iload_n 2, 1) := by decide +kernel
theorem dX8_by_8 : decode cX8_by 8 = .ok (.ifCond .lt 18, 3) := by decide +kernel
theorem dX8_by_11 : decode cX8_by 11 = .ok (.iload_n 2, 1) := by decide +kernel
theorem dX8_by_12 : decode cX8_by 12 = .ok (.iconst 3, 1) := by decide +kernel
theorem dX8_by_13 : decode cX8_by 13 = .ok (.if_icmp .gt 13, 3) := by decide +kernel
theorem dX8_by_16 : decode cX8_by 16 = .ok (.aload_n 0, 1) := by decide +kernel
theorem dX8_by_17 : decode cX8_by 17 = .ok (.getfield 36, 3) := by decide +kernel
theorem dX8_by_20 : decode cX8_by 20 = .ok (.invokevirtual 170, 3) := by decide +kernel
theorem dX8_by_23 : decode cX8_by 23 = .ok (.ifCond .ne 6, 3) := by decide +kernel
theorem dX8_by_26 : decode cX8_by 26 = .ok (.bipush (-2), 2) := by decide +kernel
theorem dX8_by_28 : decode cX8_by 28 = .ok (.ireturn, 1) := by decide +kernel
theorem dX8_by_29 : decode cX8_by 29 = .ok (.aload_n 0, 1) := by decide +kernel
theorem dX8_by_30 : decode cX8_by 30 = .ok (.getfield 29, 3) := by decide +kernel
theorem dX8_by_33 : decode cX8_by 33 = .ok (.aload_n 0, 1) := by decide +kernel
theorem dX8_by_34 : decode cX8_by 34 = .ok (.getfield 47, 3) := by decide +kernel
theorem dX8_by_37 : decode cX8_by 37 = .ok (.iload_n 1, 1) := by decide +kernel
theorem dX8_by_38 : decode cX8_by 38 = .ok (.iconst (-1), 1) := by decide +kernel
theorem dX8_by_39 : decode cX8_by 39 = .ok (.iconst (-1), 1) := by decide +kernel
theorem dX8_by_40 : decode cX8_by 40 = .ok (.invokevirtual 90, 3) := by decide +kernel
theorem dX8_by_43 : decode cX8_by 43 = .ok (.pop, 1) := by decide +kernel
theorem dX8_by_44 : decode cX8_by 44 = .ok (.iload_n 2, 1) := by decide +kernel
theorem dX8_by_45 : decode cX8_by 45 = .ok (.tableswitch 65 0 2 #[27, 42, 50], 27) := by decide +kernel
theorem dX8_by_72 : decode cX8_by 72 = .ok (.aload_n 0, 1) := by decide +kernel
theorem dX8_by_73 : decode cX8_by 73 = .ok (.getfield 47, 3) := by decide +kernel
theorem dX8_by_76 : decode cX8_by 76 = .ok (.aload_n 0, 1) := by decide +kernel
theorem dX8_by_77 : decode cX8_by 77 = .ok (.getfield 36, 3) := by decide +kernel
theorem dX8_by_80 : decode cX8_by 80 = .ok (.getfield 112, 3) := by decide +kernel
theorem dX8_by_83 : decode cX8_by 83 = .ok (.invokevirtual 179, 3) := by decide +kernel
theorem dX8_by_86 : decode cX8_by 86 = .ok (.ireturn, 1) := by decide +kernel
theorem dX8_by_87 : decode cX8_by 87 = .ok (.aload_n 0, 1) := by decide +kernel
theorem dX8_by_88 : decode cX8_by 88 = .ok (.getfield 47, 3) := by decide +kernel
theorem dX8_by_91 : decode cX8_by 91 = .ok (.getfield 173, 3) := by decide +kernel
theorem dX8_by_94 : decode cX8_by 94 = .ok (.ireturn, 1) := by decide +kernel
theorem dX8_by_95 : decode cX8_by 95 = .ok (.aload_n 0, 1) := by decide +kernel
theorem dX8_by_96 : decode cX8_by 96 = .ok (.getfield 47, 3) := by decide +kernel
theorem dX8_by_99 : decode cX8_by 99 = .ok (.aload_n 0, 1) := by decide +kernel
theorem dX8_by_100 : decode cX8_by 100 = .ok (.getfield 36, 3) := by decide +kernel
theorem dX8_by_103 : decode cX8_by 103 = .ok (.getfield 103, 3) := by decide +kernel
theorem dX8_by_106 : decode cX8_by 106 = .ok (.invokevirtual 185, 3) := by decide +kernel
theorem dX8_by_109 : decode cX8_by 109 = .ok (.ireturn, 1) := by decide +kernel
theorem dX8_by_110 : decode cX8_by 110 = .ok (.aload_n 0, 1) := by decide +kernel
theorem dX8_by_111 : decode cX8_by 111 = .ok (.getfield 47, 3) := by decide +kernel
theorem dX8_by_114 : decode cX8_by 114 = .ok (.aload_n 0, 1) := by decide +kernel
theorem dX8_by_115 : decode cX8_by 115 = .ok (.getfield 36, 3) := by decide +kernel
theorem dX8_by_118 : decode cX8_by 118 = .ok (.getfield 103, 3) := by decide +kernel
theorem dX8_by_121 : decode cX8_by 121 = .ok (.invokevirtual 188, 3) := by decide +kernel
theorem dX8_by_124 : decode cX8_by 124 = .ok (.ireturn, 1) := by decide +kernel
theorem dX8_without_0 : decode cX8_without 0 = .ok (.aload_n 0, 1) := by decide +kernel
theorem dX8_without_1 : decode cX8_without 1 = .ok (.getfield 36, 3) := by decide +kernel
theorem dX8_without_4 : decode cX8_without 4 = .ok (.iload_n 1, 1) := by decide +kernel
theorem dX8_without_5 : decode cX8_without 5 = .ok (.invokevirtual 209, 3) := by decide +kernel
theorem dX8_without_8 : decode cX8_without 8 = .ok (.ifCond .ne 6, 3) := by decide +kernel
theorem dX8_without_11 : decode cX8_without 11 = .ok (.bipush (-99), 2) := by decide +kernel
theorem dX8_without_13 : decode cX8_without 13 = .ok (.ireturn, 1) := by decide +kernel
theorem dX8_without_14 : decode cX8_without 14 = .ok (.aload_n 0, 1) := by decide +kernel
theorem dX8_without_15 : decode cX8_without 15 = .ok (.getfield 29, 3) := by decide +kernel
theorem dX8_without_18 : decode cX8_without 18 = .ok (.aload_n 0, 1) := by decide +kernel
theorem dX8_without_19 : decode cX8_without 19 = .ok (.getfield 47, 3) := by decide +kernel
theorem dX8_without_22 : decode cX8_without 22 = .ok (.aload_n 0, 1) := by decide +kernel
theorem dX8_without_23 : decode cX8_without 23 = .ok (.getfield 36, 3) := by decide +kernel
theorem dX8_without_26 : decode cX8_without 26 = .ok (.getfield 87, 3) := by decide +kernel
theorem dX8_without_29 : decode cX8_without 29 = .ok (.iload_n 1, 1) := by decide +kernel
theorem dX8_without_30 : decode cX8_without 30 = .ok (.iconst (-1), 1) := by decide +kernel
theorem dX8_without_31 : decode cX8_without 31 = .ok (.invokevirtual 90, 3) := by decide +kernel
theorem dX8_without_34 : decode cX8_without 34 = .ok (.aload_n 0, 1) := by decide +kernel
theorem dX8_without_35 : decode cX8_without 35 = .ok (.getfield 41, 3) := by decide +kernel
theorem dX8_without_38 : decode cX8_without 38 = .ok (.getfield 173, 3) := by decide +kernel
theorem dX8_without_41 : decode cX8_without 41 = .ok (.isub, 1) := by decide +kernel
theorem dX8_without_42 : decode cX8_without 42 = .ok (.ireturn, 1) := by decide +kernel
theorem dX8_noise_0 : decode cX8_noise 0 = .ok (.aload_n 0, 1) := by decide +kernel
theorem dX8_noise_1 : decode cX8_noise 1 = .ok (.getfield 36, 3) := by decide +kernel
theorem dX8_noise_4 : decode cX8_noise 4 = .ok (.iload_n 1, 1) := by decide +kernel
theorem dX8_noise_5 : decode cX8_noise 5 = .ok (.invokevirtual 209, 3) := by decide +kernel
theorem dX8_noise_8 : decode cX8_noise 8 = .ok (.ifCond .ne 6, 3) := by decide +kernel
theorem dX8_noise_11 : decode cX8_noise 11 = .ok (.bipush (-2), 2) := by decide +kernel
theorem dX8_noise_13 : decode cX8_noise 13 = .ok (.ireturn, 1) := by decide +kernel
theorem dX8_noise_14 : decode cX8_noise 14 = .ok (.iload_n 2, 1) := by decide +kernel
theorem dX8_noise_15 : decode cX8_noise 15 = .ok (.lookupswitch 49 #[(0, 25), (1, 37)], 25) := by decide +kernel
theorem dX8_noise_40 : decode cX8_noise 40 = .ok (.aload_n 0, 1) := by decide +kernel
theorem dX8_noise_41 : decode cX8_noise 41 = .ok (.getfield 36, 3) := by decide +kernel
theorem dX8_noise_44 : decode cX8_noise 44 = .ok (.getfield 212, 3) := by decide +kernel
theorem dX8_noise_47 : decode cX8_noise 47 = .ok (.iload_n 1, 1) := by decide +kernel
theorem dX8_noise_48 : decode cX8_noise 48 = .ok (.invokestatic 126, 3) := by decide +kernel
theorem dX8_noise_51 : decode cX8_noise 51 = .ok (.ireturn, 1) := by decide +kernel
theorem dX8_noise_52 : decode cX8_noise 52 = .ok (.aload_n 0, 1) := by decide +kernel
theorem dX8_noise_53 : decode cX8_noise 53 = .ok (.getfield 36, 3) := by decide +kernel
theorem dX8_noise_56 : decode cX8_noise 56 = .ok (.getfield 215, 3) := by decide +kernel
theorem dX8_noise_59 : decode cX8_noise 59 = .ok (.iload_n 1, 1) := by decide +kernel
theorem dX8_noise_60 : decode cX8_noise 60 = .ok (.invokestatic 126, 3) := by decide +kernel
theorem dX8_noise_63 : decode cX8_noise 63 = .ok (.ireturn, 1) := by decide +kernel
theorem dX8_noise_64 : decode cX8_noise 64 = .ok (.bipush (-2), 2) := by decide +kernel
theorem dX8_noise_66 : decode cX8_noise 66 = .ok (.ireturn, 1) := by decide +kernel
theorem dX8_alone_0 : decode cX8_alone 0 = .ok (.aload_n 0, 1) := by decide +kernel
theorem dX8_alone_1 : decode cX8_alone 1 = .ok (.getfield 36, 3) := by decide +kernel
theorem dX8_alone_4 : decode cX8_alone 4 = .ok (.iload_n 1, 1) := by decide +kernel
theorem dX8_alone_5 : decode cX8_alone 5 = .ok (.invokevirtual 118, 3) := by decide +kernel
theorem dX8_alone_8 : decode cX8_alone 8 = .ok (.ifCond .ne 6, 3) := by decide +kernel
theorem dX8_alone_11 : decode cX8_alone 11 = .ok (.bipush (-2), 2) := by decide +kernel
theorem dX8_alone_13 : decode cX8_alone 13 = .ok (.ireturn, 1) := by decide +kernel
theorem dX8_alone_14 : decode cX8_alone 14 = .ok (.aload_n 0, 1) := by decide +kernel
theorem dX8_alone_15 : decode cX8_alone 15 = .ok (.getfield 29, 3) := by decide +kernel
theorem dX8_alone_18 : decode cX8_alone 18 = .ok (.aload_n 0, 1) := by decide +kernel
theorem dX8_alone_19 : decode cX8_alone 19 = .ok (.getfield 47, 3) := by decide +kernel
theorem dX8_alone_22 : decode cX8_alone 22 = .ok (.aload_n 0, 1) := by decide +kernel
theorem dX8_alone_23 : decode cX8_alone 23 = .ok (.getfield 36, 3) := by decide +kernel
theorem dX8_alone_26 : decode cX8_alone 26 = .ok (.getfield 87, 3) := by decide +kernel
theorem dX8_alone_29 : decode cX8_alone 29 = .ok (.iconst (-1), 1) := by decide +kernel
theorem dX8_alone_30 : decode cX8_alone 30 = .ok (.iload_n 1, 1) := by decide +kernel
theorem dX8_alone_31 : decode cX8_alone 31 = .ok (.invokevirtual 90, 3) := by decide +kernel
theorem dX8_alone_34 : decode cX8_alone 34 = .ok (.ireturn, 1) := by decide +kernel
theorem dX8_worst_0 : decode cX8_worst 0 = .ok (.aload_n 0, 1) := by decide +kernel
theorem dX8_worst_1 : decode cX8_worst 1 = .ok (.getfield 36, 3) := by decide +kernel
theorem dX8_worst_4 : decode cX8_worst 4 = .ok (.invokevirtual 170, 3) := by decide +kernel
theorem dX8_worst_7 : decode cX8_worst 7 = .ok (.ifCond .ne 6, 3) := by decide +kernel
theorem dX8_worst_10 : decode cX8_worst 10 = .ok (.bipush (-2), 2) := by decide +kernel
theorem dX8_worst_12 : decode cX8_worst 12 = .ok (.ireturn, 1) := by decide +kernel
theorem dX8_worst_13 : decode cX8_worst 13 = .ok (.iconst (-1), 1) := by decide +kernel
theorem dX8_worst_14 : decode cX8_worst 14 = .ok (.istore_n 1, 1) := by decide +kernel
theorem dX8_worst_15 : decode cX8_worst 15 = .ok (.iconst 0, 1) := by decide +kernel
theorem dX8_worst_16 : decode cX8_worst 16 = .ok (.istore_n 2, 1) := by decide +kernel
theorem dX8_worst_17 : decode cX8_worst 17 = .ok (.iconst 0, 1) := by decide +kernel
theorem dX8_worst_18 : decode cX8_worst 18 = .ok (.istore_n 3, 1) := by decide +kernel
theorem dX8_worst_19 : decode cX8_worst 19 = .ok (.iload_n 3, 1) := by decide +kernel
theorem dX8_worst_20 : decode cX8_worst 20 = .ok (.aload_n 0, 1) := by decide +kernel
theorem dX8_worst_21 : decode cX8_worst 21 = .ok (.getfield 36, 3) := by decide +kernel
theorem dX8_worst_24 : decode cX8_worst 24 = .ok (.getfield 115, 3) := by decide +kernel
theorem dX8_worst_27 : decode cX8_worst 27 = .ok (.if_icmp .ge 50, 3) := by decide +kernel
theorem dX8_worst_30 : decode cX8_worst 30 = .ok (.aload_n 0, 1) := by decide +kernel
theorem dX8_worst_31 : decode cX8_worst 31 = .ok (.getfield 29, 3) := by decide +kernel
theorem dX8_worst_34 : decode cX8_worst 34 = .ok (.aload_n 0, 1) := by decide +kernel
theorem dX8_worst_35 : decode cX8_worst 35 = .ok (.getfield 47, 3) := by decide +kernel
theorem dX8_worst_38 : decode cX8_worst 38 = .ok (.aload_n 0, 1) := by decide +kernel
theorem dX8_worst_39 : decode cX8_worst 39 = .ok (.getfield 36, 3) := by decide +kernel
theorem dX8_worst_42 : decode cX8_worst 42 = .ok (.getfield 87, 3) := by decide +kernel
theorem dX8_worst_45 : decode cX8_worst 45 = .ok (.iload_n 3, 1) := by decide +kernel
theorem dX8_worst_46 : decode cX8_worst 46 = .ok (.iconst (-1), 1) := by decide +kernel
theorem dX8_worst_47 : decode cX8_worst 47 = .ok (.invokevirtual 90, 3) := by decide +kernel
theorem dX8_worst_50 : decode cX8_worst 50 = .ok (.aload_n 0, 1) := by decide +kernel
theorem dX8_worst_51 : decode cX8_worst 51 = .ok (.getfield 41, 3) := by decide +kernel
theorem dX8_worst_54 : decode cX8_worst 54 = .ok (.getfield 173, 3) := by decide +kernel
theorem dX8_worst_57 : decode cX8_worst 57 = .ok (.isub, 1) := by decide +kernel
theorem dX8_worst_58 : decode cX8_worst 58 = .ok (.istore 4, 2) := by decide +kernel
theorem dX8_worst_60 : decode cX8_worst 60 = .ok (.iload 4, 2) := by decide +kernel
theorem dX8_worst_62 : decode cX8_worst 62 = .ok (.iload_n 2, 1) := by decide +kernel
theorem dX8_worst_63 : decode cX8_worst 63 = .ok (.if_icmp .le 8, 3) := by decide +kernel
theorem dX8_worst_66 : decode cX8_worst 66 = .ok (.iload 4, 2) := by decide +kernel
theorem dX8_worst_68 : decode cX8_worst 68 = .ok (.istore_n 2, 1) := by decide +kernel
theorem dX8_worst_69 : decode cX8_worst 69 = .ok (.iload_n 3, 1) := by decide +kernel
theorem dX8_worst_70 : decode cX8_worst 70 = .ok (.istore_n 1, 1) := by decide +kernel
theorem dX8_worst_71 : decode cX8_worst 71 = .ok (.iinc 3 1, 3) := by decide +kernel
theorem dX8_worst_74 : decode cX8_worst 74 = .ok (.goto (-55), 3) := by decide +kernel
theorem dX8_worst_77 : decode cX8_worst 77 = .ok (.iload_n 1, 1) := by decide +kernel
theorem dX8_worst_78 : decode cX8_worst 78 = .ok (.ireturn, 1) := by decide +kernel
theorem dX8_mean_0 : decode cX8_mean 0 = .ok (.iload_n 1, 1) := by decide +kernel
theorem dX8_mean_1 : decode cX8_mean 1 = .ok (.invokestatic 218, 3) := by decide +kernel
theorem dX8_mean_4 : decode cX8_mean 4 = .ok (.ifCond .eq 20, 3) := by decide +kernel
theorem dX8_mean_7 : decode cX8_mean 7 = .ok (.iload_n 2, 1) := by decide +kernel
theorem dX8_mean_8 : decode cX8_mean 8 = .ok (.ifCond .lt 16, 3) := by decide +kernel
theorem dX8_mean_11 : decode cX8_mean 11 = .ok (.iload_n 2, 1) := by decide +kernel
theorem dX8_mean_12 : decode cX8_mean 12 = .ok (.bipush 8, 2) := by decide +kernel
theorem dX8_mean_14 : decode cX8_mean 14 = .ok (.if_icmp .gt 10, 3) := by decide +kernel
theorem dX8_mean_17 : decode cX8_mean 17 = .ok (.iload_n 3, 1) := by decide +kernel
theorem dX8_mean_18 : decode cX8_mean 18 = .ok (.invokestatic 221, 3) := by decide +kernel
theorem dX8_mean_21 : decode cX8_mean 21 = .ok (.ifCond .ne 7, 3) := by decide +kernel
theorem dX8_mean_24 : decode cX8_mean 24 = .ok (.ldc2_w 224, 3) := by decide +kernel
theorem dX8_mean_27 : decode cX8_mean 27 = .ok (.lreturn, 1) := by decide +kernel
theorem dX8_mean_28 : decode cX8_mean 28 = .ok (.aload_n 0, 1) := by decide +kernel
theorem dX8_mean_29 : decode cX8_mean 29 = .ok (.getfield 60, 3) := by decide +kernel
theorem dX8_mean_32 : decode cX8_mean 32 = .ok (.iload_n 1, 1) := by decide +kernel
theorem dX8_mean_33 : decode cX8_mean 33 = .ok (.iload_n 2, 1) := by decide +kernel
theorem dX8_mean_34 : decode cX8_mean 34 = .ok (.iconst 1, 1) := by decide +kernel
theorem dX8_mean_35 : decode cX8_mean 35 = .ok (.iconst 2, 1) := by decide +kernel
theorem dX8_mean_36 : decode cX8_mean 36 = .ok (.invokevirtual 226, 3) := by decide +kernel
theorem dX8_mean_39 : decode cX8_mean 39 = .ok (.iload_n 3, 1) := by decide +kernel
theorem dX8_mean_40 : decode cX8_mean 40 = .ok (.ifCond .ne 17, 3) := by decide +kernel
theorem dX8_mean_43 : decode cX8_mean 43 = .ok (.aload_n 0, 1) := by decide +kernel
theorem dX8_mean_44 : decode cX8_mean 44 = .ok (.getfield 60, 3) := by decide +kernel
theorem dX8_mean_47 : decode cX8_mean 47 = .ok (.getfield 230, 3) := by decide +kernel
theorem dX8_mean_50 : decode cX8_mean 50 = .ok (.iload_n 2, 1) := by decide +kernel
theorem dX8_mean_51 : decode cX8_mean 51 = .ok (.invokestatic 234, 3) := by decide +kernel
theorem dX8_mean_54 : decode cX8_mean 54 = .ok (.goto 14, 3) := by decide +kernel
theorem dX8_mean_57 : decode cX8_mean 57 = .ok (.aload_n 0, 1) := by decide +kernel
theorem dX8_mean_58 : decode cX8_mean 58 = .ok (.getfield 60, 3) := by decide +kernel
theorem dX8_mean_61 : decode cX8_mean 61 = .ok (.getfield 237, 3) := by decide +kernel
theorem dX8_mean_64 : decode cX8_mean 64 = .ok (.iload_n 2, 1) := by decide +kernel
theorem dX8_mean_65 : decode cX8_mean 65 = .ok (.invokestatic 234, 3) := by decide +kernel
theorem dX8_mean_68 : decode cX8_mean 68 = .ok (.lreturn, 1) := by decide +kernel
theorem dX8_leaning_0 : decode cX8_leaning 0 = .ok (.iload_n 1, 1) := by decide +kernel
theorem dX8_leaning_1 : decode cX8_leaning 1 = .ok (.invokestatic 218, 3) := by decide +kernel
theorem dX8_leaning_4 : decode cX8_leaning 4 = .ok (.ifCond .eq 20, 3) := by decide +kernel
theorem dX8_leaning_7 : decode cX8_leaning 7 = .ok (.iload_n 2, 1) := by decide +kernel
theorem dX8_leaning_8 : decode cX8_leaning 8 = .ok (.ifCond .lt 16, 3) := by decide +kernel
theorem dX8_leaning_11 : decode cX8_leaning 11 = .ok (.iload_n 2, 1) := by decide +kernel
theorem dX8_leaning_12 : decode cX8_leaning 12 = .ok (.iconst 5, 1) := by decide +kernel
theorem dX8_leaning_13 : decode cX8_leaning 13 = .ok (.if_icmp .gt 11, 3) := by decide +kernel
theorem dX8_leaning_16 : decode cX8_leaning 16 = .ok (.iload 5, 2) := by decide +kernel
theorem dX8_leaning_18 : decode cX8_leaning 18 = .ok (.invokestatic 221, 3) := by decide +kernel
theorem dX8_leaning_21 : decode cX8_leaning 21 = .ok (.ifCond .ne 7, 3) := by decide +kernel
theorem dX8_leaning_24 : decode cX8_leaning 24 = .ok (.ldc2_w 224, 3) := by decide +kernel
theorem dX8_leaning_27 : decode cX8_leaning 27 = .ok (.lreturn, 1) := by decide +kernel
theorem dX8_leaning_28 : decode cX8_leaning 28 = .ok (.iload_n 3, 1) := by decide +kernel
theorem dX8_leaning_29 : decode cX8_leaning 29 = .ok (.iconst 1, 1) := by decide +kernel
theorem dX8_leaning_30 : decode cX8_leaning 30 = .ok (.if_icmp .lt 26, 3) := by decide +kernel
theorem dX8_leaning_33 : decode cX8_leaning 33 = .ok (.iload_n 3, 1) := by decide +kernel
theorem dX8_leaning_34 : decode cX8_leaning 34 = .ok (.iconst 4, 1) := by decide +kernel
theorem dX8_leaning_35 : decode cX8_leaning 35 = .ok (.if_icmp .gt 21, 3) := by decide +kernel
theorem dX8_leaning_38 : decode cX8_leaning 38 = .ok (.iload 4, 2) := by decide +kernel
theorem dX8_leaning_40 : decode cX8_leaning 40 = .ok (.iconst 2, 1) := by decide +kernel
theorem dX8_leaning_41 : decode cX8_leaning 41 = .ok (.if_icmp .lt 15, 3) := by decide +kernel
theorem dX8_leaning_44 : decode cX8_leaning 44 = .ok (.iload 4, 2) := by decide +kernel
theorem dX8_leaning_46 : decode cX8_leaning 46 = .ok (.iconst 5, 1) := by decide +kernel
theorem dX8_leaning_47 : decode cX8_leaning 47 = .ok (.if_icmp .gt 9, 3) := by decide +kernel
theorem dX8_leaning_50 : decode cX8_leaning 50 = .ok (.iload_n 3, 1) := by decide +kernel
theorem dX8_leaning_51 : decode cX8_leaning 51 = .ok (.iload 4, 2) := by decide +kernel
theorem dX8_leaning_53 : decode cX8_leaning 53 = .ok (.if_icmp .lt 7, 3) := by decide +kernel
theorem dX8_leaning_56 : decode cX8_leaning 56 = .ok (.ldc2_w 224, 3) := by decide +kernel
theorem dX8_leaning_59 : decode cX8_leaning 59 = .ok (.lreturn, 1) := by decide +kernel
theorem dX8_leaning_60 : decode cX8_leaning 60 = .ok (.aload_n 0, 1) := by decide +kernel
theorem dX8_leaning_61 : decode cX8_leaning 61 = .ok (.getfield 60, 3) := by decide +kernel
theorem dX8_leaning_64 : decode cX8_leaning 64 = .ok (.iload_n 1, 1) := by decide +kernel
theorem dX8_leaning_65 : decode cX8_leaning 65 = .ok (.iload_n 2, 1) := by decide +kernel
theorem dX8_leaning_66 : decode cX8_leaning 66 = .ok (.iload_n 3, 1) := by decide +kernel
theorem dX8_leaning_67 : decode cX8_leaning 67 = .ok (.iload 4, 2) := by decide +kernel
theorem dX8_leaning_69 : decode cX8_leaning 69 = .ok (.invokevirtual 226, 3) := by decide +kernel
theorem dX8_leaning_72 : decode cX8_leaning 72 = .ok (.iload 5, 2) := by decide +kernel
theorem dX8_leaning_74 : decode cX8_leaning 74 = .ok (.ifCond .ne 17, 3) := by decide +kernel
theorem dX8_leaning_77 : decode cX8_leaning 77 = .ok (.aload_n 0, 1) := by decide +kernel
theorem dX8_leaning_78 : decode cX8_leaning 78 = .ok (.getfield 60, 3) := by decide +kernel
theorem dX8_leaning_81 : decode cX8_leaning 81 = .ok (.getfield 230, 3) := by decide +kernel
theorem dX8_leaning_84 : decode cX8_leaning 84 = .ok (.iload_n 2, 1) := by decide +kernel
theorem dX8_leaning_85 : decode cX8_leaning 85 = .ok (.invokestatic 234, 3) := by decide +kernel
theorem dX8_leaning_88 : decode cX8_leaning 88 = .ok (.goto 14, 3) := by decide +kernel
theorem dX8_leaning_91 : decode cX8_leaning 91 = .ok (.aload_n 0, 1) := by decide +kernel
theorem dX8_leaning_92 : decode cX8_leaning 92 = .ok (.getfield 60, 3) := by decide +kernel
theorem dX8_leaning_95 : decode cX8_leaning 95 = .ok (.getfield 237, 3) := by decide +kernel
end
section
theorem dX8_leaning_98 : decode cX8_leaning 98 = .ok (.iload_n 2, 1) := by decide +kernel
theorem dX8_leaning_99 : decode cX8_leaning 99 = .ok (.invokestatic 234, 3) := by decide +kernel
theorem dX8_leaning_102 : decode cX8_leaning 102 = .ok (.lreturn, 1) := by decide +kernel
theorem dX8_chance_0 : decode cX8_chance 0 = .ok (.iload_n 1, 1) := by decide +kernel
theorem dX8_chance_1 : decode cX8_chance 1 = .ok (.invokestatic 218, 3) := by decide +kernel
theorem dX8_chance_4 : decode cX8_chance 4 = .ok (.ifCond .eq 20, 3) := by decide +kernel
theorem dX8_chance_7 : decode cX8_chance 7 = .ok (.iload_n 2, 1) := by decide +kernel
theorem dX8_chance_8 : decode cX8_chance 8 = .ok (.ifCond .lt 16, 3) := by decide +kernel
theorem dX8_chance_11 : decode cX8_chance 11 = .ok (.iload_n 2, 1) := by decide +kernel
theorem dX8_chance_12 : decode cX8_chance 12 = .ok (.iconst 3, 1) := by decide +kernel
theorem dX8_chance_13 : decode cX8_chance 13 = .ok (.if_icmp .gt 11, 3) := by decide +kernel
theorem dX8_chance_16 : decode cX8_chance 16 = .ok (.iload 4, 2) := by decide +kernel
theorem dX8_chance_18 : decode cX8_chance 18 = .ok (.invokestatic 221, 3) := by decide +kernel
theorem dX8_chance_21 : decode cX8_chance 21 = .ok (.ifCond .ne 7, 3) := by decide +kernel
theorem dX8_chance_24 : decode cX8_chance 24 = .ok (.ldc2_w 224, 3) := by decide +kernel
theorem dX8_chance_27 : decode cX8_chance 27 = .ok (.lreturn, 1) := by decide +kernel
theorem dX8_chance_28 : decode cX8_chance 28 = .ok (.iload_n 3, 1) := by decide +kernel
theorem dX8_chance_29 : decode cX8_chance 29 = .ok (.iconst 1, 1) := by decide +kernel
theorem dX8_chance_30 : decode cX8_chance 30 = .ok (.if_icmp .lt 9, 3) := by decide +kernel
theorem dX8_chance_33 : decode cX8_chance 33 = .ok (.iload_n 3, 1) := by decide +kernel
theorem dX8_chance_34 : decode cX8_chance 34 = .ok (.bipush 12, 2) := by decide +kernel
theorem dX8_chance_36 : decode cX8_chance 36 = .ok (.if_icmp .le 7, 3) := by decide +kernel
theorem dX8_chance_39 : decode cX8_chance 39 = .ok (.ldc2_w 224, 3) := by decide +kernel
theorem dX8_chance_42 : decode cX8_chance 42 = .ok (.lreturn, 1) := by decide +kernel
theorem dX8_chance_43 : decode cX8_chance 43 = .ok (.aload_n 0, 1) := by decide +kernel
theorem dX8_chance_44 : decode cX8_chance 44 = .ok (.getfield 60, 3) := by decide +kernel
theorem dX8_chance_47 : decode cX8_chance 47 = .ok (.iload_n 1, 1) := by decide +kernel
theorem dX8_chance_48 : decode cX8_chance 48 = .ok (.iload_n 2, 1) := by decide +kernel
theorem dX8_chance_49 : decode cX8_chance 49 = .ok (.iload_n 3, 1) := by decide +kernel
theorem dX8_chance_50 : decode cX8_chance 50 = .ok (.invokevirtual 240, 3) := by decide +kernel
theorem dX8_chance_53 : decode cX8_chance 53 = .ok (.iload 4, 2) := by decide +kernel
theorem dX8_chance_55 : decode cX8_chance 55 = .ok (.ifCond .ne 13, 3) := by decide +kernel
theorem dX8_chance_58 : decode cX8_chance 58 = .ok (.aload_n 0, 1) := by decide +kernel
theorem dX8_chance_59 : decode cX8_chance 59 = .ok (.getfield 60, 3) := by decide +kernel
theorem dX8_chance_62 : decode cX8_chance 62 = .ok (.getfield 244, 3) := by decide +kernel
theorem dX8_chance_65 : decode cX8_chance 65 = .ok (.goto 10, 3) := by decide +kernel
theorem dX8_chance_68 : decode cX8_chance 68 = .ok (.aload_n 0, 1) := by decide +kernel
theorem dX8_chance_69 : decode cX8_chance 69 = .ok (.getfield 60, 3) := by decide +kernel
theorem dX8_chance_72 : decode cX8_chance 72 = .ok (.getfield 248, 3) := by decide +kernel
theorem dX8_chance_75 : decode cX8_chance 75 = .ok (.lreturn, 1) := by decide +kernel
theorem dX8_best_0 : decode cX8_best 0 = .ok (.iload_n 1, 1) := by decide +kernel
theorem dX8_best_1 : decode cX8_best 1 = .ok (.invokestatic 218, 3) := by decide +kernel
theorem dX8_best_4 : decode cX8_best 4 = .ok (.ifCond .eq 14, 3) := by decide +kernel
theorem dX8_best_7 : decode cX8_best 7 = .ok (.aload_n 0, 1) := by decide +kernel
theorem dX8_best_8 : decode cX8_best 8 = .ok (.getfield 60, 3) := by decide +kernel
theorem dX8_best_11 : decode cX8_best 11 = .ok (.iload_n 1, 1) := by decide +kernel
theorem dX8_best_12 : decode cX8_best 12 = .ok (.invokevirtual 251, 3) := by decide +kernel
theorem dX8_best_15 : decode cX8_best 15 = .ok (.goto 5, 3) := by decide +kernel
theorem dX8_best_18 : decode cX8_best 18 = .ok (.bipush (-2), 2) := by decide +kernel
theorem dX8_best_20 : decode cX8_best 20 = .ok (.ireturn, 1) := by decide +kernel
theorem dX8_add_0 : decode cX8_add 0 = .ok (.aload_n 0, 1) := by decide +kernel
theorem dX8_add_1 : decode cX8_add 1 = .ok (.getfield 36, 3) := by decide +kernel
theorem dX8_add_4 : decode cX8_add 4 = .ok (.invokevirtual 170, 3) := by decide +kernel
theorem dX8_add_7 : decode cX8_add 7 = .ok (.ifCond .eq 25, 3) := by decide +kernel
theorem dX8_add_10 : decode cX8_add 10 = .ok (.iload_n 1, 1) := by decide +kernel
theorem dX8_add_11 : decode cX8_add 11 = .ok (.ifCond .lt 21, 3) := by decide +kernel
theorem dX8_add_14 : decode cX8_add 14 = .ok (.iload_n 1, 1) := by decide +kernel
theorem dX8_add_15 : decode cX8_add 15 = .ok (.sipush 200, 3) := by decide +kernel
theorem dX8_add_18 : decode cX8_add 18 = .ok (.if_icmp .ge 14, 3) := by decide +kernel
theorem dX8_add_21 : decode cX8_add 21 = .ok (.iload_n 3, 1) := by decide +kernel
theorem dX8_add_22 : decode cX8_add 22 = .ok (.iconst 1, 1) := by decide +kernel
theorem dX8_add_23 : decode cX8_add 23 = .ok (.if_icmp .lt 9, 3) := by decide +kernel
theorem dX8_add_26 : decode cX8_add 26 = .ok (.iload_n 3, 1) := by decide +kernel
theorem dX8_add_27 : decode cX8_add 27 = .ok (.bipush 12, 2) := by decide +kernel
theorem dX8_add_29 : decode cX8_add 29 = .ok (.if_icmp .le 6, 3) := by decide +kernel
theorem dX8_add_32 : decode cX8_add 32 = .ok (.bipush (-2), 2) := by decide +kernel
theorem dX8_add_34 : decode cX8_add 34 = .ok (.ireturn, 1) := by decide +kernel
theorem dX8_add_35 : decode cX8_add 35 = .ok (.iload_n 2, 1) := by decide +kernel
theorem dX8_add_36 : decode cX8_add 36 = .ok (.ifCond .lt 10, 3) := by decide +kernel
theorem dX8_add_39 : decode cX8_add 39 = .ok (.iload_n 2, 1) := by decide +kernel
theorem dX8_add_40 : decode cX8_add 40 = .ok (.iconst 1, 1) := by decide +kernel
theorem dX8_add_41 : decode cX8_add 41 = .ok (.iload_n 3, 1) := by decide +kernel
theorem dX8_add_42 : decode cX8_add 42 = .ok (.ishl, 1) := by decide +kernel
theorem dX8_add_43 : decode cX8_add 43 = .ok (.if_icmp .lt 6, 3) := by decide +kernel
theorem dX8_add_46 : decode cX8_add 46 = .ok (.bipush (-2), 2) := by decide +kernel
theorem dX8_add_48 : decode cX8_add 48 = .ok (.ireturn, 1) := by decide +kernel
theorem dX8_add_49 : decode cX8_add 49 = .ok (.aload_n 0, 1) := by decide +kernel
theorem dX8_add_50 : decode cX8_add 50 = .ok (.getfield 36, 3) := by decide +kernel
theorem dX8_add_53 : decode cX8_add 53 = .ok (.getfield 112, 3) := by decide +kernel
theorem dX8_add_56 : decode cX8_add 56 = .ok (.bipush 10, 2) := by decide +kernel
theorem dX8_add_58 : decode cX8_add 58 = .ok (.if_icmp .ge 15, 3) := by decide +kernel
theorem dX8_add_61 : decode cX8_add 61 = .ok (.aload_n 0, 1) := by decide +kernel
theorem dX8_add_62 : decode cX8_add 62 = .ok (.getfield 53, 3) := by decide +kernel
theorem dX8_add_65 : decode cX8_add 65 = .ok (.getfield 84, 3) := by decide +kernel
theorem dX8_add_68 : decode cX8_add 68 = .ok (.bipush 20, 2) := by decide +kernel
theorem dX8_add_70 : decode cX8_add 70 = .ok (.if_icmp .lt 6, 3) := by decide +kernel
theorem dX8_add_73 : decode cX8_add 73 = .ok (.bipush (-5), 2) := by decide +kernel
theorem dX8_add_75 : decode cX8_add 75 = .ok (.ireturn, 1) := by decide +kernel
theorem dX8_add_76 : decode cX8_add 76 = .ok (.aload_n 0, 1) := by decide +kernel
theorem dX8_add_77 : decode cX8_add 77 = .ok (.getfield 36, 3) := by decide +kernel
theorem dX8_add_80 : decode cX8_add 80 = .ok (.iload_n 1, 1) := by decide +kernel
theorem dX8_add_81 : decode cX8_add 81 = .ok (.iload_n 2, 1) := by decide +kernel
theorem dX8_add_82 : decode cX8_add 82 = .ok (.iload_n 3, 1) := by decide +kernel
theorem dX8_add_83 : decode cX8_add 83 = .ok (.invokevirtual 254, 3) := by decide +kernel
theorem dX8_add_86 : decode cX8_add 86 = .ok (.aload_n 0, 1) := by decide +kernel
theorem dX8_add_87 : decode cX8_add 87 = .ok (.getfield 53, 3) := by decide +kernel
theorem dX8_add_90 : decode cX8_add 90 = .ok (.iconst 0, 1) := by decide +kernel
theorem dX8_add_91 : decode cX8_add 91 = .ok (.aload_n 0, 1) := by decide +kernel
theorem dX8_add_92 : decode cX8_add 92 = .ok (.getfield 36, 3) := by decide +kernel
theorem dX8_add_95 : decode cX8_add 95 = .ok (.getfield 87, 3) := by decide +kernel
theorem dX8_add_98 : decode cX8_add 98 = .ok (.invokevirtual 257, 3) := by decide +kernel
theorem dX8_add_101 : decode cX8_add 101 = .ok (.aload_n 0, 1) := by decide +kernel
theorem dX8_add_102 : decode cX8_add 102 = .ok (.getfield 29, 3) := by decide +kernel
theorem dX8_add_105 : decode cX8_add 105 = .ok (.aload_n 0, 1) := by decide +kernel
theorem dX8_add_106 : decode cX8_add 106 = .ok (.getfield 41, 3) := by decide +kernel
theorem dX8_add_109 : decode cX8_add 109 = .ok (.aload_n 0, 1) := by decide +kernel
theorem dX8_add_110 : decode cX8_add 110 = .ok (.getfield 36, 3) := by decide +kernel
theorem dX8_add_113 : decode cX8_add 113 = .ok (.getfield 87, 3) := by decide +kernel
theorem dX8_add_116 : decode cX8_add 116 = .ok (.iconst (-1), 1) := by decide +kernel
theorem dX8_add_117 : decode cX8_add 117 = .ok (.iconst (-1), 1) := by decide +kernel
theorem dX8_add_118 : decode cX8_add 118 = .ok (.invokevirtual 90, 3) := by decide +kernel
theorem dX8_add_121 : decode cX8_add 121 = .ok (.ireturn, 1) := by decide +kernel
theorem dX8_disturb_0 : decode cX8_disturb 0 = .ok (.aload_n 0, 1) := by decide +kernel
theorem dX8_disturb_1 : decode cX8_disturb 1 = .ok (.getfield 36, 3) := by decide +kernel
theorem dX8_disturb_4 : decode cX8_disturb 4 = .ok (.invokevirtual 170, 3) := by decide +kernel
theorem dX8_disturb_7 : decode cX8_disturb 7 = .ok (.ifCond .eq 23, 3) := by decide +kernel
theorem dX8_disturb_10 : decode cX8_disturb 10 = .ok (.iload_n 1, 1) := by decide +kernel
theorem dX8_disturb_11 : decode cX8_disturb 11 = .ok (.ifCond .lt 19, 3) := by decide +kernel
theorem dX8_disturb_14 : decode cX8_disturb 14 = .ok (.iload_n 1, 1) := by decide +kernel
theorem dX8_disturb_15 : decode cX8_disturb 15 = .ok (.sipush 200, 3) := by decide +kernel
theorem dX8_disturb_18 : decode cX8_disturb 18 = .ok (.if_icmp .ge 12, 3) := by decide +kernel
theorem dX8_disturb_21 : decode cX8_disturb 21 = .ok (.iload_n 2, 1) := by decide +kernel
theorem dX8_disturb_22 : decode cX8_disturb 22 = .ok (.ifCond .lt 8, 3) := by decide +kernel
theorem dX8_disturb_25 : decode cX8_disturb 25 = .ok (.iload_n 2, 1) := by decide +kernel
theorem dX8_disturb_26 : decode cX8_disturb 26 = .ok (.iconst 2, 1) := by decide +kernel
theorem dX8_disturb_27 : decode cX8_disturb 27 = .ok (.if_icmp .le 6, 3) := by decide +kernel
theorem dX8_disturb_30 : decode cX8_disturb 30 = .ok (.bipush (-2), 2) := by decide +kernel
theorem dX8_disturb_32 : decode cX8_disturb 32 = .ok (.ireturn, 1) := by decide +kernel
theorem dX8_disturb_33 : decode cX8_disturb 33 = .ok (.aload_n 0, 1) := by decide +kernel
theorem dX8_disturb_34 : decode cX8_disturb 34 = .ok (.getfield 36, 3) := by decide +kernel
theorem dX8_disturb_37 : decode cX8_disturb 37 = .ok (.iload_n 1, 1) := by decide +kernel
theorem dX8_disturb_38 : decode cX8_disturb 38 = .ok (.invokevirtual 261, 3) := by decide +kernel
theorem dX8_disturb_41 : decode cX8_disturb 41 = .ok (.ifCond .ne 27, 3) := by decide +kernel
theorem dX8_disturb_44 : decode cX8_disturb 44 = .ok (.aload_n 0, 1) := by decide +kernel
theorem dX8_disturb_45 : decode cX8_disturb 45 = .ok (.getfield 36, 3) := by decide +kernel
theorem dX8_disturb_48 : decode cX8_disturb 48 = .ok (.getfield 115, 3) := by decide +kernel
theorem dX8_disturb_51 : decode cX8_disturb 51 = .ok (.bipush 10, 2) := by decide +kernel
theorem dX8_disturb_53 : decode cX8_disturb 53 = .ok (.if_icmp .ge 15, 3) := by decide +kernel
theorem dX8_disturb_56 : decode cX8_disturb 56 = .ok (.aload_n 0, 1) := by decide +kernel
theorem dX8_disturb_57 : decode cX8_disturb 57 = .ok (.getfield 53, 3) := by decide +kernel
theorem dX8_disturb_60 : decode cX8_disturb 60 = .ok (.getfield 84, 3) := by decide +kernel
theorem dX8_disturb_63 : decode cX8_disturb 63 = .ok (.bipush 20, 2) := by decide +kernel
theorem dX8_disturb_65 : decode cX8_disturb 65 = .ok (.if_icmp .lt 6, 3) := by decide +kernel
theorem dX8_disturb_68 : decode cX8_disturb 68 = .ok (.bipush (-5), 2) := by decide +kernel
theorem dX8_disturb_70 : decode cX8_disturb 70 = .ok (.ireturn, 1) := by decide +kernel
theorem dX8_disturb_71 : decode cX8_disturb 71 = .ok (.aload_n 0, 1) := by decide +kernel
theorem dX8_disturb_72 : decode cX8_disturb 72 = .ok (.getfield 36, 3) := by decide +kernel
theorem dX8_disturb_75 : decode cX8_disturb 75 = .ok (.iload_n 1, 1) := by decide +kernel
theorem dX8_disturb_76 : decode cX8_disturb 76 = .ok (.iload_n 2, 1) := by decide +kernel
theorem dX8_disturb_77 : decode cX8_disturb 77 = .ok (.invokevirtual 264, 3) := by decide +kernel
theorem dX8_disturb_80 : decode cX8_disturb 80 = .ok (.aload_n 0, 1) := by decide +kernel
theorem dX8_disturb_81 : decode cX8_disturb 81 = .ok (.getfield 53, 3) := by decide +kernel
theorem dX8_disturb_84 : decode cX8_disturb 84 = .ok (.iconst 1, 1) := by decide +kernel
theorem dX8_disturb_85 : decode cX8_disturb 85 = .ok (.aload_n 0, 1) := by decide +kernel
theorem dX8_disturb_86 : decode cX8_disturb 86 = .ok (.getfield 36, 3) := by decide +kernel
theorem dX8_disturb_89 : decode cX8_disturb 89 = .ok (.getfield 87, 3) := by decide +kernel
theorem dX8_disturb_92 : decode cX8_disturb 92 = .ok (.invokevirtual 257, 3) := by decide +kernel
theorem dX8_disturb_95 : decode cX8_disturb 95 = .ok (.aload_n 0, 1) := by decide +kernel
theorem dX8_disturb_96 : decode cX8_disturb 96 = .ok (.getfield 29, 3) := by decide +kernel
theorem dX8_disturb_99 : decode cX8_disturb 99 = .ok (.aload_n 0, 1) := by decide +kernel
theorem dX8_disturb_100 : decode cX8_disturb 100 = .ok (.getfield 41, 3) := by decide +kernel
theorem dX8_disturb_103 : decode cX8_disturb 103 = .ok (.aload_n 0, 1) := by decide +kernel
theorem dX8_disturb_104 : decode cX8_disturb 104 = .ok (.getfield 36, 3) := by decide +kernel
theorem dX8_disturb_107 : decode cX8_disturb 107 = .ok (.getfield 87, 3) := by decide +kernel
theorem dX8_disturb_110 : decode cX8_disturb 110 = .ok (.iconst (-1), 1) := by decide +kernel
theorem dX8_disturb_111 : decode cX8_disturb 111 = .ok (.iconst (-1), 1) := by decide +kernel
theorem dX8_disturb_112 : decode cX8_disturb 112 = .ok (.invokevirtual 90, 3) := by decide +kernel
theorem dX8_disturb_115 : decode cX8_disturb 115 = .ok (.ireturn, 1) := by decide +kernel
theorem dX8_rule_0 : decode cX8_rule 0 = .ok (.aload_n 0, 1) := by decide +kernel
theorem dX8_rule_1 : decode cX8_rule 1 = .ok (.getfield 36, 3) := by decide +kernel
theorem dX8_rule_4 : decode cX8_rule 4 = .ok (.invokevirtual 170, 3) := by decide +kernel
theorem dX8_rule_7 : decode cX8_rule 7 = .ok (.ifCond .eq 10, 3) := by decide +kernel
theorem dX8_rule_10 : decode cX8_rule 10 = .ok (.iload_n 1, 1) := by decide +kernel
theorem dX8_rule_11 : decode cX8_rule 11 = .ok (.invokestatic 206, 3) := by decide +kernel
theorem dX8_rule_14 : decode cX8_rule 14 = .ok (.ifCond .ne 6, 3) := by decide +kernel
theorem dX8_rule_17 : decode cX8_rule 17 = .ok (.bipush (-2), 2) := by decide +kernel
theorem dX8_rule_19 : decode cX8_rule 19 = .ok (.ireturn, 1) := by decide +kernel
theorem dX8_rule_20 : decode cX8_rule 20 = .ok (.aload_n 0, 1) := by decide +kernel
theorem dX8_rule_21 : decode cX8_rule 21 = .ok (.getfield 36, 3) := by decide +kernel
theorem dX8_rule_24 : decode cX8_rule 24 = .ok (.getfield 87, 3) := by decide +kernel
theorem dX8_rule_27 : decode cX8_rule 27 = .ok (.iload_n 1, 1) := by decide +kernel
theorem dX8_rule_28 : decode cX8_rule 28 = .ok (.if_icmp .eq 15, 3) := by decide +kernel
theorem dX8_rule_31 : decode cX8_rule 31 = .ok (.aload_n 0, 1) := by decide +kernel
theorem dX8_rule_32 : decode cX8_rule 32 = .ok (.getfield 53, 3) := by decide +kernel
theorem dX8_rule_35 : decode cX8_rule 35 = .ok (.getfield 84, 3) := by decide +kernel
theorem dX8_rule_38 : decode cX8_rule 38 = .ok (.bipush 20, 2) := by decide +kernel
theorem dX8_rule_40 : decode cX8_rule 40 = .ok (.if_icmp .lt 6, 3) := by decide +kernel
theorem dX8_rule_43 : decode cX8_rule 43 = .ok (.bipush (-5), 2) := by decide +kernel
theorem dX8_rule_45 : decode cX8_rule 45 = .ok (.ireturn, 1) := by decide +kernel
theorem dX8_rule_46 : decode cX8_rule 46 = .ok (.aload_n 0, 1) := by decide +kernel
theorem dX8_rule_47 : decode cX8_rule 47 = .ok (.getfield 53, 3) := by decide +kernel
theorem dX8_rule_50 : decode cX8_rule 50 = .ok (.iconst 2, 1) := by decide +kernel
theorem dX8_rule_51 : decode cX8_rule 51 = .ok (.aload_n 0, 1) := by decide +kernel
theorem dX8_rule_52 : decode cX8_rule 52 = .ok (.getfield 36, 3) := by decide +kernel
theorem dX8_rule_55 : decode cX8_rule 55 = .ok (.getfield 87, 3) := by decide +kernel
theorem dX8_rule_58 : decode cX8_rule 58 = .ok (.invokevirtual 257, 3) := by decide +kernel
theorem dX8_rule_61 : decode cX8_rule 61 = .ok (.aload_n 0, 1) := by decide +kernel
theorem dX8_rule_62 : decode cX8_rule 62 = .ok (.getfield 36, 3) := by decide +kernel
theorem dX8_rule_65 : decode cX8_rule 65 = .ok (.iload_n 1, 1) := by decide +kernel
theorem dX8_rule_66 : decode cX8_rule 66 = .ok (.putfield 87, 3) := by decide +kernel
theorem dX8_rule_69 : decode cX8_rule 69 = .ok (.aload_n 0, 1) := by decide +kernel
theorem dX8_rule_70 : decode cX8_rule 70 = .ok (.getfield 29, 3) := by decide +kernel
theorem dX8_rule_73 : decode cX8_rule 73 = .ok (.aload_n 0, 1) := by decide +kernel
theorem dX8_rule_74 : decode cX8_rule 74 = .ok (.getfield 41, 3) := by decide +kernel
theorem dX8_rule_77 : decode cX8_rule 77 = .ok (.aload_n 0, 1) := by decide +kernel
theorem dX8_rule_78 : decode cX8_rule 78 = .ok (.getfield 36, 3) := by decide +kernel
theorem dX8_rule_81 : decode cX8_rule 81 = .ok (.getfield 87, 3) := by decide +kernel
theorem dX8_rule_84 : decode cX8_rule 84 = .ok (.iconst (-1), 1) := by decide +kernel
theorem dX8_rule_85 : decode cX8_rule 85 = .ok (.iconst (-1), 1) := by decide +kernel
theorem dX8_rule_86 : decode cX8_rule 86 = .ok (.invokevirtual 90, 3) := by decide +kernel
theorem dX8_rule_89 : decode cX8_rule 89 = .ok (.ireturn, 1) := by decide +kernel
theorem dX8_undo_0 : decode cX8_undo 0 = .ok (.aload_n 0, 1) := by decide +kernel
theorem dX8_undo_1 : decode cX8_undo 1 = .ok (.getfield 36, 3) := by decide +kernel
theorem dX8_undo_4 : decode cX8_undo 4 = .ok (.invokevirtual 170, 3) := by decide +kernel
theorem dX8_undo_7 : decode cX8_undo 7 = .ok (.ifCond .ne 6, 3) := by decide +kernel
theorem dX8_undo_10 : decode cX8_undo 10 = .ok (.bipush (-2), 2) := by decide +kernel
theorem dX8_undo_12 : decode cX8_undo 12 = .ok (.ireturn, 1) := by decide +kernel
theorem dX8_undo_13 : decode cX8_undo 13 = .ok (.aload_n 0, 1) := by decide +kernel
theorem dX8_undo_14 : decode cX8_undo 14 = .ok (.getfield 53, 3) := by decide +kernel
theorem dX8_undo_17 : decode cX8_undo 17 = .ok (.getfield 84, 3) := by decide +kernel
theorem dX8_undo_20 : decode cX8_undo 20 = .ok (.ifCond .ne 6, 3) := by decide +kernel
theorem dX8_undo_23 : decode cX8_undo 23 = .ok (.bipush (-5), 2) := by decide +kernel
theorem dX8_undo_25 : decode cX8_undo 25 = .ok (.ireturn, 1) := by decide +kernel
theorem dX8_undo_26 : decode cX8_undo 26 = .ok (.aload_n 0, 1) := by decide +kernel
theorem dX8_undo_27 : decode cX8_undo 27 = .ok (.getfield 53, 3) := by decide +kernel
theorem dX8_undo_30 : decode cX8_undo 30 = .ok (.aload_n 0, 1) := by decide +kernel
theorem dX8_undo_31 : decode cX8_undo 31 = .ok (.getfield 36, 3) := by decide +kernel
theorem dX8_undo_34 : decode cX8_undo 34 = .ok (.invokevirtual 267, 3) := by decide +kernel
theorem dX8_undo_37 : decode cX8_undo 37 = .ok (.aload_n 0, 1) := by decide +kernel
theorem dX8_undo_38 : decode cX8_undo 38 = .ok (.getfield 29, 3) := by decide +kernel
theorem dX8_undo_41 : decode cX8_undo 41 = .ok (.aload_n 0, 1) := by decide +kernel
theorem dX8_undo_42 : decode cX8_undo 42 = .ok (.getfield 41, 3) := by decide +kernel
theorem dX8_undo_45 : decode cX8_undo 45 = .ok (.aload_n 0, 1) := by decide +kernel
theorem dX8_undo_46 : decode cX8_undo 46 = .ok (.getfield 36, 3) := by decide +kernel
theorem dX8_undo_49 : decode cX8_undo 49 = .ok (.getfield 87, 3) := by decide +kernel
theorem dX8_undo_52 : decode cX8_undo 52 = .ok (.iconst (-1), 1) := by decide +kernel
theorem dX8_undo_53 : decode cX8_undo 53 = .ok (.iconst (-1), 1) := by decide +kernel
theorem dX8_undo_54 : decode cX8_undo 54 = .ok (.invokevirtual 90, 3) := by decide +kernel
theorem dX8_undo_57 : decode cX8_undo 57 = .ok (.pop, 1) := by decide +kernel
theorem dX8_undo_58 : decode cX8_undo 58 = .ok (.aload_n 0, 1) := by decide +kernel
theorem dX8_undo_59 : decode cX8_undo 59 = .ok (.getfield 53, 3) := by decide +kernel
theorem dX8_undo_62 : decode cX8_undo 62 = .ok (.getfield 84, 3) := by decide +kernel
theorem dX8_undo_65 : decode cX8_undo 65 = .ok (.ireturn, 1) := by decide +kernel
theorem dX8_anew_0 : decode cX8_anew 0 = .ok (.aload_n 0, 1) := by decide +kernel
theorem dX8_anew_1 : decode cX8_anew 1 = .ok (.getfield 36, 3) := by decide +kernel
theorem dX8_anew_4 : decode cX8_anew 4 = .ok (.invokevirtual 170, 3) := by decide +kernel
theorem dX8_anew_7 : decode cX8_anew 7 = .ok (.ifCond .ne 6, 3) := by decide +kernel
theorem dX8_anew_10 : decode cX8_anew 10 = .ok (.bipush (-2), 2) := by decide +kernel
theorem dX8_anew_12 : decode cX8_anew 12 = .ok (.ireturn, 1) := by decide +kernel
theorem dX8_anew_13 : decode cX8_anew 13 = .ok (.aload_n 0, 1) := by decide +kernel
theorem dX8_anew_14 : decode cX8_anew 14 = .ok (.getfield 53, 3) := by decide +kernel
theorem dX8_anew_17 : decode cX8_anew 17 = .ok (.getfield 84, 3) := by decide +kernel
theorem dX8_anew_20 : decode cX8_anew 20 = .ok (.istore_n 1, 1) := by decide +kernel
theorem dX8_anew_21 : decode cX8_anew 21 = .ok (.iconst 0, 1) := by decide +kernel
theorem dX8_anew_22 : decode cX8_anew 22 = .ok (.istore_n 2, 1) := by decide +kernel
theorem dX8_anew_23 : decode cX8_anew 23 = .ok (.iload_n 2, 1) := by decide +kernel
theorem dX8_anew_24 : decode cX8_anew 24 = .ok (.iload_n 1, 1) := by decide +kernel
theorem dX8_anew_25 : decode cX8_anew 25 = .ok (.if_icmp .ge 20, 3) := by decide +kernel
theorem dX8_anew_28 : decode cX8_anew 28 = .ok (.aload_n 0, 1) := by decide +kernel
theorem dX8_anew_29 : decode cX8_anew 29 = .ok (.getfield 53, 3) := by decide +kernel
theorem dX8_anew_32 : decode cX8_anew 32 = .ok (.aload_n 0, 1) := by decide +kernel
theorem dX8_anew_33 : decode cX8_anew 33 = .ok (.getfield 36, 3) := by decide +kernel
theorem dX8_anew_36 : decode cX8_anew 36 = .ok (.invokevirtual 267, 3) := by decide +kernel
theorem dX8_anew_39 : decode cX8_anew 39 = .ok (.iinc 2 1, 3) := by decide +kernel
theorem dX8_anew_42 : decode cX8_anew 42 = .ok (.goto (-19), 3) := by decide +kernel
theorem dX8_anew_45 : decode cX8_anew 45 = .ok (.aload_n 0, 1) := by decide +kernel
theorem dX8_anew_46 : decode cX8_anew 46 = .ok (.getfield 29, 3) := by decide +kernel
theorem dX8_anew_49 : decode cX8_anew 49 = .ok (.aload_n 0, 1) := by decide +kernel
theorem dX8_anew_50 : decode cX8_anew 50 = .ok (.getfield 41, 3) := by decide +kernel
theorem dX8_anew_53 : decode cX8_anew 53 = .ok (.aload_n 0, 1) := by decide +kernel
theorem dX8_anew_54 : decode cX8_anew 54 = .ok (.getfield 36, 3) := by decide +kernel
theorem dX8_anew_57 : decode cX8_anew 57 = .ok (.getfield 87, 3) := by decide +kernel
theorem dX8_anew_60 : decode cX8_anew 60 = .ok (.iconst (-1), 1) := by decide +kernel
theorem dX8_anew_61 : decode cX8_anew 61 = .ok (.iconst (-1), 1) := by decide +kernel
theorem dX8_anew_62 : decode cX8_anew 62 = .ok (.invokevirtual 90, 3) := by decide +kernel
theorem dX8_anew_65 : decode cX8_anew 65 = .ok (.pop, 1) := by decide +kernel
theorem dX8_anew_66 : decode cX8_anew 66 = .ok (.iload_n 1, 1) := by decide +kernel
theorem dX8_anew_67 : decode cX8_anew 67 = .ok (.ireturn, 1) := by decide +kernel
theorem dX8_isLaw_0 : decode cX8_isLaw 0 = .ok (.iload_n 0, 1) := by decide +kernel
theorem dX8_isLaw_1 : decode cX8_isLaw 1 = .ok (.ifCond .lt 12, 3) := by decide +kernel
theorem dX8_isLaw_4 : decode cX8_isLaw 4 = .ok (.iload_n 0, 1) := by decide +kernel
theorem dX8_isLaw_5 : decode cX8_isLaw 5 = .ok (.iconst 3, 1) := by decide +kernel
theorem dX8_isLaw_6 : decode cX8_isLaw 6 = .ok (.if_icmp .gt 7, 3) := by decide +kernel
theorem dX8_isLaw_9 : decode cX8_isLaw 9 = .ok (.iconst 1, 1) := by decide +kernel
theorem dX8_isLaw_10 : decode cX8_isLaw 10 = .ok (.goto 4, 3) := by decide +kernel
theorem dX8_isLaw_13 : decode cX8_isLaw 13 = .ok (.iconst 0, 1) := by decide +kernel
theorem dX8_isLaw_14 : decode cX8_isLaw 14 = .ok (.ireturn, 1) := by decide +kernel
theorem dX8_isTreeLaw_0 : decode cX8_isTreeLaw 0 = .ok (.iload_n 0, 1) := by decide +kernel
theorem dX8_isTreeLaw_1 : decode cX8_isTreeLaw 1 = .ok (.ifCond .eq 8, 3) := by decide +kernel
theorem dX8_isTreeLaw_4 : decode cX8_isTreeLaw 4 = .ok (.iload_n 0, 1) := by decide +kernel
theorem dX8_isTreeLaw_5 : decode cX8_isTreeLaw 5 = .ok (.iconst 1, 1) := by decide +kernel
theorem dX8_isTreeLaw_6 : decode cX8_isTreeLaw 6 = .ok (.if_icmp .ne 7, 3) := by decide +kernel
theorem dX8_isTreeLaw_9 : decode cX8_isTreeLaw 9 = .ok (.iconst 1, 1) := by decide +kernel
theorem dX8_isTreeLaw_10 : decode cX8_isTreeLaw 10 = .ok (.goto 4, 3) := by decide +kernel
theorem dX8_isTreeLaw_13 : decode cX8_isTreeLaw 13 = .ok (.iconst 0, 1) := by decide +kernel
theorem dX8_isTreeLaw_14 : decode cX8_isTreeLaw 14 = .ok (.ireturn, 1) := by decide +kernel
theorem dX8_isPart_0 : decode cX8_isPart 0 = .ok (.iload_n 0, 1) := by decide +kernel
theorem dX8_isPart_1 : decode cX8_isPart 1 = .ok (.ifCond .eq 8, 3) := by decide +kernel
theorem dX8_isPart_4 : decode cX8_isPart 4 = .ok (.iload_n 0, 1) := by decide +kernel
theorem dX8_isPart_5 : decode cX8_isPart 5 = .ok (.iconst 1, 1) := by decide +kernel
theorem dX8_isPart_6 : decode cX8_isPart 6 = .ok (.if_icmp .ne 7, 3) := by decide +kernel
theorem dX8_isPart_9 : decode cX8_isPart 9 = .ok (.iconst 1, 1) := by decide +kernel
theorem dX8_isPart_10 : decode cX8_isPart 10 = .ok (.goto 4, 3) := by decide +kernel
theorem dX8_isPart_13 : decode cX8_isPart 13 = .ok (.iconst 0, 1) := by decide +kernel
theorem dX8_isPart_14 : decode cX8_isPart 14 = .ok (.ireturn, 1) := by decide +kernel
theorem dX8_at_0 : decode cX8_at 0 = .ok (.iload_n 1, 1) := by decide +kernel
theorem dX8_at_1 : decode cX8_at 1 = .ok (.ifCond .lt 15, 3) := by decide +kernel
theorem dX8_at_4 : decode cX8_at 4 = .ok (.iload_n 1, 1) := by decide +kernel
theorem dX8_at_5 : decode cX8_at 5 = .ok (.aload_n 0, 1) := by decide +kernel
theorem dX8_at_6 : decode cX8_at 6 = .ok (.arraylength, 1) := by decide +kernel
theorem dX8_at_7 : decode cX8_at 7 = .ok (.if_icmp .ge 9, 3) := by decide +kernel
theorem dX8_at_10 : decode cX8_at 10 = .ok (.aload_n 0, 1) := by decide +kernel
theorem dX8_at_11 : decode cX8_at 11 = .ok (.iload_n 1, 1) := by decide +kernel
theorem dX8_at_12 : decode cX8_at 12 = .ok (.iaload, 1) := by decide +kernel
theorem dX8_at_13 : decode cX8_at 13 = .ok (.goto 4, 3) := by decide +kernel
theorem dX8_at_16 : decode cX8_at 16 = .ok (.iconst 0, 1) := by decide +kernel
theorem dX8_at_17 : decode cX8_at 17 = .ok (.ireturn, 1) := by decide +kernel
theorem dX8_put_0 : decode cX8_put 0 = .ok (.iload_n 1, 1) := by decide +kernel
theorem dX8_put_1 : decode cX8_put 1 = .ok (.ifCond .lt 13, 3) := by decide +kernel
theorem dX8_put_4 : decode cX8_put 4 = .ok (.iload_n 1, 1) := by decide +kernel
theorem dX8_put_5 : decode cX8_put 5 = .ok (.aload_n 0, 1) := by decide +kernel
theorem dX8_put_6 : decode cX8_put 6 = .ok (.arraylength, 1) := by decide +kernel
theorem dX8_put_7 : decode cX8_put 7 = .ok (.if_icmp .ge 7, 3) := by decide +kernel
theorem dX8_put_10 : decode cX8_put 10 = .ok (.aload_n 0, 1) := by decide +kernel
theorem dX8_put_11 : decode cX8_put 11 = .ok (.iload_n 1, 1) := by decide +kernel
theorem dX8_put_12 : decode cX8_put 12 = .ok (.iload_n 2, 1) := by decide +kernel
theorem dX8_put_13 : decode cX8_put 13 = .ok (.iastore, 1) := by decide +kernel
theorem dX8_put_14 : decode cX8_put 14 = .ok (.return_, 1) := by decide +kernel
theorem dX8_at__0 : decode cX8_at_ 0 = .ok (.iload_n 1, 1) := by decide +kernel
theorem dX8_at__1 : decode cX8_at_ 1 = .ok (.ifCond .lt 15, 3) := by decide +kernel
theorem dX8_at__4 : decode cX8_at_ 4 = .ok (.iload_n 1, 1) := by decide +kernel
theorem dX8_at__5 : decode cX8_at_ 5 = .ok (.aload_n 0, 1) := by decide +kernel
theorem dX8_at__6 : decode cX8_at_ 6 = .ok (.arraylength, 1) := by decide +kernel
theorem dX8_at__7 : decode cX8_at_ 7 = .ok (.if_icmp .ge 9, 3) := by decide +kernel
theorem dX8_at__10 : decode cX8_at_ 10 = .ok (.aload_n 0, 1) := by decide +kernel
theorem dX8_at__11 : decode cX8_at_ 11 = .ok (.iload_n 1, 1) := by decide +kernel
theorem dX8_at__12 : decode cX8_at_ 12 = .ok (.laload, 1) := by decide +kernel
theorem dX8_at__13 : decode cX8_at_ 13 = .ok (.goto 4, 3) := by decide +kernel
theorem dX8_at__16 : decode cX8_at_ 16 = .ok (.lconst 0, 1) := by decide +kernel
theorem dX8_at__17 : decode cX8_at_ 17 = .ok (.lreturn, 1) := by decide +kernel
theorem dX8_put__0 : decode cX8_put_ 0 = .ok (.iload_n 1, 1) := by decide +kernel
theorem dX8_put__1 : decode cX8_put_ 1 = .ok (.ifCond .lt 13, 3) := by decide +kernel
theorem dX8_put__4 : decode cX8_put_ 4 = .ok (.iload_n 1, 1) := by decide +kernel
theorem dX8_put__5 : decode cX8_put_ 5 = .ok (.aload_n 0, 1) := by decide +kernel
theorem dX8_put__6 : decode cX8_put_ 6 = .ok (.arraylength, 1) := by decide +kernel
theorem dX8_put__7 : decode cX8_put_ 7 = .ok (.if_icmp .ge 7, 3) := by decide +kernel
theorem dX8_put__10 : decode cX8_put_ 10 = .ok (.aload_n 0, 1) := by decide +kernel
theorem dX8_put__11 : decode cX8_put_ 11 = .ok (.iload_n 1, 1) := by decide +kernel
theorem dX8_put__12 : decode cX8_put_ 12 = .ok (.lload_n 2, 1) := by decide +kernel
theorem dX8_put__13 : decode cX8_put_ 13 = .ok (.lastore, 1) := by decide +kernel
theorem dX8_put__14 : decode cX8_put_ 14 = .ok (.return_, 1) := by decide +kernel
theorem dX9_in_0 : decode cX9_in 0 = .ok (.lload_n 0, 1) := by decide +kernel
theorem dX9_in_1 : decode cX9_in 1 = .ok (.lload_n 2, 1) := by decide +kernel
theorem dX9_in_2 : decode cX9_in 2 = .ok (.lcmp, 1) := by decide +kernel
theorem dX9_in_3 : decode cX9_in 3 = .ok (.ifCond .lt 14, 3) := by decide +kernel
theorem dX9_in_6 : decode cX9_in 6 = .ok (.lload_n 0, 1) := by decide +kernel
theorem dX9_in_7 : decode cX9_in 7 = .ok (.lload 4, 2) := by decide +kernel
theorem dX9_in_9 : decode cX9_in 9 = .ok (.lcmp, 1) := by decide +kernel
theorem dX9_in_10 : decode cX9_in 10 = .ok (.ifCond .gt 7, 3) := by decide +kernel
theorem dX9_in_13 : decode cX9_in 13 = .ok (.iconst 1, 1) := by decide +kernel
theorem dX9_in_14 : decode cX9_in 14 = .ok (.goto 4, 3) := by decide +kernel
theorem dX9_in_17 : decode cX9_in 17 = .ok (.iconst 0, 1) := by decide +kernel
theorem dX9_in_18 : decode cX9_in 18 = .ok (.ireturn, 1) := by decide +kernel
theorem dX9_has_0 : decode cX9_has 0 = .ok (.iload_n 0, 1) := by decide +kernel
theorem dX9_has_1 : decode cX9_has 1 = .ok (.iload_n 1, 1) := by decide +kernel
theorem dX9_has_2 : decode cX9_has 2 = .ok (.ishr, 1) := by decide +kernel
theorem dX9_has_3 : decode cX9_has 3 = .ok (.iconst 1, 1) := by decide +kernel
theorem dX9_has_4 : decode cX9_has 4 = .ok (.iand, 1) := by decide +kernel
theorem dX9_has_5 : decode cX9_has 5 = .ok (.iconst 1, 1) := by decide +kernel
theorem dX9_has_6 : decode cX9_has 6 = .ok (.if_icmp .ne 7, 3) := by decide +kernel
theorem dX9_has_9 : decode cX9_has 9 = .ok (.iconst 1, 1) := by decide +kernel
theorem dX9_has_10 : decode cX9_has 10 = .ok (.goto 4, 3) := by decide +kernel
theorem dX9_has_13 : decode cX9_has 13 = .ok (.iconst 0, 1) := by decide +kernel
theorem dX9_has_14 : decode cX9_has 14 = .ok (.ireturn, 1) := by decide +kernel
theorem dX9_bitsOf_0 : decode cX9_bitsOf 0 = .ok (.iconst 0, 1) := by decide +kernel
theorem dX9_bitsOf_1 : decode cX9_bitsOf 1 = .ok (.istore_n 1, 1) := by decide +kernel
theorem dX9_bitsOf_2 : decode cX9_bitsOf 2 = .ok (.iconst 0, 1) := by decide +kernel
theorem dX9_bitsOf_3 : decode cX9_bitsOf 3 = .ok (.istore_n 2, 1) := by decide +kernel
theorem dX9_bitsOf_4 : decode cX9_bitsOf 4 = .ok (.iload_n 2, 1) := by decide +kernel
theorem dX9_bitsOf_5 : decode cX9_bitsOf 5 = .ok (.bipush 10, 2) := by decide +kernel
theorem dX9_bitsOf_7 : decode cX9_bitsOf 7 = .ok (.if_icmp .ge 17, 3) := by decide +kernel
theorem dX9_bitsOf_10 : decode cX9_bitsOf 10 = .ok (.iload_n 1, 1) := by decide +kernel
theorem dX9_bitsOf_11 : decode cX9_bitsOf 11 = .ok (.iload_n 0, 1) := by decide +kernel
theorem dX9_bitsOf_12 : decode cX9_bitsOf 12 = .ok (.iload_n 2, 1) := by decide +kernel
theorem dX9_bitsOf_13 : decode cX9_bitsOf 13 = .ok (.ishr, 1) := by decide +kernel
theorem dX9_bitsOf_14 : decode cX9_bitsOf 14 = .ok (.iconst 1, 1) := by decide +kernel
theorem dX9_bitsOf_15 : decode cX9_bitsOf 15 = .ok (.iand, 1) := by decide +kernel
theorem dX9_bitsOf_16 : decode cX9_bitsOf 16 = .ok (.iadd, 1) := by decide +kernel
theorem dX9_bitsOf_17 : decode cX9_bitsOf 17 = .ok (.istore_n 1, 1) := by decide +kernel
theorem dX9_bitsOf_18 : decode cX9_bitsOf 18 = .ok (.iinc 2 1, 3) := by decide +kernel
theorem dX9_bitsOf_21 : decode cX9_bitsOf 21 = .ok (.goto (-17), 3) := by decide +kernel
theorem dX9_bitsOf_24 : decode cX9_bitsOf 24 = .ok (.iload_n 1, 1) := by decide +kernel
theorem dX9_bitsOf_25 : decode cX9_bitsOf 25 = .ok (.ireturn, 1) := by decide +kernel
theorem dX9_init_0 : decode cX9_init 0 = .ok (.aload_n 0, 1) := by decide +kernel
theorem dX9_init_1 : decode cX9_init 1 = .ok (.invokespecial 3, 3) := by decide +kernel
theorem dX9_init_4 : decode cX9_init 4 = .ok (.aload_n 0, 1) := by decide +kernel
theorem dX9_init_5 : decode cX9_init 5 = .ok (.bipush 57, 2) := by decide +kernel
theorem dX9_init_7 : decode cX9_init 7 = .ok (.newarray .int, 2) := by decide +kernel
theorem dX9_init_9 : decode cX9_init 9 = .ok (.putfield 9, 3) := by decide +kernel
theorem dX9_init_12 : decode cX9_init 12 = .ok (.aload_n 0, 1) := by decide +kernel
theorem dX9_init_13 : decode cX9_init 13 = .ok (.bipush 57, 2) := by decide +kernel
theorem dX9_init_15 : decode cX9_init 15 = .ok (.newarray .int, 2) := by decide +kernel
theorem dX9_init_17 : decode cX9_init 17 = .ok (.putfield 13, 3) := by decide +kernel
theorem dX9_init_20 : decode cX9_init 20 = .ok (.aload_n 0, 1) := by decide +kernel
theorem dX9_init_21 : decode cX9_init 21 = .ok (.sipush 1140, 3) := by decide +kernel
theorem dX9_init_24 : decode cX9_init 24 = .ok (.newarray .int, 2) := by decide +kernel
theorem dX9_init_26 : decode cX9_init 26 = .ok (.putfield 16, 3) := by decide +kernel
theorem dX9_init_29 : decode cX9_init 29 = .ok (.aload_n 0, 1) := by decide +kernel
theorem dX9_init_30 : decode cX9_init 30 = .ok (.sipush 500, 3) := by decide +kernel
theorem dX9_init_33 : decode cX9_init 33 = .ok (.newarray .int, 2) := by decide +kernel
theorem dX9_init_35 : decode cX9_init 35 = .ok (.putfield 19, 3) := by decide +kernel
theorem dX9_init_38 : decode cX9_init 38 = .ok (.aload_n 0, 1) := by decide +kernel
theorem dX9_init_39 : decode cX9_init 39 = .ok (.iconst (-1), 1) := by decide +kernel
theorem dX9_init_40 : decode cX9_init 40 = .ok (.putfield 22, 3) := by decide +kernel
theorem dX9_init_43 : decode cX9_init 43 = .ok (.aload_n 0, 1) := by decide +kernel
theorem dX9_init_44 : decode cX9_init 44 = .ok (.sipush 2500, 3) := by decide +kernel
theorem dX9_init_47 : decode cX9_init 47 = .ok (.newarray .int, 2) := by decide +kernel
theorem dX9_init_49 : decode cX9_init 49 = .ok (.putfield 26, 3) := by decide +kernel
theorem dX9_init_52 : decode cX9_init 52 = .ok (.aload_n 0, 1) := by decide +kernel
theorem dX9_init_53 : decode cX9_init 53 = .ok (.sipush 2500, 3) := by decide +kernel
theorem dX9_init_56 : decode cX9_init 56 = .ok (.newarray .int, 2) := by decide +kernel
theorem dX9_init_58 : decode cX9_init 58 = .ok (.putfield 29, 3) := by decide +kernel
theorem dX9_init_61 : decode cX9_init 61 = .ok (.aload_n 0, 1) := by decide +kernel
theorem dX9_init_62 : decode cX9_init 62 = .ok (.sipush 2500, 3) := by decide +kernel
theorem dX9_init_65 : decode cX9_init 65 = .ok (.newarray .int, 2) := by decide +kernel
theorem dX9_init_67 : decode cX9_init 67 = .ok (.putfield 32, 3) := by decide +kernel
theorem dX9_init_70 : decode cX9_init 70 = .ok (.aload_n 0, 1) := by decide +kernel
theorem dX9_init_71 : decode cX9_init 71 = .ok (.bipush 10, 2) := by decide +kernel
theorem dX9_init_73 : decode cX9_init 73 = .ok (.newarray .int, 2) := by decide +kernel
theorem dX9_init_75 : decode cX9_init 75 = .ok (.putfield 35, 3) := by decide +kernel
theorem dX9_init_78 : decode cX9_init 78 = .ok (.aload_n 0, 1) := by decide +kernel
theorem dX9_init_79 : decode cX9_init 79 = .ok (.bipush 10, 2) := by decide +kernel
theorem dX9_init_81 : decode cX9_init 81 = .ok (.newarray .int, 2) := by decide +kernel
theorem dX9_init_83 : decode cX9_init 83 = .ok (.putfield 38, 3) := by decide +kernel
theorem dX9_init_86 : decode cX9_init 86 = .ok (.aload_n 0, 1) := by decide +kernel
theorem dX9_init_87 : decode cX9_init 87 = .ok (.bipush 10, 2) := by decide +kernel
theorem dX9_init_89 : decode cX9_init 89 = .ok (.newarray .int, 2) := by decide +kernel
theorem dX9_init_91 : decode cX9_init 91 = .ok (.putfield 41, 3) := by decide +kernel
theorem dX9_init_94 : decode cX9_init 94 = .ok (.aload_n 0, 1) := by decide +kernel
theorem dX9_init_95 : decode cX9_init 95 = .ok (.sipush 200, 3) := by decide +kernel
theorem dX9_init_98 : decode cX9_init 98 = .ok (.newarray .int, 2) := by decide +kernel
theorem dX9_init_100 : decode cX9_init 100 = .ok (.putfield 44, 3) := by decide +kernel
theorem dX9_init_103 : decode cX9_init 103 = .ok (.aload_n 0, 1) := by decide +kernel
theorem dX9_init_104 : decode cX9_init 104 = .ok (.sipush 200, 3) := by decide +kernel
theorem dX9_init_107 : decode cX9_init 107 = .ok (.newarray .int, 2) := by decide +kernel
theorem dX9_init_109 : decode cX9_init 109 = .ok (.putfield 47, 3) := by decide +kernel
theorem dX9_init_112 : decode cX9_init 112 = .ok (.aload_n 0, 1) := by decide +kernel
theorem dX9_init_113 : decode cX9_init 113 = .ok (.sipush 200, 3) := by decide +kernel
theorem dX9_init_116 : decode cX9_init 116 = .ok (.newarray .int, 2) := by decide +kernel
theorem dX9_init_118 : decode cX9_init 118 = .ok (.putfield 50, 3) := by decide +kernel
theorem dX9_init_121 : decode cX9_init 121 = .ok (.aload_n 0, 1) := by decide +kernel
theorem dX9_init_122 : decode cX9_init 122 = .ok (.sipush 200, 3) := by decide +kernel
theorem dX9_init_125 : decode cX9_init 125 = .ok (.newarray .int, 2) := by decide +kernel
theorem dX9_init_127 : decode cX9_init 127 = .ok (.putfield 53, 3) := by decide +kernel
theorem dX9_init_130 : decode cX9_init 130 = .ok (.aload_n 0, 1) := by decide +kernel
theorem dX9_init_131 : decode cX9_init 131 = .ok (.sipush 200, 3) := by decide +kernel
theorem dX9_init_134 : decode cX9_init 134 = .ok (.newarray .int, 2) := by decide +kernel
theorem dX9_init_136 : decode cX9_init 136 = .ok (.putfield 56, 3) := by decide +kernel
theorem dX9_init_139 : decode cX9_init 139 = .ok (.aload_n 0, 1) := by decide +kernel
theorem dX9_init_140 : decode cX9_init 140 = .ok (.sipush 200, 3) := by decide +kernel
theorem dX9_init_143 : decode cX9_init 143 = .ok (.newarray .int, 2) := by decide +kernel
theorem dX9_init_145 : decode cX9_init 145 = .ok (.putfield 59, 3) := by decide +kernel
theorem dX9_init_148 : decode cX9_init 148 = .ok (.aload_n 0, 1) := by decide +kernel
theorem dX9_init_149 : decode cX9_init 149 = .ok (.sipush 200, 3) := by decide +kernel
theorem dX9_init_152 : decode cX9_init 152 = .ok (.newarray .int, 2) := by decide +kernel
theorem dX9_init_154 : decode cX9_init 154 = .ok (.putfield 62, 3) := by decide +kernel
theorem dX9_init_157 : decode cX9_init 157 = .ok (.aload_n 0, 1) := by decide +kernel
theorem dX9_init_158 : decode cX9_init 158 = .ok (.sipush 200, 3) := by decide +kernel
theorem dX9_init_161 : decode cX9_init 161 = .ok (.newarray .int, 2) := by decide +kernel
theorem dX9_init_163 : decode cX9_init 163 = .ok (.putfield 65, 3) := by decide +kernel
theorem dX9_init_166 : decode cX9_init 166 = .ok (.aload_n 0, 1) := by decide +kernel
theorem dX9_init_167 : decode cX9_init 167 = .ok (.bipush 9, 2) := by decide +kernel
theorem dX9_init_169 : decode cX9_init 169 = .ok (.newarray .long, 2) := by decide +kernel
theorem dX9_init_171 : decode cX9_init 171 = .ok (.putfield 68, 3) := by decide +kernel
theorem dX9_init_174 : decode cX9_init 174 = .ok (.aload_n 0, 1) := by decide +kernel
theorem dX9_init_175 : decode cX9_init 175 = .ok (.bipush 9, 2) := by decide +kernel
theorem dX9_init_177 : decode cX9_init 177 = .ok (.newarray .long, 2) := by decide +kernel
theorem dX9_init_179 : decode cX9_init 179 = .ok (.putfield 72, 3) := by decide +kernel
theorem dX9_init_182 : decode cX9_init 182 = .ok (.aload_n 0, 1) := by decide +kernel
theorem dX9_init_183 : decode cX9_init 183 = .ok (.bipush 52, 2) := by decide +kernel
theorem dX9_init_185 : decode cX9_init 185 = .ok (.newarray .long, 2) := by decide +kernel
theorem dX9_init_187 : decode cX9_init 187 = .ok (.putfield 75, 3) := by decide +kernel
theorem dX9_init_190 : decode cX9_init 190 = .ok (.aload_n 0, 1) := by decide +kernel
theorem dX9_init_191 : decode cX9_init 191 = .ok (.bipush 52, 2) := by decide +kernel
theorem dX9_init_193 : decode cX9_init 193 = .ok (.newarray .long, 2) := by decide +kernel
theorem dX9_init_195 : decode cX9_init 195 = .ok (.putfield 78, 3) := by decide +kernel
theorem dX9_init_198 : decode cX9_init 198 = .ok (.return_, 1) := by decide +kernel
theorem dX9_feed_0 : decode cX9_feed 0 = .ok (.aload_n 0, 1) := by decide +kernel
theorem dX9_feed_1 : decode cX9_feed 1 = .ok (.getfield 81, 3) := by decide +kernel
theorem dX9_feed_4 : decode cX9_feed 4 = .ok (.sipush 480, 3) := by decide +kernel
theorem dX9_feed_7 : decode cX9_feed 7 = .ok (.if_icmp .le 5, 3) := by decide +kernel
theorem dX9_feed_10 : decode cX9_feed 10 = .ok (.iconst (-1), 1) := by decide +kernel
theorem dX9_feed_11 : decode cX9_feed 11 = .ok (.ireturn, 1) := by decide +kernel
theorem dX9_feed_12 : decode cX9_feed 12 = .ok (.iconst 5, 1) := by decide +kernel
theorem dX9_feed_13 : decode cX9_feed 13 = .ok (.newarray .int, 2) := by decide +kernel
theorem dX9_feed_15 : decode cX9_feed 15 = .ok (.dup, 1) := by decide +kernel
theorem dX9_feed_16 : decode cX9_feed 16 = .ok (.iconst 0, 1) := by decide +kernel
theorem dX9_feed_17 : decode cX9_feed 17 = .ok (.iload_n 1, 1) := by decide +kernel
theorem dX9_feed_18 : decode cX9_feed 18 = .ok (.iastore, 1) := by decide +kernel
theorem dX9_feed_19 : decode cX9_feed 19 = .ok (.dup, 1) := by decide +kernel
theorem dX9_feed_20 : decode cX9_feed 20 = .ok (.iconst 1, 1) := by decide +kernel
theorem dX9_feed_21 : decode cX9_feed 21 = .ok (.iload_n 2, 1) := by decide +kernel
theorem dX9_feed_22 : decode cX9_feed 22 = .ok (.iastore, 1) := by decide +kernel
theorem dX9_feed_23 : decode cX9_feed 23 = .ok (.dup, 1) := by decide +kernel
theorem dX9_feed_24 : decode cX9_feed 24 = .ok (.iconst 2, 1) := by decide +kernel
theorem dX9_feed_25 : decode cX9_feed 25 = .ok (.iload_n 3, 1) := by decide +kernel
theorem dX9_feed_26 : decode cX9_feed 26 = .ok (.iastore, 1) := by decide +kernel
theorem dX9_feed_27 : decode cX9_feed 27 = .ok (.dup, 1) := by decide +kernel
theorem dX9_feed_28 : decode cX9_feed 28 = .ok (.iconst 3, 1) := by decide +kernel
theorem dX9_feed_29 : decode cX9_feed 29 = .ok (.iload 4, 2) := by decide +kernel
theorem dX9_feed_31 : decode cX9_feed 31 = .ok (.iastore, 1) := by decide +kernel
theorem dX9_feed_32 : decode cX9_feed 32 = .ok (.dup, 1) := by decide +kernel
theorem dX9_feed_33 : decode cX9_feed 33 = .ok (.iconst 4, 1) := by decide +kernel
theorem dX9_feed_34 : decode cX9_feed 34 = .ok (.iload 5, 2) := by decide +kernel
theorem dX9_feed_36 : decode cX9_feed 36 = .ok (.iastore, 1) := by decide +kernel
theorem dX9_feed_37 : decode cX9_feed 37 = .ok (.astore 6, 2) := by decide +kernel
theorem dX9_feed_39 : decode cX9_feed 39 = .ok (.iconst 0, 1) := by decide +kernel
theorem dX9_feed_40 : decode cX9_feed 40 = .ok (.istore 7, 2) := by decide +kernel
theorem dX9_feed_42 : decode cX9_feed 42 = .ok (.iload 7, 2) := by decide +kernel
theorem dX9_feed_44 : decode cX9_feed 44 = .ok (.bipush 20, 2) := by decide +kernel
theorem dX9_feed_46 : decode cX9_feed 46 = .ok (.if_icmp .ge 43, 3) := by decide +kernel
theorem dX9_feed_49 : decode cX9_feed 49 = .ok (.aload_n 0, 1) := by decide +kernel
theorem dX9_feed_50 : decode cX9_feed 50 = .ok (.getfield 19, 3) := by decide +kernel
theorem dX9_feed_53 : decode cX9_feed 53 = .ok (.aload_n 0, 1) := by decide +kernel
theorem dX9_feed_54 : decode cX9_feed 54 = .ok (.getfield 81, 3) := by decide +kernel
theorem dX9_feed_57 : decode cX9_feed 57 = .ok (.iload 7, 2) := by decide +kernel
theorem dX9_feed_59 : decode cX9_feed 59 = .ok (.iadd, 1) := by decide +kernel
theorem dX9_feed_60 : decode cX9_feed 60 = .ok (.aload 6, 2) := by decide +kernel
theorem dX9_feed_62 : decode cX9_feed 62 = .ok (.iload 7, 2) := by decide +kernel
theorem dX9_feed_64 : decode cX9_feed 64 = .ok (.iconst 4, 1) := by decide +kernel
theorem dX9_feed_65 : decode cX9_feed 65 = .ok (.idiv, 1) := by decide +kernel
theorem dX9_feed_66 : decode cX9_feed 66 = .ok (.iaload, 1) := by decide +kernel
theorem dX9_feed_67 : decode cX9_feed 67 = .ok (.bipush 24, 2) := by decide +kernel
theorem dX9_feed_69 : decode cX9_feed 69 = .ok (.bipush 8, 2) := by decide +kernel
theorem dX9_feed_71 : decode cX9_feed 71 = .ok (.iload 7, 2) := by decide +kernel
theorem dX9_feed_73 : decode cX9_feed 73 = .ok (.iconst 4, 1) := by decide +kernel
theorem dX9_feed_74 : decode cX9_feed 74 = .ok (.irem, 1) := by decide +kernel
theorem dX9_feed_75 : decode cX9_feed 75 = .ok (.imul, 1) := by decide +kernel
theorem dX9_feed_76 : decode cX9_feed 76 = .ok (.isub, 1) := by decide +kernel
theorem dX9_feed_77 : decode cX9_feed 77 = .ok (.iushr, 1) := by decide +kernel
theorem dX9_feed_78 : decode cX9_feed 78 = .ok (.sipush 255, 3) := by decide +kernel
theorem dX9_feed_81 : decode cX9_feed 81 = .ok (.iand, 1) := by decide +kernel
theorem dX9_feed_82 : decode cX9_feed 82 = .ok (.iastore, 1) := by decide +kernel
theorem dX9_feed_83 : decode cX9_feed 83 = .ok (.iinc 7 1, 3) := by decide +kernel
theorem dX9_feed_86 : decode cX9_feed 86 = .ok (.goto (-44), 3) := by decide +kernel
theorem dX9_feed_89 : decode cX9_feed 89 = .ok (.aload_n 0, 1) := by decide +kernel
theorem dX9_feed_90 : decode cX9_feed 90 = .ok (.dup, 1) := by decide +kernel
theorem dX9_feed_91 : decode cX9_feed 91 = .ok (.getfield 81, 3) := by decide +kernel
theorem dX9_feed_94 : decode cX9_feed 94 = .ok (.bipush 20, 2) := by decide +kernel
theorem dX9_feed_96 : decode cX9_feed 96 = .ok (.iadd, 1) := by decide +kernel
theorem dX9_feed_97 : decode cX9_feed 97 = .ok (.putfield 81, 3) := by decide +kernel
theorem dX9_feed_100 : decode cX9_feed 100 = .ok (.aload_n 0, 1) := by decide +kernel
theorem dX9_feed_101 : decode cX9_feed 101 = .ok (.getfield 81, 3) := by decide +kernel
theorem dX9_feed_104 : decode cX9_feed 104 = .ok (.ireturn, 1) := by decide +kernel
theorem dX9_end_0 : decode cX9_end 0 = .ok (.iload_n 1, 1) := by decide +kernel
theorem dX9_end_1 : decode cX9_end 1 = .ok (.i2l, 1) := by decide +kernel
theorem dX9_end_2 : decode cX9_end 2 = .ok (.lconst 0, 1) := by decide +kernel
theorem dX9_end_3 : decode cX9_end 3 = .ok (.aload_n 0, 1) := by decide +kernel
theorem dX9_end_4 : decode cX9_end 4 = .ok (.getfield 81, 3) := by decide +kernel
theorem dX9_end_7 : decode cX9_end 7 = .ok (.i2l, 1) := by decide +kernel
theorem dX9_end_8 : decode cX9_end 8 = .ok (.invokestatic 84, 3) := by decide +kernel
theorem dX9_end_11 : decode cX9_end 11 = .ok (.ifCond .ne 5, 3) := by decide +kernel
theorem dX9_end_14 : decode cX9_end 14 = .ok (.iconst (-1), 1) := by decide +kernel
theorem dX9_end_15 : decode cX9_end 15 = .ok (.ireturn, 1) := by decide +kernel
theorem dX9_end_16 : decode cX9_end 16 = .ok (.aload_n 0, 1) := by decide +kernel
theorem dX9_end_17 : decode cX9_end 17 = .ok (.iload_n 1, 1) := by decide +kernel
theorem dX9_end_18 : decode cX9_end 18 = .ok (.putfield 81, 3) := by decide +kernel
theorem dX9_end_21 : decode cX9_end 21 = .ok (.iload_n 1, 1) := by decide +kernel
theorem dX9_end_22 : decode cX9_end 22 = .ok (.ireturn, 1) := by decide +kernel
theorem dX9_isAt_0 : decode cX9_isAt 0 = .ok (.aload_n 0, 1) := by decide +kernel
theorem dX9_isAt_1 : decode cX9_isAt 1 = .ok (.getfield 88, 3) := by decide +kernel
theorem dX9_isAt_4 : decode cX9_isAt 4 = .ok (.aload_n 0, 1) := by decide +kernel
theorem dX9_isAt_5 : decode cX9_isAt 5 = .ok (.getfield 81, 3) := by decide +kernel
theorem dX9_isAt_8 : decode cX9_isAt 8 = .ok (.if_icmp .ge 27, 3) := by decide +kernel
theorem dX9_isAt_11 : decode cX9_isAt 11 = .ok (.aload_n 0, 1) := by decide +kernel
theorem dX9_isAt_12 : decode cX9_isAt 12 = .ok (.getfield 19, 3) := by decide +kernel
theorem dX9_isAt_15 : decode cX9_isAt 15 = .ok (.aload_n 0, 1) := by decide +kernel
theorem dX9_isAt_16 : decode cX9_isAt 16 = .ok (.getfield 88, 3) := by decide +kernel
theorem dX9_isAt_19 : decode cX9_isAt 19 = .ok (.iaload, 1) := by decide +kernel
theorem dX9_isAt_20 : decode cX9_isAt 20 = .ok (.i2l, 1) := by decide +kernel
theorem dX9_isAt_21 : decode cX9_isAt 21 = .ok (.iload_n 1, 1) := by decide +kernel
theorem dX9_isAt_22 : decode cX9_isAt 22 = .ok (.i2l, 1) := by decide +kernel
theorem dX9_isAt_23 : decode cX9_isAt 23 = .ok (.iload_n 2, 1) := by decide +kernel
theorem dX9_isAt_24 : decode cX9_isAt 24 = .ok (.i2l, 1) := by decide +kernel
theorem dX9_isAt_25 : decode cX9_isAt 25 = .ok (.invokestatic 84, 3) := by decide +kernel
theorem dX9_isAt_28 : decode cX9_isAt 28 = .ok (.ifCond .eq 7, 3) := by decide +kernel
theorem dX9_isAt_31 : decode cX9_isAt 31 = .ok (.iconst 1, 1) := by decide +kernel
theorem dX9_isAt_32 : decode cX9_isAt 32 = .ok (.goto 4, 3) := by decide +kernel
theorem dX9_isAt_35 : decode cX9_isAt 35 = .ok (.iconst 0, 1) := by decide +kernel
theorem dX9_isAt_36 : decode cX9_isAt 36 = .ok (.ireturn, 1) := by decide +kernel
theorem dX9_next_0 : decode cX9_next 0 = .ok (.aload_n 0, 1) := by decide +kernel
theorem dX9_next_1 : decode cX9_next 1 = .ok (.bipush 32, 2) := by decide +kernel
theorem dX9_next_3 : decode cX9_next 3 = .ok (.bipush 32, 2) := by decide +kernel
theorem dX9_next_5 : decode cX9_next 5 = .ok (.invokevirtual 91, 3) := by decide +kernel
theorem dX9_next_8 : decode cX9_next 8 = .ok (.ifCond .ne 14, 3) := by decide +kernel
theorem dX9_next_11 : decode cX9_next 11 = .ok (.aload_n 0, 1) := by decide +kernel
theorem dX9_next_12 : decode cX9_next 12 = .ok (.bipush 10, 2) := by decide +kernel
theorem dX9_next_14 : decode cX9_next 14 = .ok (.bipush 10, 2) := by decide +kernel
theorem dX9_next_16 : decode cX9_next 16 = .ok (.invokevirtual 91, 3) := by decide +kernel
theorem dX9_next_19 : decode cX9_next 19 = .ok (.ifCond .eq 16, 3) := by decide +kernel
theorem dX9_next_22 : decode cX9_next 22 = .ok (.aload_n 0, 1) := by decide +kernel
theorem dX9_next_23 : decode cX9_next 23 = .ok (.dup, 1) := by decide +kernel
theorem dX9_next_24 : decode cX9_next 24 = .ok (.getfield 88, 3) := by decide +kernel
theorem dX9_next_27 : decode cX9_next 27 = .ok (.iconst 1, 1) := by decide +kernel
theorem dX9_next_28 : decode cX9_next 28 = .ok (.iadd, 1) := by decide +kernel
theorem dX9_next_29 : decode cX9_next 29 = .ok (.putfield 88, 3) := by decide +kernel
theorem dX9_next_32 : decode cX9_next 32 = .ok (.goto (-32), 3) := by decide +kernel
theorem dX9_next_35 : decode cX9_next 35 = .ok (.aload_n 0, 1) := by decide +kernel
theorem dX9_next_36 : decode cX9_next 36 = .ok (.aload_n 0, 1) := by decide +kernel
theorem dX9_next_37 : decode cX9_next 37 = .ok (.getfield 88, 3) := by decide +kernel
theorem dX9_next_40 : decode cX9_next 40 = .ok (.putfield 95, 3) := by decide +kernel
theorem dX9_next_43 : decode cX9_next 43 = .ok (.aload_n 0, 1) := by decide +kernel
theorem dX9_next_44 : decode cX9_next 44 = .ok (.iconst 0, 1) := by decide +kernel
theorem dX9_next_45 : decode cX9_next 45 = .ok (.putfield 98, 3) := by decide +kernel
theorem dX9_next_48 : decode cX9_next 48 = .ok (.aload_n 0, 1) := by decide +kernel
theorem dX9_next_49 : decode cX9_next 49 = .ok (.getfield 88, 3) := by decide +kernel
theorem dX9_next_52 : decode cX9_next 52 = .ok (.aload_n 0, 1) := by decide +kernel
theorem dX9_next_53 : decode cX9_next 53 = .ok (.getfield 81, 3) := by decide +kernel
theorem dX9_next_56 : decode cX9_next 56 = .ok (.if_icmp .ne 11, 3) := by decide +kernel
theorem dX9_next_59 : decode cX9_next 59 = .ok (.aload_n 0, 1) := by decide +kernel
theorem dX9_next_60 : decode cX9_next 60 = .ok (.iconst 0, 1) := by decide +kernel
theorem dX9_next_61 : decode cX9_next 61 = .ok (.putfield 101, 3) := by decide +kernel
theorem dX9_next_64 : decode cX9_next 64 = .ok (.goto 142, 3) := by decide +kernel
theorem dX9_next_67 : decode cX9_next 67 = .ok (.aload_n 0, 1) := by decide +kernel
theorem dX9_next_68 : decode cX9_next 68 = .ok (.bipush 97, 2) := by decide +kernel
theorem dX9_next_70 : decode cX9_next 70 = .ok (.bipush 122, 2) := by decide +kernel
theorem dX9_next_72 : decode cX9_next 72 = .ok (.invokevirtual 91, 3) := by decide +kernel
theorem dX9_next_75 : decode cX9_next 75 = .ok (.ifCond .eq 32, 3) := by decide +kernel
theorem dX9_next_78 : decode cX9_next 78 = .ok (.aload_n 0, 1) := by decide +kernel
theorem dX9_next_79 : decode cX9_next 79 = .ok (.iconst 1, 1) := by decide +kernel
theorem dX9_next_80 : decode cX9_next 80 = .ok (.putfield 101, 3) := by decide +kernel
theorem dX9_next_83 : decode cX9_next 83 = .ok (.aload_n 0, 1) := by decide +kernel
theorem dX9_next_84 : decode cX9_next 84 = .ok (.bipush 97, 2) := by decide +kernel
theorem dX9_next_86 : decode cX9_next 86 = .ok (.bipush 122, 2) := by decide +kernel
theorem dX9_next_88 : decode cX9_next 88 = .ok (.invokevirtual 91, 3) := by decide +kernel
theorem dX9_next_91 : decode cX9_next 91 = .ok (.ifCond .eq 115, 3) := by decide +kernel
theorem dX9_next_94 : decode cX9_next 94 = .ok (.aload_n 0, 1) := by decide +kernel
theorem dX9_next_95 : decode cX9_next 95 = .ok (.dup, 1) := by decide +kernel
theorem dX9_next_96 : decode cX9_next 96 = .ok (.getfield 88, 3) := by decide +kernel
theorem dX9_next_99 : decode cX9_next 99 = .ok (.iconst 1, 1) := by decide +kernel
theorem dX9_next_100 : decode cX9_next 100 = .ok (.iadd, 1) := by decide +kernel
theorem dX9_next_101 : decode cX9_next 101 = .ok (.putfield 88, 3) := by decide +kernel
theorem dX9_next_104 : decode cX9_next 104 = .ok (.goto (-21), 3) := by decide +kernel
theorem dX9_next_107 : decode cX9_next 107 = .ok (.aload_n 0, 1) := by decide +kernel
theorem dX9_next_108 : decode cX9_next 108 = .ok (.bipush 48, 2) := by decide +kernel
theorem dX9_next_110 : decode cX9_next 110 = .ok (.bipush 57, 2) := by decide +kernel
theorem dX9_next_112 : decode cX9_next 112 = .ok (.invokevirtual 91, 3) := by decide +kernel
theorem dX9_next_115 : decode cX9_next 115 = .ok (.ifCond .eq 61, 3) := by decide +kernel
theorem dX9_next_118 : decode cX9_next 118 = .ok (.aload_n 0, 1) := by decide +kernel
theorem dX9_next_119 : decode cX9_next 119 = .ok (.iconst 2, 1) := by decide +kernel
theorem dX9_next_120 : decode cX9_next 120 = .ok (.putfield 101, 3) := by decide +kernel
theorem dX9_next_123 : decode cX9_next 123 = .ok (.aload_n 0, 1) := by decide +kernel
theorem dX9_next_124 : decode cX9_next 124 = .ok (.bipush 48, 2) := by decide +kernel
theorem dX9_next_126 : decode cX9_next 126 = .ok (.bipush 57, 2) := by decide +kernel
theorem dX9_next_128 : decode cX9_next 128 = .ok (.invokevirtual 91, 3) := by decide +kernel
theorem dX9_next_131 : decode cX9_next 131 = .ok (.ifCond .eq 75, 3) := by decide +kernel
theorem dX9_next_134 : decode cX9_next 134 = .ok (.aload_n 0, 1) := by decide +kernel
theorem dX9_next_135 : decode cX9_next 135 = .ok (.ldc 104, 2) := by decide +kernel
theorem dX9_next_137 : decode cX9_next 137 = .ok (.bipush 10, 2) := by decide +kernel
theorem dX9_next_139 : decode cX9_next 139 = .ok (.aload_n 0, 1) := by decide +kernel
theorem dX9_next_140 : decode cX9_next 140 = .ok (.getfield 98, 3) := by decide +kernel
theorem dX9_next_143 : decode cX9_next 143 = .ok (.imul, 1) := by decide +kernel
theorem dX9_next_144 : decode cX9_next 144 = .ok (.aload_n 0, 1) := by decide +kernel
theorem dX9_next_145 : decode cX9_next 145 = .ok (.getfield 19, 3) := by decide +kernel
theorem dX9_next_148 : decode cX9_next 148 = .ok (.aload_n 0, 1) := by decide +kernel
theorem dX9_next_149 : decode cX9_next 149 = .ok (.getfield 88, 3) := by decide +kernel
theorem dX9_next_152 : decode cX9_next 152 = .ok (.iaload, 1) := by decide +kernel
theorem dX9_next_153 : decode cX9_next 153 = .ok (.iadd, 1) := by decide +kernel
theorem dX9_next_154 : decode cX9_next 154 = .ok (.bipush 48, 2) := by decide +kernel
theorem dX9_next_156 : decode cX9_next 156 = .ok (.isub, 1) := by decide +kernel
theorem dX9_next_157 : decode cX9_next 157 = .ok (.invokestatic 105, 3) := by decide +kernel
theorem dX9_next_160 : decode cX9_next 160 = .ok (.putfield 98, 3) := by decide +kernel
theorem dX9_next_163 : decode cX9_next 163 = .ok (.aload_n 0, 1) := by decide +kernel
theorem dX9_next_164 : decode cX9_next 164 = .ok (.dup, 1) := by decide +kernel
theorem dX9_next_165 : decode cX9_next 165 = .ok (.getfield 88, 3) := by decide +kernel
theorem dX9_next_168 : decode cX9_next 168 = .ok (.iconst 1, 1) := by decide +kernel
theorem dX9_next_169 : decode cX9_next 169 = .ok (.iadd, 1) := by decide +kernel
theorem dX9_next_170 : decode cX9_next 170 = .ok (.putfield 88, 3) := by decide +kernel
theorem dX9_next_173 : decode cX9_next 173 = .ok (.goto (-50), 3) := by decide +kernel
theorem dX9_next_176 : decode cX9_next 176 = .ok (.aload_n 0, 1) := by decide +kernel
theorem dX9_next_177 : decode cX9_next 177 = .ok (.aload_n 0, 1) := by decide +kernel
theorem dX9_next_178 : decode cX9_next 178 = .ok (.bipush 59, 2) := by decide +kernel
theorem dX9_next_180 : decode cX9_next 180 = .ok (.bipush 59, 2) := by decide +kernel
theorem dX9_next_182 : decode cX9_next 182 = .ok (.invokevirtual 91, 3) := by decide +kernel
theorem dX9_next_185 : decode cX9_next 185 = .ok (.ifCond .eq 7, 3) := by decide +kernel
theorem dX9_next_188 : decode cX9_next 188 = .ok (.iconst 3, 1) := by decide +kernel
theorem dX9_next_189 : decode cX9_next 189 = .ok (.goto 4, 3) := by decide +kernel
theorem dX9_next_192 : decode cX9_next 192 = .ok (.iconst 4, 1) := by decide +kernel
theorem dX9_next_193 : decode cX9_next 193 = .ok (.putfield 101, 3) := by decide +kernel
theorem dX9_next_196 : decode cX9_next 196 = .ok (.aload_n 0, 1) := by decide +kernel
theorem dX9_next_197 : decode cX9_next 197 = .ok (.dup, 1) := by decide +kernel
theorem dX9_next_198 : decode cX9_next 198 = .ok (.getfield 88, 3) := by decide +kernel
theorem dX9_next_201 : decode cX9_next 201 = .ok (.iconst 1, 1) := by decide +kernel
theorem dX9_next_202 : decode cX9_next 202 = .ok (.iadd, 1) := by decide +kernel
theorem dX9_next_203 : decode cX9_next 203 = .ok (.putfield 88, 3) := by decide +kernel
theorem dX9_next_206 : decode cX9_next 206 = .ok (.return_, 1) := by decide +kernel
theorem dX9_faults_0 : decode cX9_faults 0 = .ok (.aload_n 0, 1) := by decide +kernel
theorem dX9_faults_1 : decode cX9_faults 1 = .ok (.getfield 111, 3) := by decide +kernel
theorem dX9_faults_4 : decode cX9_faults 4 = .ok (.ifCond .ne 21, 3) := by decide +kernel
theorem dX9_faults_7 : decode cX9_faults 7 = .ok (.aload_n 0, 1) := by decide +kernel
theorem dX9_faults_8 : decode cX9_faults 8 = .ok (.iconst 1, 1) := by decide +kernel
theorem dX9_faults_9 : decode cX9_faults 9 = .ok (.putfield 111, 3) := by decide +kernel
theorem dX9_faults_12 : decode cX9_faults 12 = .ok (.aload_n 0, 1) := by decide +kernel
theorem dX9_faults_13 : decode cX9_faults 13 = .ok (.iload_n 1, 1) := by decide +kernel
theorem dX9_faults_14 : decode cX9_faults 14 = .ok (.putfield 115, 3) := by decide +kernel
theorem dX9_faults_17 : decode cX9_faults 17 = .ok (.aload_n 0, 1) := by decide +kernel
theorem dX9_faults_18 : decode cX9_faults 18 = .ok (.aload_n 0, 1) := by decide +kernel
theorem dX9_faults_19 : decode cX9_faults 19 = .ok (.getfield 95, 3) := by decide +kernel
theorem dX9_faults_22 : decode cX9_faults 22 = .ok (.putfield 118, 3) := by decide +kernel
theorem dX9_faults_25 : decode cX9_faults 25 = .ok (.return_, 1) := by decide +kernel
theorem dX9_isWord_0 : decode cX9_isWord 0 = .ok (.aload_n 0, 1) := by decide +kernel
theorem dX9_isWord_1 : decode cX9_isWord 1 = .ok (.getfield 101, 3) := by decide +kernel
theorem dX9_isWord_4 : decode cX9_isWord 4 = .ok (.iconst 1, 1) := by decide +kernel
theorem dX9_isWord_5 : decode cX9_isWord 5 = .ok (.if_icmp .ne 23, 3) := by decide +kernel
theorem dX9_isWord_8 : decode cX9_isWord 8 = .ok (.aload_n 0, 1) := by decide +kernel
theorem dX9_isWord_9 : decode cX9_isWord 9 = .ok (.getfield 88, 3) := by decide +kernel
theorem dX9_isWord_12 : decode cX9_isWord 12 = .ok (.aload_n 0, 1) := by decide +kernel
theorem dX9_isWord_13 : decode cX9_isWord 13 = .ok (.getfield 95, 3) := by decide +kernel
theorem dX9_isWord_16 : decode cX9_isWord 16 = .ok (.isub, 1) := by decide +kernel
theorem dX9_isWord_17 : decode cX9_isWord 17 = .ok (.aload_n 1, 1) := by decide +kernel
theorem dX9_isWord_18 : decode cX9_isWord 18 = .ok (.invokevirtual 121, 3) := by decide +kernel
theorem dX9_isWord_21 : decode cX9_isWord 21 = .ok (.if_icmp .ne 7, 3) := by decide +kernel
theorem dX9_isWord_24 : decode cX9_isWord 24 = .ok (.iconst 1, 1) := by decide +kernel
theorem dX9_isWord_25 : decode cX9_isWord 25 = .ok (.goto 4, 3) := by decide +kernel
theorem dX9_isWord_28 : decode cX9_isWord 28 = .ok (.iconst 0, 1) := by decide +kernel
theorem dX9_isWord_29 : decode cX9_isWord 29 = .ok (.istore_n 2, 1) := by decide +kernel
theorem dX9_isWord_30 : decode cX9_isWord 30 = .ok (.iconst 0, 1) := by decide +kernel
theorem dX9_isWord_31 : decode cX9_isWord 31 = .ok (.istore_n 3, 1) := by decide +kernel
theorem dX9_isWord_32 : decode cX9_isWord 32 = .ok (.iload_n 3, 1) := by decide +kernel
theorem dX9_isWord_33 : decode cX9_isWord 33 = .ok (.aload_n 1, 1) := by decide +kernel
theorem dX9_isWord_34 : decode cX9_isWord 34 = .ok (.invokevirtual 121, 3) := by decide +kernel
theorem dX9_isWord_37 : decode cX9_isWord 37 = .ok (.if_icmp .ge 38, 3) := by decide +kernel
theorem dX9_isWord_40 : decode cX9_isWord 40 = .ok (.iload_n 2, 1) := by decide +kernel
theorem dX9_isWord_41 : decode cX9_isWord 41 = .ok (.ifCond .eq 34, 3) := by decide +kernel
theorem dX9_isWord_44 : decode cX9_isWord 44 = .ok (.aload_n 0, 1) := by decide +kernel
theorem dX9_isWord_45 : decode cX9_isWord 45 = .ok (.getfield 19, 3) := by decide +kernel
theorem dX9_isWord_48 : decode cX9_isWord 48 = .ok (.aload_n 0, 1) := by decide +kernel
theorem dX9_isWord_49 : decode cX9_isWord 49 = .ok (.getfield 95, 3) := by decide +kernel
theorem dX9_isWord_52 : decode cX9_isWord 52 = .ok (.iload_n 3, 1) := by decide +kernel
theorem dX9_isWord_53 : decode cX9_isWord 53 = .ok (.iadd, 1) := by decide +kernel
theorem dX9_isWord_54 : decode cX9_isWord 54 = .ok (.iaload, 1) := by decide +kernel
theorem dX9_isWord_55 : decode cX9_isWord 55 = .ok (.aload_n 1, 1) := by decide +kernel
theorem dX9_isWord_56 : decode cX9_isWord 56 = .ok (.iload_n 3, 1) := by decide +kernel
theorem dX9_isWord_57 : decode cX9_isWord 57 = .ok (.invokevirtual 127, 3) := by decide +kernel
theorem dX9_isWord_60 : decode cX9_isWord 60 = .ok (.if_icmp .ne 7, 3) := by decide +kernel
theorem dX9_isWord_63 : decode cX9_isWord 63 = .ok (.iconst 1, 1) := by decide +kernel
theorem dX9_isWord_64 : decode cX9_isWord 64 = .ok (.goto 4, 3) := by decide +kernel
theorem dX9_isWord_67 : decode cX9_isWord 67 = .ok (.iconst 0, 1) := by decide +kernel
theorem dX9_isWord_68 : decode cX9_isWord 68 = .ok (.istore_n 2, 1) := by decide +kernel
theorem dX9_isWord_69 : decode cX9_isWord 69 = .ok (.iinc 3 1, 3) := by decide +kernel
theorem dX9_isWord_72 : decode cX9_isWord 72 = .ok (.goto (-40), 3) := by decide +kernel
theorem dX9_isWord_75 : decode cX9_isWord 75 = .ok (.iload_n 2, 1) := by decide +kernel
theorem dX9_isWord_76 : decode cX9_isWord 76 = .ok (.ireturn, 1) := by decide +kernel
theorem dX9_passes_0 : decode cX9_passes 0 = .ok (.iload_n 1, 1) := by decide +kernel
theorem dX9_passes_1 : decode cX9_passes 1 = .ok (.ifCond .ne 8, 3) := by decide +kernel
theorem dX9_passes_4 : decode cX9_passes 4 = .ok (.aload_n 0, 1) := by decide +kernel
theorem dX9_passes_5 : decode cX9_passes 5 = .ok (.iconst 1, 1) := by decide +kernel
theorem dX9_passes_6 : decode cX9_passes 6 = .ok (.invokevirtual 131, 3) := by decide +kernel
theorem dX9_passes_9 : decode cX9_passes 9 = .ok (.aload_n 0, 1) := by decide +kernel
theorem dX9_passes_10 : decode cX9_passes 10 = .ok (.getfield 111, 3) := by decide +kernel
theorem dX9_passes_13 : decode cX9_passes 13 = .ok (.ifCond .ne 7, 3) := by decide +kernel
theorem dX9_passes_16 : decode cX9_passes 16 = .ok (.aload_n 0, 1) := by decide +kernel
theorem dX9_passes_17 : decode cX9_passes 17 = .ok (.invokevirtual 135, 3) := by decide +kernel
theorem dX9_passes_20 : decode cX9_passes 20 = .ok (.return_, 1) := by decide +kernel
theorem dX9_reads_0 : decode cX9_reads 0 = .ok (.aload_n 0, 1) := by decide +kernel
theorem dX9_reads_1 : decode cX9_reads 1 = .ok (.getfield 98, 3) := by decide +kernel
theorem dX9_reads_4 : decode cX9_reads 4 = .ok (.istore_n 3, 1) := by decide +kernel
theorem dX9_reads_5 : decode cX9_reads 5 = .ok (.aload_n 0, 1) := by decide +kernel
theorem dX9_reads_6 : decode cX9_reads 6 = .ok (.getfield 101, 3) := by decide +kernel
theorem dX9_reads_9 : decode cX9_reads 9 = .ok (.iconst 2, 1) := by decide +kernel
theorem dX9_reads_10 : decode cX9_reads 10 = .ok (.if_icmp .eq 11, 3) := by decide +kernel
theorem dX9_reads_13 : decode cX9_reads 13 = .ok (.aload_n 0, 1) := by decide +kernel
theorem dX9_reads_14 : decode cX9_reads 14 = .ok (.iconst 1, 1) := by decide +kernel
theorem dX9_reads_15 : decode cX9_reads 15 = .ok (.invokevirtual 131, 3) := by decide +kernel
theorem dX9_reads_18 : decode cX9_reads 18 = .ok (.goto 20, 3) := by decide +kernel
theorem dX9_reads_21 : decode cX9_reads 21 = .ok (.iload_n 3, 1) := by decide +kernel
theorem dX9_reads_22 : decode cX9_reads 22 = .ok (.i2l, 1) := by decide +kernel
theorem dX9_reads_23 : decode cX9_reads 23 = .ok (.iload_n 1, 1) := by decide +kernel
theorem dX9_reads_24 : decode cX9_reads 24 = .ok (.i2l, 1) := by decide +kernel
theorem dX9_reads_25 : decode cX9_reads 25 = .ok (.iload_n 2, 1) := by decide +kernel
theorem dX9_reads_26 : decode cX9_reads 26 = .ok (.i2l, 1) := by decide +kernel
theorem dX9_reads_27 : decode cX9_reads 27 = .ok (.invokestatic 84, 3) := by decide +kernel
theorem dX9_reads_30 : decode cX9_reads 30 = .ok (.ifCond .ne 8, 3) := by decide +kernel
theorem dX9_reads_33 : decode cX9_reads 33 = .ok (.aload_n 0, 1) := by decide +kernel
theorem dX9_reads_34 : decode cX9_reads 34 = .ok (.iconst 2, 1) := by decide +kernel
theorem dX9_reads_35 : decode cX9_reads 35 = .ok (.invokevirtual 131, 3) := by decide +kernel
theorem dX9_reads_38 : decode cX9_reads 38 = .ok (.aload_n 0, 1) := by decide +kernel
theorem dX9_reads_39 : decode cX9_reads 39 = .ok (.iconst 1, 1) := by decide +kernel
theorem dX9_reads_40 : decode cX9_reads 40 = .ok (.invokevirtual 138, 3) := by decide +kernel
theorem dX9_reads_43 : decode cX9_reads 43 = .ok (.iload_n 3, 1) := by decide +kernel
theorem dX9_reads_44 : decode cX9_reads 44 = .ok (.ireturn, 1) := by decide +kernel
theorem dX9_named_0 : decode cX9_named 0 = .ok (.aload_n 0, 1) := by decide +kernel
theorem dX9_named_1 : decode cX9_named 1 = .ok (.aload_n 0, 1) := by decide +kernel
theorem dX9_named_2 : decode cX9_named 2 = .ok (.getfield 111, 3) := by decide +kernel
theorem dX9_named_5 : decode cX9_named 5 = .ok (.ifCond .ne 11, 3) := by decide +kernel
theorem dX9_named_8 : decode cX9_named 8 = .ok (.aload_n 0, 1) := by decide +kernel
theorem dX9_named_9 : decode cX9_named 9 = .ok (.aload_n 1, 1) := by decide +kernel
theorem dX9_named_10 : decode cX9_named 10 = .ok (.invokevirtual 142, 3) := by decide +kernel
theorem dX9_named_13 : decode cX9_named 13 = .ok (.ifCond .eq 7, 3) := by decide +kernel
theorem dX9_named_16 : decode cX9_named 16 = .ok (.iconst 1, 1) := by decide +kernel
theorem dX9_named_17 : decode cX9_named 17 = .ok (.goto 4, 3) := by decide +kernel
theorem dX9_named_20 : decode cX9_named 20 = .ok (.iconst 0, 1) := by decide +kernel
theorem dX9_named_21 : decode cX9_named 21 = .ok (.invokevirtual 138, 3) := by decide +kernel
theorem dX9_named_24 : decode cX9_named 24 = .ok (.aload_n 0, 1) := by decide +kernel
theorem dX9_named_25 : decode cX9_named 25 = .ok (.getfield 111, 3) := by decide +kernel
theorem dX9_named_28 : decode cX9_named 28 = .ok (.ifCond .eq 7, 3) := by decide +kernel
theorem dX9_named_31 : decode cX9_named 31 = .ok (.iconst 0, 1) := by decide +kernel
theorem dX9_named_32 : decode cX9_named 32 = .ok (.goto 9, 3) := by decide +kernel
theorem dX9_named_35 : decode cX9_named 35 = .ok (.aload_n 0, 1) := by decide +kernel
theorem dX9_named_36 : decode cX9_named 36 = .ok (.iload_n 2, 1) := by decide +kernel
theorem dX9_named_37 : decode cX9_named 37 = .ok (.iload_n 3, 1) := by decide +kernel
theorem dX9_named_38 : decode cX9_named 38 = .ok (.invokevirtual 146, 3) := by decide +kernel
theorem dX9_named_41 : decode cX9_named 41 = .ok (.ireturn, 1) := by decide +kernel
theorem dX9_readsChannel_0 : decode cX9_readsChannel 0 = .ok (.aload_n 0, 1) := by decide +kernel
theorem dX9_readsChannel_1 : decode cX9_readsChannel 1 = .ok (.aload_n 0, 1) := by decide +kernel
theorem dX9_readsChannel_2 : decode cX9_readsChannel 2 = .ok (.ldc 149, 2) := by decide +kernel
theorem dX9_readsChannel_4 : decode cX9_readsChannel 4 = .ok (.invokevirtual 142, 3) := by decide +kernel
theorem dX9_readsChannel_7 : decode cX9_readsChannel 7 = .ok (.invokevirtual 138, 3) := by decide +kernel
theorem dX9_readsChannel_10 : decode cX9_readsChannel 10 = .ok (.aload_n 0, 1) := by decide +kernel
theorem dX9_readsChannel_11 : decode cX9_readsChannel 11 = .ok (.getfield 9, 3) := by decide +kernel
theorem dX9_readsChannel_14 : decode cX9_readsChannel 14 = .ok (.iconst 0, 1) := by decide +kernel
theorem dX9_readsChannel_15 : decode cX9_readsChannel 15 = .ok (.aload_n 0, 1) := by decide +kernel
theorem dX9_readsChannel_16 : decode cX9_readsChannel 16 = .ok (.ldc 151, 2) := by decide +kernel
theorem dX9_readsChannel_18 : decode cX9_readsChannel 18 = .ok (.iconst 0, 1) := by decide +kernel
theorem dX9_readsChannel_19 : decode cX9_readsChannel 19 = .ok (.iconst 3, 1) := by decide +kernel
theorem dX9_readsChannel_20 : decode cX9_readsChannel 20 = .ok (.invokevirtual 153, 3) := by decide +kernel
theorem dX9_readsChannel_23 : decode cX9_readsChannel 23 = .ok (.iastore, 1) := by decide +kernel
theorem dX9_readsChannel_24 : decode cX9_readsChannel 24 = .ok (.aload_n 0, 1) := by decide +kernel
theorem dX9_readsChannel_25 : decode cX9_readsChannel 25 = .ok (.getfield 9, 3) := by decide +kernel
theorem dX9_readsChannel_28 : decode cX9_readsChannel 28 = .ok (.iconst 1, 1) := by decide +kernel
theorem dX9_readsChannel_29 : decode cX9_readsChannel 29 = .ok (.aload_n 0, 1) := by decide +kernel
theorem dX9_readsChannel_30 : decode cX9_readsChannel 30 = .ok (.ldc 157, 2) := by decide +kernel
theorem dX9_readsChannel_32 : decode cX9_readsChannel 32 = .ok (.iconst 1, 1) := by decide +kernel
theorem dX9_readsChannel_33 : decode cX9_readsChannel 33 = .ok (.sipush 200, 3) := by decide +kernel
theorem dX9_readsChannel_36 : decode cX9_readsChannel 36 = .ok (.invokevirtual 153, 3) := by decide +kernel
theorem dX9_readsChannel_39 : decode cX9_readsChannel 39 = .ok (.iastore, 1) := by decide +kernel
theorem dX9_readsChannel_40 : decode cX9_readsChannel 40 = .ok (.aload_n 0, 1) := by decide +kernel
theorem dX9_readsChannel_41 : decode cX9_readsChannel 41 = .ok (.getfield 9, 3) := by decide +kernel
theorem dX9_readsChannel_44 : decode cX9_readsChannel 44 = .ok (.iconst 2, 1) := by decide +kernel
theorem dX9_readsChannel_45 : decode cX9_readsChannel 45 = .ok (.aload_n 0, 1) := by decide +kernel
theorem dX9_readsChannel_46 : decode cX9_readsChannel 46 = .ok (.ldc 159, 2) := by decide +kernel
theorem dX9_readsChannel_48 : decode cX9_readsChannel 48 = .ok (.iconst 0, 1) := by decide +kernel
theorem dX9_readsChannel_49 : decode cX9_readsChannel 49 = .ok (.bipush 9, 2) := by decide +kernel
theorem dX9_readsChannel_51 : decode cX9_readsChannel 51 = .ok (.invokevirtual 153, 3) := by decide +kernel
theorem dX9_readsChannel_54 : decode cX9_readsChannel 54 = .ok (.iastore, 1) := by decide +kernel
theorem dX9_readsChannel_55 : decode cX9_readsChannel 55 = .ok (.aload_n 0, 1) := by decide +kernel
theorem dX9_readsChannel_56 : decode cX9_readsChannel 56 = .ok (.getfield 9, 3) := by decide +kernel
theorem dX9_readsChannel_59 : decode cX9_readsChannel 59 = .ok (.iconst 3, 1) := by decide +kernel
theorem dX9_readsChannel_60 : decode cX9_readsChannel 60 = .ok (.aload_n 0, 1) := by decide +kernel
theorem dX9_readsChannel_61 : decode cX9_readsChannel 61 = .ok (.ldc 161, 2) := by decide +kernel
theorem dX9_readsChannel_63 : decode cX9_readsChannel 63 = .ok (.iconst 1, 1) := by decide +kernel
theorem dX9_readsChannel_64 : decode cX9_readsChannel 64 = .ok (.bipush 20, 2) := by decide +kernel
theorem dX9_readsChannel_66 : decode cX9_readsChannel 66 = .ok (.invokevirtual 153, 3) := by decide +kernel
theorem dX9_readsChannel_69 : decode cX9_readsChannel 69 = .ok (.iastore, 1) := by decide +kernel
theorem dX9_readsChannel_70 : decode cX9_readsChannel 70 = .ok (.return_, 1) := by decide +kernel
theorem dX9_readsSender_0 : decode cX9_readsSender 0 = .ok (.aload_n 0, 1) := by decide +kernel
theorem dX9_readsSender_1 : decode cX9_readsSender 1 = .ok (.getfield 9, 3) := by decide +kernel
theorem dX9_readsSender_4 : decode cX9_readsSender 4 = .ok (.iconst 4, 1) := by decide +kernel
theorem dX9_readsSender_5 : decode cX9_readsSender 5 = .ok (.iaload, 1) := by decide +kernel
theorem dX9_readsSender_6 : decode cX9_readsSender 6 = .ok (.bipush 10, 2) := by decide +kernel
theorem dX9_readsSender_8 : decode cX9_readsSender 8 = .ok (.if_icmp .ne 9, 3) := by decide +kernel
theorem dX9_readsSender_11 : decode cX9_readsSender 11 = .ok (.aload_n 0, 1) := by decide +kernel
theorem dX9_readsSender_12 : decode cX9_readsSender 12 = .ok (.iconst 3, 1) := by decide +kernel
theorem dX9_readsSender_13 : decode cX9_readsSender 13 = .ok (.invokevirtual 131, 3) := by decide +kernel
theorem dX9_readsSender_16 : decode cX9_readsSender 16 = .ok (.return_, 1) := by decide +kernel
theorem dX9_readsSender_17 : decode cX9_readsSender 17 = .ok (.aload_n 0, 1) := by decide +kernel
theorem dX9_readsSender_18 : decode cX9_readsSender 18 = .ok (.invokevirtual 135, 3) := by decide +kernel
theorem dX9_readsSender_21 : decode cX9_readsSender 21 = .ok (.aload_n 0, 1) := by decide +kernel
theorem dX9_readsSender_22 : decode cX9_readsSender 22 = .ok (.getfield 9, 3) := by decide +kernel
theorem dX9_readsSender_25 : decode cX9_readsSender 25 = .ok (.iconst 4, 1) := by decide +kernel
theorem dX9_readsSender_26 : decode cX9_readsSender 26 = .ok (.iaload, 1) := by decide +kernel
theorem dX9_readsSender_27 : decode cX9_readsSender 27 = .ok (.istore_n 1, 1) := by decide +kernel
theorem dX9_readsSender_28 : decode cX9_readsSender 28 = .ok (.aload_n 0, 1) := by decide +kernel
theorem dX9_readsSender_29 : decode cX9_readsSender 29 = .ok (.getfield 9, 3) := by decide +kernel
theorem dX9_readsSender_32 : decode cX9_readsSender 32 = .ok (.bipush 7, 2) := by decide +kernel
theorem dX9_readsSender_34 : decode cX9_readsSender 34 = .ok (.iload_n 1, 1) := by decide +kernel
theorem dX9_readsSender_35 : decode cX9_readsSender 35 = .ok (.iadd, 1) := by decide +kernel
theorem dX9_readsSender_36 : decode cX9_readsSender 36 = .ok (.aload_n 0, 1) := by decide +kernel
theorem dX9_readsSender_37 : decode cX9_readsSender 37 = .ok (.ldc 163, 2) := by decide +kernel
theorem dX9_readsSender_39 : decode cX9_readsSender 39 = .ok (.iconst 0, 1) := by decide +kernel
theorem dX9_readsSender_40 : decode cX9_readsSender 40 = .ok (.sipush 199, 3) := by decide +kernel
theorem dX9_readsSender_43 : decode cX9_readsSender 43 = .ok (.invokevirtual 153, 3) := by decide +kernel
theorem dX9_readsSender_46 : decode cX9_readsSender 46 = .ok (.iastore, 1) := by decide +kernel
theorem dX9_readsSender_47 : decode cX9_readsSender 47 = .ok (.aload_n 0, 1) := by decide +kernel
theorem dX9_readsSender_48 : decode cX9_readsSender 48 = .ok (.aload_n 0, 1) := by decide +kernel
theorem dX9_readsSender_49 : decode cX9_readsSender 49 = .ok (.getfield 111, 3) := by decide +kernel
theorem dX9_readsSender_52 : decode cX9_readsSender 52 = .ok (.ifCond .ne 12, 3) := by decide +kernel
theorem dX9_readsSender_55 : decode cX9_readsSender 55 = .ok (.aload_n 0, 1) := by decide +kernel
theorem dX9_readsSender_56 : decode cX9_readsSender 56 = .ok (.ldc 164, 2) := by decide +kernel
theorem dX9_readsSender_58 : decode cX9_readsSender 58 = .ok (.invokevirtual 142, 3) := by decide +kernel
theorem dX9_readsSender_61 : decode cX9_readsSender 61 = .ok (.ifCond .eq 7, 3) := by decide +kernel
theorem dX9_readsSender_64 : decode cX9_readsSender 64 = .ok (.iconst 1, 1) := by decide +kernel
theorem dX9_readsSender_65 : decode cX9_readsSender 65 = .ok (.goto 4, 3) := by decide +kernel
theorem dX9_readsSender_68 : decode cX9_readsSender 68 = .ok (.iconst 0, 1) := by decide +kernel
theorem dX9_readsSender_69 : decode cX9_readsSender 69 = .ok (.invokevirtual 138, 3) := by decide +kernel
theorem dX9_readsSender_72 : decode cX9_readsSender 72 = .ok (.aload_n 0, 1) := by decide +kernel
theorem dX9_readsSender_73 : decode cX9_readsSender 73 = .ok (.getfield 111, 3) := by decide +kernel
theorem dX9_readsSender_76 : decode cX9_readsSender 76 = .ok (.ifCond .ne 11, 3) := by decide +kernel
theorem dX9_readsSender_79 : decode cX9_readsSender 79 = .ok (.aload_n 0, 1) := by decide +kernel
theorem dX9_readsSender_80 : decode cX9_readsSender 80 = .ok (.getfield 101, 3) := by decide +kernel
theorem dX9_readsSender_83 : decode cX9_readsSender 83 = .ok (.iconst 2, 1) := by decide +kernel
theorem dX9_readsSender_84 : decode cX9_readsSender 84 = .ok (.if_icmp .eq 9, 3) := by decide +kernel
theorem dX9_readsSender_87 : decode cX9_readsSender 87 = .ok (.aload_n 0, 1) := by decide +kernel
theorem dX9_readsSender_88 : decode cX9_readsSender 88 = .ok (.iconst 1, 1) := by decide +kernel
theorem dX9_readsSender_89 : decode cX9_readsSender 89 = .ok (.invokevirtual 131, 3) := by decide +kernel
theorem dX9_readsSender_92 : decode cX9_readsSender 92 = .ok (.return_, 1) := by decide +kernel
theorem dX9_readsSender_93 : decode cX9_readsSender 93 = .ok (.aload_n 0, 1) := by decide +kernel
theorem dX9_readsSender_94 : decode cX9_readsSender 94 = .ok (.getfield 88, 3) := by decide +kernel
theorem dX9_readsSender_97 : decode cX9_readsSender 97 = .ok (.aload_n 0, 1) := by decide +kernel
theorem dX9_readsSender_98 : decode cX9_readsSender 98 = .ok (.getfield 95, 3) := by decide +kernel
theorem dX9_readsSender_101 : decode cX9_readsSender 101 = .ok (.isub, 1) := by decide +kernel
theorem dX9_readsSender_102 : decode cX9_readsSender 102 = .ok (.bipush 12, 2) := by decide +kernel
theorem dX9_readsSender_104 : decode cX9_readsSender 104 = .ok (.if_icmp .le 8, 3) := by decide +kernel
theorem dX9_readsSender_107 : decode cX9_readsSender 107 = .ok (.aload_n 0, 1) := by decide +kernel
theorem dX9_readsSender_108 : decode cX9_readsSender 108 = .ok (.iconst 2, 1) := by decide +kernel
theorem dX9_readsSender_109 : decode cX9_readsSender 109 = .ok (.invokevirtual 131, 3) := by decide +kernel
theorem dX9_readsSender_112 : decode cX9_readsSender 112 = .ok (.aload_n 0, 1) := by decide +kernel
theorem dX9_readsSender_113 : decode cX9_readsSender 113 = .ok (.getfield 95, 3) := by decide +kernel
theorem dX9_readsSender_116 : decode cX9_readsSender 116 = .ok (.istore_n 2, 1) := by decide +kernel
theorem dX9_readsSender_117 : decode cX9_readsSender 117 = .ok (.iload_n 2, 1) := by decide +kernel
theorem dX9_readsSender_118 : decode cX9_readsSender 118 = .ok (.aload_n 0, 1) := by decide +kernel
theorem dX9_readsSender_119 : decode cX9_readsSender 119 = .ok (.getfield 88, 3) := by decide +kernel
theorem dX9_readsSender_122 : decode cX9_readsSender 122 = .ok (.if_icmp .ge 62, 3) := by decide +kernel
theorem dX9_readsSender_125 : decode cX9_readsSender 125 = .ok (.aload_n 0, 1) := by decide +kernel
theorem dX9_readsSender_126 : decode cX9_readsSender 126 = .ok (.getfield 111, 3) := by decide +kernel
theorem dX9_readsSender_129 : decode cX9_readsSender 129 = .ok (.ifCond .ne 55, 3) := by decide +kernel
theorem dX9_readsSender_132 : decode cX9_readsSender 132 = .ok (.aload_n 0, 1) := by decide +kernel
theorem dX9_readsSender_133 : decode cX9_readsSender 133 = .ok (.getfield 19, 3) := by decide +kernel
theorem dX9_readsSender_136 : decode cX9_readsSender 136 = .ok (.iload_n 2, 1) := by decide +kernel
theorem dX9_readsSender_137 : decode cX9_readsSender 137 = .ok (.iaload, 1) := by decide +kernel
theorem dX9_readsSender_138 : decode cX9_readsSender 138 = .ok (.bipush 49, 2) := by decide +kernel
theorem dX9_readsSender_140 : decode cX9_readsSender 140 = .ok (.if_icmp .le 8, 3) := by decide +kernel
theorem dX9_readsSender_143 : decode cX9_readsSender 143 = .ok (.aload_n 0, 1) := by decide +kernel
theorem dX9_readsSender_144 : decode cX9_readsSender 144 = .ok (.iconst 2, 1) := by decide +kernel
theorem dX9_readsSender_145 : decode cX9_readsSender 145 = .ok (.invokevirtual 131, 3) := by decide +kernel
theorem dX9_readsSender_148 : decode cX9_readsSender 148 = .ok (.aload_n 0, 1) := by decide +kernel
theorem dX9_readsSender_149 : decode cX9_readsSender 149 = .ok (.getfield 9, 3) := by decide +kernel
theorem dX9_readsSender_152 : decode cX9_readsSender 152 = .ok (.bipush 27, 2) := by decide +kernel
theorem dX9_readsSender_154 : decode cX9_readsSender 154 = .ok (.iload_n 1, 1) := by decide +kernel
theorem dX9_readsSender_155 : decode cX9_readsSender 155 = .ok (.iadd, 1) := by decide +kernel
theorem dX9_readsSender_156 : decode cX9_readsSender 156 = .ok (.iconst 2, 1) := by decide +kernel
theorem dX9_readsSender_157 : decode cX9_readsSender 157 = .ok (.aload_n 0, 1) := by decide +kernel
theorem dX9_readsSender_158 : decode cX9_readsSender 158 = .ok (.getfield 9, 3) := by decide +kernel
theorem dX9_readsSender_161 : decode cX9_readsSender 161 = .ok (.bipush 27, 2) := by decide +kernel
theorem dX9_readsSender_163 : decode cX9_readsSender 163 = .ok (.iload_n 1, 1) := by decide +kernel
theorem dX9_readsSender_164 : decode cX9_readsSender 164 = .ok (.iadd, 1) := by decide +kernel
theorem dX9_readsSender_165 : decode cX9_readsSender 165 = .ok (.iaload, 1) := by decide +kernel
theorem dX9_readsSender_166 : decode cX9_readsSender 166 = .ok (.imul, 1) := by decide +kernel
theorem dX9_readsSender_167 : decode cX9_readsSender 167 = .ok (.aload_n 0, 1) := by decide +kernel
theorem dX9_readsSender_168 : decode cX9_readsSender 168 = .ok (.getfield 19, 3) := by decide +kernel
theorem dX9_readsSender_171 : decode cX9_readsSender 171 = .ok (.iload_n 2, 1) := by decide +kernel
theorem dX9_readsSender_172 : decode cX9_readsSender 172 = .ok (.iaload, 1) := by decide +kernel
theorem dX9_readsSender_173 : decode cX9_readsSender 173 = .ok (.iadd, 1) := by decide +kernel
theorem dX9_readsSender_174 : decode cX9_readsSender 174 = .ok (.bipush 48, 2) := by decide +kernel
theorem dX9_readsSender_176 : decode cX9_readsSender 176 = .ok (.isub, 1) := by decide +kernel
theorem dX9_readsSender_177 : decode cX9_readsSender 177 = .ok (.iastore, 1) := by decide +kernel
theorem dX9_readsSender_178 : decode cX9_readsSender 178 = .ok (.iinc 2 1, 3) := by decide +kernel
theorem dX9_readsSender_181 : decode cX9_readsSender 181 = .ok (.goto (-64), 3) := by decide +kernel
theorem dX9_readsSender_184 : decode cX9_readsSender 184 = .ok (.aload_n 0, 1) := by decide +kernel
theorem dX9_readsSender_185 : decode cX9_readsSender 185 = .ok (.getfield 9, 3) := by decide +kernel
theorem dX9_readsSender_188 : decode cX9_readsSender 188 = .ok (.bipush 17, 2) := by decide +kernel
theorem dX9_readsSender_190 : decode cX9_readsSender 190 = .ok (.iload_n 1, 1) := by decide +kernel
theorem dX9_readsSender_191 : decode cX9_readsSender 191 = .ok (.iadd, 1) := by decide +kernel
theorem dX9_readsSender_192 : decode cX9_readsSender 192 = .ok (.aload_n 0, 1) := by decide +kernel
theorem dX9_readsSender_193 : decode cX9_readsSender 193 = .ok (.getfield 88, 3) := by decide +kernel
theorem dX9_readsSender_196 : decode cX9_readsSender 196 = .ok (.aload_n 0, 1) := by decide +kernel
theorem dX9_readsSender_197 : decode cX9_readsSender 197 = .ok (.getfield 95, 3) := by decide +kernel
theorem dX9_readsSender_200 : decode cX9_readsSender 200 = .ok (.isub, 1) := by decide +kernel
theorem dX9_readsSender_201 : decode cX9_readsSender 201 = .ok (.iastore, 1) := by decide +kernel
theorem dX9_readsSender_202 : decode cX9_readsSender 202 = .ok (.aload_n 0, 1) := by decide +kernel
theorem dX9_readsSender_203 : decode cX9_readsSender 203 = .ok (.iconst 1, 1) := by decide +kernel
theorem dX9_readsSender_204 : decode cX9_readsSender 204 = .ok (.invokevirtual 138, 3) := by decide +kernel
theorem dX9_readsSender_207 : decode cX9_readsSender 207 = .ok (.aload_n 0, 1) := by decide +kernel
theorem dX9_readsSender_208 : decode cX9_readsSender 208 = .ok (.getfield 9, 3) := by decide +kernel
theorem dX9_readsSender_211 : decode cX9_readsSender 211 = .ok (.iconst 4, 1) := by decide +kernel
theorem dX9_readsSender_212 : decode cX9_readsSender 212 = .ok (.dup2, 1) := by decide +kernel
theorem dX9_readsSender_213 : decode cX9_readsSender 213 = .ok (.iaload, 1) := by decide +kernel
theorem dX9_readsSender_214 : decode cX9_readsSender 214 = .ok (.iconst 1, 1) := by decide +kernel
theorem dX9_readsSender_215 : decode cX9_readsSender 215 = .ok (.iadd, 1) := by decide +kernel
theorem dX9_readsSender_216 : decode cX9_readsSender 216 = .ok (.iastore, 1) := by decide +kernel
theorem dX9_readsSender_217 : decode cX9_readsSender 217 = .ok (.return_, 1) := by decide +kernel
theorem dX9_isNoisy_0 : decode cX9_isNoisy 0 = .ok (.iconst 0, 1) := by decide +kernel
theorem dX9_isNoisy_1 : decode cX9_isNoisy 1 = .ok (.istore_n 2, 1) := by decide +kernel
theorem dX9_isNoisy_2 : decode cX9_isNoisy 2 = .ok (.iload_n 2, 1) := by decide +kernel
theorem dX9_isNoisy_3 : decode cX9_isNoisy 3 = .ok (.aload_n 0, 1) := by decide +kernel
theorem dX9_isNoisy_4 : decode cX9_isNoisy 4 = .ok (.getfield 9, 3) := by decide +kernel
theorem dX9_isNoisy_7 : decode cX9_isNoisy 7 = .ok (.iconst 5, 1) := by decide +kernel
theorem dX9_isNoisy_8 : decode cX9_isNoisy 8 = .ok (.iaload, 1) := by decide +kernel
theorem dX9_isNoisy_9 : decode cX9_isNoisy 9 = .ok (.if_icmp .ge 24, 3) := by decide +kernel
theorem dX9_isNoisy_12 : decode cX9_isNoisy 12 = .ok (.aload_n 0, 1) := by decide +kernel
theorem dX9_isNoisy_13 : decode cX9_isNoisy 13 = .ok (.getfield 9, 3) := by decide +kernel
theorem dX9_isNoisy_16 : decode cX9_isNoisy 16 = .ok (.bipush 37, 2) := by decide +kernel
theorem dX9_isNoisy_18 : decode cX9_isNoisy 18 = .ok (.iload_n 2, 1) := by decide +kernel
theorem dX9_isNoisy_19 : decode cX9_isNoisy 19 = .ok (.iadd, 1) := by decide +kernel
theorem dX9_isNoisy_20 : decode cX9_isNoisy 20 = .ok (.iaload, 1) := by decide +kernel
theorem dX9_isNoisy_21 : decode cX9_isNoisy 21 = .ok (.iload_n 1, 1) := by decide +kernel
theorem dX9_isNoisy_22 : decode cX9_isNoisy 22 = .ok (.if_icmp .ne 5, 3) := by decide +kernel
theorem dX9_isNoisy_25 : decode cX9_isNoisy 25 = .ok (.iconst 1, 1) := by decide +kernel
theorem dX9_isNoisy_26 : decode cX9_isNoisy 26 = .ok (.ireturn, 1) := by decide +kernel
theorem dX9_isNoisy_27 : decode cX9_isNoisy 27 = .ok (.iinc 2 1, 3) := by decide +kernel
theorem dX9_isNoisy_30 : decode cX9_isNoisy 30 = .ok (.goto (-28), 3) := by decide +kernel
theorem dX9_isNoisy_33 : decode cX9_isNoisy 33 = .ok (.iconst 0, 1) := by decide +kernel
theorem dX9_isNoisy_34 : decode cX9_isNoisy 34 = .ok (.ireturn, 1) := by decide +kernel
theorem dX9_readsNoise_0 : decode cX9_readsNoise 0 = .ok (.aload_n 0, 1) := by decide +kernel
theorem dX9_readsNoise_1 : decode cX9_readsNoise 1 = .ok (.getfield 9, 3) := by decide +kernel
theorem dX9_readsNoise_4 : decode cX9_readsNoise 4 = .ok (.iconst 5, 1) := by decide +kernel
theorem dX9_readsNoise_5 : decode cX9_readsNoise 5 = .ok (.iaload, 1) := by decide +kernel
theorem dX9_readsNoise_6 : decode cX9_readsNoise 6 = .ok (.bipush 10, 2) := by decide +kernel
theorem dX9_readsNoise_8 : decode cX9_readsNoise 8 = .ok (.if_icmp .ne 9, 3) := by decide +kernel
theorem dX9_readsNoise_11 : decode cX9_readsNoise 11 = .ok (.aload_n 0, 1) := by decide +kernel
theorem dX9_readsNoise_12 : decode cX9_readsNoise 12 = .ok (.iconst 3, 1) := by decide +kernel
theorem dX9_readsNoise_13 : decode cX9_readsNoise 13 = .ok (.invokevirtual 131, 3) := by decide +kernel
theorem dX9_readsNoise_16 : decode cX9_readsNoise 16 = .ok (.return_, 1) := by decide +kernel
theorem dX9_readsNoise_17 : decode cX9_readsNoise 17 = .ok (.aload_n 0, 1) := by decide +kernel
theorem dX9_readsNoise_18 : decode cX9_readsNoise 18 = .ok (.invokevirtual 135, 3) := by decide +kernel
theorem dX9_readsNoise_21 : decode cX9_readsNoise 21 = .ok (.aload_n 0, 1) := by decide +kernel
theorem dX9_readsNoise_22 : decode cX9_readsNoise 22 = .ok (.aload_n 0, 1) := by decide +kernel
theorem dX9_readsNoise_23 : decode cX9_readsNoise 23 = .ok (.ldc 163, 2) := by decide +kernel
theorem dX9_readsNoise_25 : decode cX9_readsNoise 25 = .ok (.invokevirtual 142, 3) := by decide +kernel
theorem dX9_readsNoise_28 : decode cX9_readsNoise 28 = .ok (.invokevirtual 138, 3) := by decide +kernel
theorem dX9_readsNoise_31 : decode cX9_readsNoise 31 = .ok (.aload_n 0, 1) := by decide +kernel
theorem dX9_readsNoise_32 : decode cX9_readsNoise 32 = .ok (.getfield 111, 3) := by decide +kernel
theorem dX9_readsNoise_35 : decode cX9_readsNoise 35 = .ok (.ifCond .ne 27, 3) := by decide +kernel
theorem dX9_readsNoise_38 : decode cX9_readsNoise 38 = .ok (.aload_n 0, 1) := by decide +kernel
theorem dX9_readsNoise_39 : decode cX9_readsNoise 39 = .ok (.getfield 101, 3) := by decide +kernel
theorem dX9_readsNoise_42 : decode cX9_readsNoise 42 = .ok (.iconst 2, 1) := by decide +kernel
theorem dX9_readsNoise_43 : decode cX9_readsNoise 43 = .ok (.if_icmp .ne 19, 3) := by decide +kernel
theorem dX9_readsNoise_46 : decode cX9_readsNoise 46 = .ok (.aload_n 0, 1) := by decide +kernel
theorem dX9_readsNoise_47 : decode cX9_readsNoise 47 = .ok (.aload_n 0, 1) := by decide +kernel
theorem dX9_readsNoise_48 : decode cX9_readsNoise 48 = .ok (.getfield 98, 3) := by decide +kernel
theorem dX9_readsNoise_51 : decode cX9_readsNoise 51 = .ok (.invokevirtual 166, 3) := by decide +kernel
theorem dX9_readsNoise_54 : decode cX9_readsNoise 54 = .ok (.ifCond .eq 8, 3) := by decide +kernel
theorem dX9_readsNoise_57 : decode cX9_readsNoise 57 = .ok (.aload_n 0, 1) := by decide +kernel
theorem dX9_readsNoise_58 : decode cX9_readsNoise 58 = .ok (.iconst 2, 1) := by decide +kernel
theorem dX9_readsNoise_59 : decode cX9_readsNoise 59 = .ok (.invokevirtual 131, 3) := by decide +kernel
theorem dX9_readsNoise_62 : decode cX9_readsNoise 62 = .ok (.aload_n 0, 1) := by decide +kernel
theorem dX9_readsNoise_63 : decode cX9_readsNoise 63 = .ok (.getfield 111, 3) := by decide +kernel
theorem dX9_readsNoise_66 : decode cX9_readsNoise 66 = .ok (.ifCond .eq 7, 3) := by decide +kernel
theorem dX9_readsNoise_69 : decode cX9_readsNoise 69 = .ok (.iconst 0, 1) := by decide +kernel
theorem dX9_readsNoise_70 : decode cX9_readsNoise 70 = .ok (.goto 11, 3) := by decide +kernel
theorem dX9_readsNoise_73 : decode cX9_readsNoise 73 = .ok (.aload_n 0, 1) := by decide +kernel
theorem dX9_readsNoise_74 : decode cX9_readsNoise 74 = .ok (.iconst 0, 1) := by decide +kernel
theorem dX9_readsNoise_75 : decode cX9_readsNoise 75 = .ok (.sipush 199, 3) := by decide +kernel
theorem dX9_readsNoise_78 : decode cX9_readsNoise 78 = .ok (.invokevirtual 146, 3) := by decide +kernel
theorem dX9_readsNoise_81 : decode cX9_readsNoise 81 = .ok (.istore_n 1, 1) := by decide +kernel
theorem dX9_readsNoise_82 : decode cX9_readsNoise 82 = .ok (.aload_n 0, 1) := by decide +kernel
theorem dX9_readsNoise_83 : decode cX9_readsNoise 83 = .ok (.aload_n 0, 1) := by decide +kernel
theorem dX9_readsNoise_84 : decode cX9_readsNoise 84 = .ok (.getfield 111, 3) := by decide +kernel
theorem dX9_readsNoise_87 : decode cX9_readsNoise 87 = .ok (.ifCond .ne 12, 3) := by decide +kernel
theorem dX9_readsNoise_90 : decode cX9_readsNoise 90 = .ok (.aload_n 0, 1) := by decide +kernel
theorem dX9_readsNoise_91 : decode cX9_readsNoise 91 = .ok (.ldc 170, 2) := by decide +kernel
theorem dX9_readsNoise_93 : decode cX9_readsNoise 93 = .ok (.invokevirtual 142, 3) := by decide +kernel
theorem dX9_readsNoise_96 : decode cX9_readsNoise 96 = .ok (.ifCond .eq 7, 3) := by decide +kernel
theorem dX9_readsNoise_99 : decode cX9_readsNoise 99 = .ok (.iconst 1, 1) := by decide +kernel
theorem dX9_readsNoise_100 : decode cX9_readsNoise 100 = .ok (.goto 4, 3) := by decide +kernel
theorem dX9_readsNoise_103 : decode cX9_readsNoise 103 = .ok (.iconst 0, 1) := by decide +kernel
theorem dX9_readsNoise_104 : decode cX9_readsNoise 104 = .ok (.invokevirtual 138, 3) := by decide +kernel
theorem dX9_readsNoise_107 : decode cX9_readsNoise 107 = .ok (.aload_n 0, 1) := by decide +kernel
theorem dX9_readsNoise_108 : decode cX9_readsNoise 108 = .ok (.ldc 172, 2) := by decide +kernel
theorem dX9_readsNoise_110 : decode cX9_readsNoise 110 = .ok (.invokevirtual 142, 3) := by decide +kernel
theorem dX9_readsNoise_113 : decode cX9_readsNoise 113 = .ok (.ifCond .eq 7, 3) := by decide +kernel
theorem dX9_readsNoise_116 : decode cX9_readsNoise 116 = .ok (.iconst 0, 1) := by decide +kernel
theorem dX9_readsNoise_117 : decode cX9_readsNoise 117 = .ok (.goto 17, 3) := by decide +kernel
theorem dX9_readsNoise_120 : decode cX9_readsNoise 120 = .ok (.aload_n 0, 1) := by decide +kernel
theorem dX9_readsNoise_121 : decode cX9_readsNoise 121 = .ok (.ldc 174, 2) := by decide +kernel
theorem dX9_readsNoise_123 : decode cX9_readsNoise 123 = .ok (.invokevirtual 142, 3) := by decide +kernel
theorem dX9_readsNoise_126 : decode cX9_readsNoise 126 = .ok (.ifCond .eq 7, 3) := by decide +kernel
theorem dX9_readsNoise_129 : decode cX9_readsNoise 129 = .ok (.iconst 1, 1) := by decide +kernel
theorem dX9_readsNoise_130 : decode cX9_readsNoise 130 = .ok (.goto 4, 3) := by decide +kernel
theorem dX9_readsNoise_133 : decode cX9_readsNoise 133 = .ok (.iconst 2, 1) := by decide +kernel
theorem dX9_readsNoise_134 : decode cX9_readsNoise 134 = .ok (.istore_n 2, 1) := by decide +kernel
theorem dX9_readsNoise_135 : decode cX9_readsNoise 135 = .ok (.aload_n 0, 1) := by decide +kernel
theorem dX9_readsNoise_136 : decode cX9_readsNoise 136 = .ok (.aload_n 0, 1) := by decide +kernel
theorem dX9_readsNoise_137 : decode cX9_readsNoise 137 = .ok (.getfield 111, 3) := by decide +kernel
theorem dX9_readsNoise_140 : decode cX9_readsNoise 140 = .ok (.ifCond .ne 17, 3) := by decide +kernel
theorem dX9_readsNoise_143 : decode cX9_readsNoise 143 = .ok (.iload_n 2, 1) := by decide +kernel
theorem dX9_readsNoise_144 : decode cX9_readsNoise 144 = .ok (.iconst 2, 1) := by decide +kernel
theorem dX9_readsNoise_145 : decode cX9_readsNoise 145 = .ok (.if_icmp .lt 12, 3) := by decide +kernel
theorem dX9_readsNoise_148 : decode cX9_readsNoise 148 = .ok (.aload_n 0, 1) := by decide +kernel
theorem dX9_readsNoise_149 : decode cX9_readsNoise 149 = .ok (.ldc 176, 2) := by decide +kernel
theorem dX9_readsNoise_151 : decode cX9_readsNoise 151 = .ok (.invokevirtual 142, 3) := by decide +kernel
theorem dX9_readsNoise_154 : decode cX9_readsNoise 154 = .ok (.ifCond .eq 7, 3) := by decide +kernel
theorem dX9_readsNoise_157 : decode cX9_readsNoise 157 = .ok (.iconst 1, 1) := by decide +kernel
theorem dX9_readsNoise_158 : decode cX9_readsNoise 158 = .ok (.goto 4, 3) := by decide +kernel
theorem dX9_readsNoise_161 : decode cX9_readsNoise 161 = .ok (.iconst 0, 1) := by decide +kernel
theorem dX9_readsNoise_162 : decode cX9_readsNoise 162 = .ok (.invokevirtual 138, 3) := by decide +kernel
theorem dX9_readsNoise_165 : decode cX9_readsNoise 165 = .ok (.aload_n 0, 1) := by decide +kernel
theorem dX9_readsNoise_166 : decode cX9_readsNoise 166 = .ok (.getfield 9, 3) := by decide +kernel
theorem dX9_readsNoise_169 : decode cX9_readsNoise 169 = .ok (.bipush 37, 2) := by decide +kernel
theorem dX9_readsNoise_171 : decode cX9_readsNoise 171 = .ok (.aload_n 0, 1) := by decide +kernel
theorem dX9_readsNoise_172 : decode cX9_readsNoise 172 = .ok (.getfield 9, 3) := by decide +kernel
theorem dX9_readsNoise_175 : decode cX9_readsNoise 175 = .ok (.iconst 5, 1) := by decide +kernel
theorem dX9_readsNoise_176 : decode cX9_readsNoise 176 = .ok (.iaload, 1) := by decide +kernel
theorem dX9_readsNoise_177 : decode cX9_readsNoise 177 = .ok (.iadd, 1) := by decide +kernel
theorem dX9_readsNoise_178 : decode cX9_readsNoise 178 = .ok (.iload_n 1, 1) := by decide +kernel
theorem dX9_readsNoise_179 : decode cX9_readsNoise 179 = .ok (.iastore, 1) := by decide +kernel
theorem dX9_readsNoise_180 : decode cX9_readsNoise 180 = .ok (.aload_n 0, 1) := by decide +kernel
theorem dX9_readsNoise_181 : decode cX9_readsNoise 181 = .ok (.getfield 9, 3) := by decide +kernel
theorem dX9_readsNoise_184 : decode cX9_readsNoise 184 = .ok (.bipush 47, 2) := by decide +kernel
theorem dX9_readsNoise_186 : decode cX9_readsNoise 186 = .ok (.aload_n 0, 1) := by decide +kernel
theorem dX9_readsNoise_187 : decode cX9_readsNoise 187 = .ok (.getfield 9, 3) := by decide +kernel
theorem dX9_readsNoise_190 : decode cX9_readsNoise 190 = .ok (.iconst 5, 1) := by decide +kernel
theorem dX9_readsNoise_191 : decode cX9_readsNoise 191 = .ok (.iaload, 1) := by decide +kernel
theorem dX9_readsNoise_192 : decode cX9_readsNoise 192 = .ok (.iadd, 1) := by decide +kernel
theorem dX9_readsNoise_193 : decode cX9_readsNoise 193 = .ok (.iload_n 2, 1) := by decide +kernel
theorem dX9_readsNoise_194 : decode cX9_readsNoise 194 = .ok (.iastore, 1) := by decide +kernel
theorem dX9_readsNoise_195 : decode cX9_readsNoise 195 = .ok (.aload_n 0, 1) := by decide +kernel
theorem dX9_readsNoise_196 : decode cX9_readsNoise 196 = .ok (.getfield 9, 3) := by decide +kernel
theorem dX9_readsNoise_199 : decode cX9_readsNoise 199 = .ok (.iconst 5, 1) := by decide +kernel
theorem dX9_readsNoise_200 : decode cX9_readsNoise 200 = .ok (.dup2, 1) := by decide +kernel
theorem dX9_readsNoise_201 : decode cX9_readsNoise 201 = .ok (.iaload, 1) := by decide +kernel
theorem dX9_readsNoise_202 : decode cX9_readsNoise 202 = .ok (.iconst 1, 1) := by decide +kernel
theorem dX9_readsNoise_203 : decode cX9_readsNoise 203 = .ok (.iadd, 1) := by decide +kernel
theorem dX9_readsNoise_204 : decode cX9_readsNoise 204 = .ok (.iastore, 1) := by decide +kernel
theorem dX9_readsNoise_205 : decode cX9_readsNoise 205 = .ok (.return_, 1) := by decide +kernel
theorem dX9_channel_0 : decode cX9_channel 0 = .ok (.iconst 0, 1) := by decide +kernel
theorem dX9_channel_1 : decode cX9_channel 1 = .ok (.istore_n 1, 1) := by decide +kernel
theorem dX9_channel_2 : decode cX9_channel 2 = .ok (.iload_n 1, 1) := by decide +kernel
theorem dX9_channel_3 : decode cX9_channel 3 = .ok (.bipush 57, 2) := by decide +kernel
theorem dX9_channel_5 : decode cX9_channel 5 = .ok (.if_icmp .ge 28, 3) := by decide +kernel
theorem dX9_channel_8 : decode cX9_channel 8 = .ok (.aload_n 0, 1) := by decide +kernel
theorem dX9_channel_9 : decode cX9_channel 9 = .ok (.getfield 13, 3) := by decide +kernel
theorem dX9_channel_12 : decode cX9_channel 12 = .ok (.iload_n 1, 1) := by decide +kernel
theorem dX9_channel_13 : decode cX9_channel 13 = .ok (.aload_n 0, 1) := by decide +kernel
theorem dX9_channel_14 : decode cX9_channel 14 = .ok (.getfield 9, 3) := by decide +kernel
theorem dX9_channel_17 : decode cX9_channel 17 = .ok (.iload_n 1, 1) := by decide +kernel
theorem dX9_channel_18 : decode cX9_channel 18 = .ok (.iaload, 1) := by decide +kernel
theorem dX9_channel_19 : decode cX9_channel 19 = .ok (.iastore, 1) := by decide +kernel
theorem dX9_channel_20 : decode cX9_channel 20 = .ok (.aload_n 0, 1) := by decide +kernel
theorem dX9_channel_21 : decode cX9_channel 21 = .ok (.getfield 9, 3) := by decide +kernel
theorem dX9_channel_24 : decode cX9_channel 24 = .ok (.iload_n 1, 1) := by decide +kernel
theorem dX9_channel_25 : decode cX9_channel 25 = .ok (.iconst 0, 1) := by decide +kernel
theorem dX9_channel_26 : decode cX9_channel 26 = .ok (.iastore, 1) := by decide +kernel
theorem dX9_channel_27 : decode cX9_channel 27 = .ok (.iinc 1 1, 3) := by decide +kernel
theorem dX9_channel_30 : decode cX9_channel 30 = .ok (.goto (-28), 3) := by decide +kernel
theorem dX9_channel_33 : decode cX9_channel 33 = .ok (.aload_n 0, 1) := by decide +kernel
theorem dX9_channel_34 : decode cX9_channel 34 = .ok (.iconst 0, 1) := by decide +kernel
theorem dX9_channel_35 : decode cX9_channel 35 = .ok (.putfield 88, 3) := by decide +kernel
theorem dX9_channel_38 : decode cX9_channel 38 = .ok (.aload_n 0, 1) := by decide +kernel
theorem dX9_channel_39 : decode cX9_channel 39 = .ok (.iconst 0, 1) := by decide +kernel
theorem dX9_channel_40 : decode cX9_channel 40 = .ok (.putfield 111, 3) := by decide +kernel
theorem dX9_channel_43 : decode cX9_channel 43 = .ok (.aload_n 0, 1) := by decide +kernel
theorem dX9_channel_44 : decode cX9_channel 44 = .ok (.iconst 0, 1) := by decide +kernel
theorem dX9_channel_45 : decode cX9_channel 45 = .ok (.putfield 115, 3) := by decide +kernel
theorem dX9_channel_48 : decode cX9_channel 48 = .ok (.aload_n 0, 1) := by decide +kernel
theorem dX9_channel_49 : decode cX9_channel 49 = .ok (.iconst (-1), 1) := by decide +kernel
theorem dX9_channel_50 : decode cX9_channel 50 = .ok (.putfield 118, 3) := by decide +kernel
theorem dX9_channel_53 : decode cX9_channel 53 = .ok (.aload_n 0, 1) := by decide +kernel
theorem dX9_channel_54 : decode cX9_channel 54 = .ok (.invokevirtual 135, 3) := by decide +kernel
theorem dX9_channel_57 : decode cX9_channel 57 = .ok (.aload_n 0, 1) := by decide +kernel
theorem dX9_channel_58 : decode cX9_channel 58 = .ok (.getfield 111, 3) := by decide +kernel
theorem dX9_channel_61 : decode cX9_channel 61 = .ok (.ifCond .ne 102, 3) := by decide +kernel
theorem dX9_channel_64 : decode cX9_channel 64 = .ok (.aload_n 0, 1) := by decide +kernel
theorem dX9_channel_65 : decode cX9_channel 65 = .ok (.getfield 101, 3) := by decide +kernel
theorem dX9_channel_68 : decode cX9_channel 68 = .ok (.ifCond .eq 95, 3) := by decide +kernel
theorem dX9_channel_71 : decode cX9_channel 71 = .ok (.aload_n 0, 1) := by decide +kernel
theorem dX9_channel_72 : decode cX9_channel 72 = .ok (.getfield 9, 3) := by decide +kernel
theorem dX9_channel_75 : decode cX9_channel 75 = .ok (.bipush 6, 2) := by decide +kernel
theorem dX9_channel_77 : decode cX9_channel 77 = .ok (.iaload, 1) := by decide +kernel
theorem dX9_channel_78 : decode cX9_channel 78 = .ok (.ifCond .ne 10, 3) := by decide +kernel
theorem dX9_channel_81 : decode cX9_channel 81 = .ok (.aload_n 0, 1) := by decide +kernel
theorem dX9_channel_82 : decode cX9_channel 82 = .ok (.invokevirtual 178, 3) := by decide +kernel
theorem dX9_channel_85 : decode cX9_channel 85 = .ok (.goto 40, 3) := by decide +kernel
theorem dX9_channel_88 : decode cX9_channel 88 = .ok (.aload_n 0, 1) := by decide +kernel
theorem dX9_channel_89 : decode cX9_channel 89 = .ok (.ldc 181, 2) := by decide +kernel
theorem dX9_channel_91 : decode cX9_channel 91 = .ok (.invokevirtual 142, 3) := by decide +kernel
theorem dX9_channel_94 : decode cX9_channel 94 = .ok (.ifCond .eq 10, 3) := by decide +kernel
theorem dX9_channel_97 : decode cX9_channel 97 = .ok (.aload_n 0, 1) := by decide +kernel
theorem dX9_channel_98 : decode cX9_channel 98 = .ok (.invokevirtual 183, 3) := by decide +kernel
theorem dX9_channel_101 : decode cX9_channel 101 = .ok (.goto 24, 3) := by decide +kernel
theorem dX9_channel_104 : decode cX9_channel 104 = .ok (.aload_n 0, 1) := by decide +kernel
theorem dX9_channel_105 : decode cX9_channel 105 = .ok (.ldc 186, 2) := by decide +kernel
theorem dX9_channel_107 : decode cX9_channel 107 = .ok (.invokevirtual 142, 3) := by decide +kernel
theorem dX9_channel_110 : decode cX9_channel 110 = .ok (.ifCond .eq 10, 3) := by decide +kernel
theorem dX9_channel_113 : decode cX9_channel 113 = .ok (.aload_n 0, 1) := by decide +kernel
theorem dX9_channel_114 : decode cX9_channel 114 = .ok (.invokevirtual 188, 3) := by decide +kernel
theorem dX9_channel_117 : decode cX9_channel 117 = .ok (.goto 8, 3) := by decide +kernel
theorem dX9_channel_120 : decode cX9_channel 120 = .ok (.aload_n 0, 1) := by decide +kernel
theorem dX9_channel_121 : decode cX9_channel 121 = .ok (.iconst 1, 1) := by decide +kernel
theorem dX9_channel_122 : decode cX9_channel 122 = .ok (.invokevirtual 131, 3) := by decide +kernel
theorem dX9_channel_125 : decode cX9_channel 125 = .ok (.aload_n 0, 1) := by decide +kernel
theorem dX9_channel_126 : decode cX9_channel 126 = .ok (.aload_n 0, 1) := by decide +kernel
theorem dX9_channel_127 : decode cX9_channel 127 = .ok (.getfield 111, 3) := by decide +kernel
theorem dX9_channel_130 : decode cX9_channel 130 = .ok (.ifCond .ne 11, 3) := by decide +kernel
theorem dX9_channel_133 : decode cX9_channel 133 = .ok (.aload_n 0, 1) := by decide +kernel
theorem dX9_channel_134 : decode cX9_channel 134 = .ok (.getfield 101, 3) := by decide +kernel
theorem dX9_channel_137 : decode cX9_channel 137 = .ok (.iconst 3, 1) := by decide +kernel
theorem dX9_channel_138 : decode cX9_channel 138 = .ok (.if_icmp .ne 7, 3) := by decide +kernel
theorem dX9_channel_141 : decode cX9_channel 141 = .ok (.iconst 1, 1) := by decide +kernel
theorem dX9_channel_142 : decode cX9_channel 142 = .ok (.goto 4, 3) := by decide +kernel
theorem dX9_channel_145 : decode cX9_channel 145 = .ok (.iconst 0, 1) := by decide +kernel
theorem dX9_channel_146 : decode cX9_channel 146 = .ok (.invokevirtual 138, 3) := by decide +kernel
theorem dX9_channel_149 : decode cX9_channel 149 = .ok (.aload_n 0, 1) := by decide +kernel
theorem dX9_channel_150 : decode cX9_channel 150 = .ok (.getfield 9, 3) := by decide +kernel
theorem dX9_channel_153 : decode cX9_channel 153 = .ok (.bipush 6, 2) := by decide +kernel
theorem dX9_channel_155 : decode cX9_channel 155 = .ok (.dup2, 1) := by decide +kernel
theorem dX9_channel_156 : decode cX9_channel 156 = .ok (.iaload, 1) := by decide +kernel
theorem dX9_channel_157 : decode cX9_channel 157 = .ok (.iconst 1, 1) := by decide +kernel
theorem dX9_channel_158 : decode cX9_channel 158 = .ok (.iadd, 1) := by decide +kernel
theorem dX9_channel_159 : decode cX9_channel 159 = .ok (.iastore, 1) := by decide +kernel
theorem dX9_channel_160 : decode cX9_channel 160 = .ok (.goto (-103), 3) := by decide +kernel
theorem dX9_channel_163 : decode cX9_channel 163 = .ok (.aload_n 0, 1) := by decide +kernel
theorem dX9_channel_164 : decode cX9_channel 164 = .ok (.iconst 0, 1) := by decide +kernel
theorem dX9_channel_165 : decode cX9_channel 165 = .ok (.putfield 81, 3) := by decide +kernel
theorem dX9_channel_168 : decode cX9_channel 168 = .ok (.aload_n 0, 1) := by decide +kernel
theorem dX9_channel_169 : decode cX9_channel 169 = .ok (.aload_n 0, 1) := by decide +kernel
theorem dX9_channel_170 : decode cX9_channel 170 = .ok (.getfield 115, 3) := by decide +kernel
theorem dX9_channel_173 : decode cX9_channel 173 = .ok (.putfield 191, 3) := by decide +kernel
theorem dX9_channel_176 : decode cX9_channel 176 = .ok (.aload_n 0, 1) := by decide +kernel
theorem dX9_channel_177 : decode cX9_channel 177 = .ok (.aload_n 0, 1) := by decide +kernel
theorem dX9_channel_178 : decode cX9_channel 178 = .ok (.getfield 118, 3) := by decide +kernel
theorem dX9_channel_181 : decode cX9_channel 181 = .ok (.putfield 22, 3) := by decide +kernel
theorem dX9_channel_184 : decode cX9_channel 184 = .ok (.aload_n 0, 1) := by decide +kernel
theorem dX9_channel_185 : decode cX9_channel 185 = .ok (.getfield 111, 3) := by decide +kernel
theorem dX9_channel_188 : decode cX9_channel 188 = .ok (.ifCond .eq 32, 3) := by decide +kernel
theorem dX9_channel_191 : decode cX9_channel 191 = .ok (.iconst 0, 1) := by decide +kernel
theorem dX9_channel_192 : decode cX9_channel 192 = .ok (.istore_n 1, 1) := by decide +kernel
theorem dX9_channel_193 : decode cX9_channel 193 = .ok (.iload_n 1, 1) := by decide +kernel
theorem dX9_channel_194 : decode cX9_channel 194 = .ok (.bipush 57, 2) := by decide +kernel
theorem dX9_channel_196 : decode cX9_channel 196 = .ok (.if_icmp .ge 21, 3) := by decide +kernel
theorem dX9_channel_199 : decode cX9_channel 199 = .ok (.aload_n 0, 1) := by decide +kernel
theorem dX9_channel_200 : decode cX9_channel 200 = .ok (.getfield 9, 3) := by decide +kernel
theorem dX9_channel_203 : decode cX9_channel 203 = .ok (.iload_n 1, 1) := by decide +kernel
theorem dX9_channel_204 : decode cX9_channel 204 = .ok (.aload_n 0, 1) := by decide +kernel
theorem dX9_channel_205 : decode cX9_channel 205 = .ok (.getfield 13, 3) := by decide +kernel
theorem dX9_channel_208 : decode cX9_channel 208 = .ok (.iload_n 1, 1) := by decide +kernel
theorem dX9_channel_209 : decode cX9_channel 209 = .ok (.iaload, 1) := by decide +kernel
theorem dX9_channel_210 : decode cX9_channel 210 = .ok (.iastore, 1) := by decide +kernel
theorem dX9_channel_211 : decode cX9_channel 211 = .ok (.iinc 1 1, 3) := by decide +kernel
theorem dX9_channel_214 : decode cX9_channel 214 = .ok (.goto (-21), 3) := by decide +kernel
theorem dX9_channel_217 : decode cX9_channel 217 = .ok (.bipush (-4), 2) := by decide +kernel
theorem dX9_channel_219 : decode cX9_channel 219 = .ok (.ireturn, 1) := by decide +kernel
theorem dX9_channel_220 : decode cX9_channel 220 = .ok (.aload_n 0, 1) := by decide +kernel
theorem dX9_channel_221 : decode cX9_channel 221 = .ok (.iconst 0, 1) := by decide +kernel
theorem dX9_channel_222 : decode cX9_channel 222 = .ok (.putfield 194, 3) := by decide +kernel
theorem dX9_channel_225 : decode cX9_channel 225 = .ok (.aload_n 0, 1) := by decide +kernel
theorem dX9_channel_226 : decode cX9_channel 226 = .ok (.getfield 9, 3) := by decide +kernel
theorem dX9_channel_229 : decode cX9_channel 229 = .ok (.bipush 6, 2) := by decide +kernel
theorem dX9_channel_231 : decode cX9_channel 231 = .ok (.iaload, 1) := by decide +kernel
theorem dX9_channel_232 : decode cX9_channel 232 = .ok (.ireturn, 1) := by decide +kernel
theorem dX9_fault_0 : decode cX9_fault 0 = .ok (.iload_n 1, 1) := by decide +kernel
theorem dX9_fault_1 : decode cX9_fault 1 = .ok (.ifCond .ne 10, 3) := by decide +kernel
theorem dX9_fault_4 : decode cX9_fault 4 = .ok (.aload_n 0, 1) := by decide +kernel
theorem dX9_fault_5 : decode cX9_fault 5 = .ok (.getfield 191, 3) := by decide +kernel
theorem dX9_fault_8 : decode cX9_fault 8 = .ok (.goto 16, 3) := by decide +kernel
theorem dX9_fault_11 : decode cX9_fault 11 = .ok (.iload_n 1, 1) := by decide +kernel
theorem dX9_fault_12 : decode cX9_fault 12 = .ok (.iconst 1, 1) := by decide +kernel
theorem dX9_fault_13 : decode cX9_fault 13 = .ok (.if_icmp .ne 10, 3) := by decide +kernel
theorem dX9_fault_16 : decode cX9_fault 16 = .ok (.aload_n 0, 1) := by decide +kernel
theorem dX9_fault_17 : decode cX9_fault 17 = .ok (.getfield 22, 3) := by decide +kernel
theorem dX9_fault_20 : decode cX9_fault 20 = .ok (.goto 4, 3) := by decide +kernel
theorem dX9_fault_23 : decode cX9_fault 23 = .ok (.iconst (-1), 1) := by decide +kernel
theorem dX9_fault_24 : decode cX9_fault 24 = .ok (.ireturn, 1) := by decide +kernel
theorem dX9_is_0 : decode cX9_is 0 = .ok (.aload_n 0, 1) := by decide +kernel
theorem dX9_is_1 : decode cX9_is 1 = .ok (.getfield 9, 3) := by decide +kernel
theorem dX9_is_4 : decode cX9_is 4 = .ok (.bipush 6, 2) := by decide +kernel
theorem dX9_is_6 : decode cX9_is 6 = .ok (.iaload, 1) := by decide +kernel
theorem dX9_is_7 : decode cX9_is 7 = .ok (.ifCond .le 7, 3) := by decide +kernel
theorem dX9_is_10 : decode cX9_is 10 = .ok (.iconst 1, 1) := by decide +kernel
theorem dX9_is_11 : decode cX9_is 11 = .ok (.goto 4, 3) := by decide +kernel
theorem dX9_is_14 : decode cX9_is 14 = .ok (.iconst 0, 1) := by decide +kernel
theorem dX9_is_15 : decode cX9_is 15 = .ok (.ireturn, 1) := by decide +kernel
theorem dX9_isSender_0 : decode cX9_isSender 0 = .ok (.iload_n 1, 1) := by decide +kernel
theorem dX9_isSender_1 : decode cX9_isSender 1 = .ok (.i2l, 1) := by decide +kernel
theorem dX9_isSender_2 : decode cX9_isSender 2 = .ok (.lconst 0, 1) := by decide +kernel
theorem dX9_isSender_3 : decode cX9_isSender 3 = .ok (.aload_n 0, 1) := by decide +kernel
theorem dX9_isSender_4 : decode cX9_isSender 4 = .ok (.getfield 9, 3) := by decide +kernel
theorem dX9_isSender_7 : decode cX9_isSender 7 = .ok (.iconst 4, 1) := by decide +kernel
theorem dX9_isSender_8 : decode cX9_isSender 8 = .ok (.iaload, 1) := by decide +kernel
theorem dX9_isSender_9 : decode cX9_isSender 9 = .ok (.iconst 1, 1) := by decide +kernel
theorem dX9_isSender_10 : decode cX9_isSender 10 = .ok (.isub, 1) := by decide +kernel
theorem dX9_isSender_11 : decode cX9_isSender 11 = .ok (.i2l, 1) := by decide +kernel
theorem dX9_isSender_12 : decode cX9_isSender 12 = .ok (.invokestatic 84, 3) := by decide +kernel
theorem dX9_isSender_15 : decode cX9_isSender 15 = .ok (.ireturn, 1) := by decide +kernel
theorem dX9_count_0 : decode cX9_count 0 = .ok (.iload_n 1, 1) := by decide +kernel
theorem dX9_count_1 : decode cX9_count 1 = .ok (.tableswitch 76 0 8 #[51, 51, 51, 51, 51, 51, 58, 63, 71], 51) := by decide +kernel
theorem dX9_count_52 : decode cX9_count 52 = .ok (.aload_n 0, 1) := by decide +kernel
theorem dX9_count_53 : decode cX9_count 53 = .ok (.getfield 9, 3) := by decide +kernel
theorem dX9_count_56 : decode cX9_count 56 = .ok (.iload_n 1, 1) := by decide +kernel
theorem dX9_count_57 : decode cX9_count 57 = .ok (.iaload, 1) := by decide +kernel
theorem dX9_count_58 : decode cX9_count 58 = .ok (.ireturn, 1) := by decide +kernel
theorem dX9_count_59 : decode cX9_count 59 = .ok (.aload_n 0, 1) := by decide +kernel
theorem dX9_count_60 : decode cX9_count 60 = .ok (.getfield 194, 3) := by decide +kernel
theorem dX9_count_63 : decode cX9_count 63 = .ok (.ireturn, 1) := by decide +kernel
theorem dX9_count_64 : decode cX9_count 64 = .ok (.aload_n 0, 1) := by decide +kernel
theorem dX9_count_65 : decode cX9_count 65 = .ok (.getfield 9, 3) := by decide +kernel
theorem dX9_count_68 : decode cX9_count 68 = .ok (.bipush 6, 2) := by decide +kernel
theorem dX9_count_70 : decode cX9_count 70 = .ok (.iaload, 1) := by decide +kernel
theorem dX9_count_71 : decode cX9_count 71 = .ok (.ireturn, 1) := by decide +kernel
theorem dX9_count_72 : decode cX9_count 72 = .ok (.aload_n 0, 1) := by decide +kernel
theorem dX9_count_73 : decode cX9_count 73 = .ok (.getfield 81, 3) := by decide +kernel
theorem dX9_count_76 : decode cX9_count 76 = .ok (.ireturn, 1) := by decide +kernel
theorem dX9_count_77 : decode cX9_count 77 = .ok (.iconst (-1), 1) := by decide +kernel
theorem dX9_count_78 : decode cX9_count 78 = .ok (.ireturn, 1) := by decide +kernel
theorem dX9_bitOf_0 : decode cX9_bitOf 0 = .ok (.aload_n 0, 1) := by decide +kernel
theorem dX9_bitOf_1 : decode cX9_bitOf 1 = .ok (.getfield 9, 3) := by decide +kernel
theorem dX9_bitOf_4 : decode cX9_bitOf 4 = .ok (.bipush 27, 2) := by decide +kernel
theorem dX9_bitOf_6 : decode cX9_bitOf 6 = .ok (.iload_n 1, 1) := by decide +kernel
theorem dX9_bitOf_7 : decode cX9_bitOf 7 = .ok (.iadd, 1) := by decide +kernel
theorem dX9_bitOf_8 : decode cX9_bitOf 8 = .ok (.iaload, 1) := by decide +kernel
theorem dX9_bitOf_9 : decode cX9_bitOf 9 = .ok (.aload_n 0, 1) := by decide +kernel
theorem dX9_bitOf_10 : decode cX9_bitOf 10 = .ok (.getfield 9, 3) := by decide +kernel
theorem dX9_bitOf_13 : decode cX9_bitOf 13 = .ok (.bipush 17, 2) := by decide +kernel
theorem dX9_bitOf_15 : decode cX9_bitOf 15 = .ok (.iload_n 1, 1) := by decide +kernel
theorem dX9_bitOf_16 : decode cX9_bitOf 16 = .ok (.iadd, 1) := by decide +kernel
theorem dX9_bitOf_17 : decode cX9_bitOf 17 = .ok (.iaload, 1) := by decide +kernel
theorem dX9_bitOf_18 : decode cX9_bitOf 18 = .ok (.iconst 1, 1) := by decide +kernel
theorem dX9_bitOf_19 : decode cX9_bitOf 19 = .ok (.isub, 1) := by decide +kernel
theorem dX9_bitOf_20 : decode cX9_bitOf 20 = .ok (.iload_n 2, 1) := by decide +kernel
theorem dX9_bitOf_21 : decode cX9_bitOf 21 = .ok (.aload_n 0, 1) := by decide +kernel
theorem dX9_bitOf_22 : decode cX9_bitOf 22 = .ok (.getfield 9, 3) := by decide +kernel
theorem dX9_bitOf_25 : decode cX9_bitOf 25 = .ok (.bipush 17, 2) := by decide +kernel
theorem dX9_bitOf_27 : decode cX9_bitOf 27 = .ok (.iload_n 1, 1) := by decide +kernel
theorem dX9_bitOf_28 : decode cX9_bitOf 28 = .ok (.iadd, 1) := by decide +kernel
theorem dX9_bitOf_29 : decode cX9_bitOf 29 = .ok (.iaload, 1) := by decide +kernel
theorem dX9_bitOf_30 : decode cX9_bitOf 30 = .ok (.irem, 1) := by decide +kernel
theorem dX9_bitOf_31 : decode cX9_bitOf 31 = .ok (.isub, 1) := by decide +kernel
theorem dX9_bitOf_32 : decode cX9_bitOf 32 = .ok (.ishr, 1) := by decide +kernel
theorem dX9_bitOf_33 : decode cX9_bitOf 33 = .ok (.iconst 1, 1) := by decide +kernel
theorem dX9_bitOf_34 : decode cX9_bitOf 34 = .ok (.iand, 1) := by decide +kernel
theorem dX9_bitOf_35 : decode cX9_bitOf 35 = .ok (.ireturn, 1) := by decide +kernel
theorem dX9_sender_0 : decode cX9_sender 0 = .ok (.aload_n 0, 1) := by decide +kernel
theorem dX9_sender_1 : decode cX9_sender 1 = .ok (.iload_n 1, 1) := by decide +kernel
theorem dX9_sender_2 : decode cX9_sender 2 = .ok (.invokevirtual 197, 3) := by decide +kernel
theorem dX9_sender_5 : decode cX9_sender 5 = .ok (.ifCond .eq 15, 3) := by decide +kernel
theorem dX9_sender_8 : decode cX9_sender 8 = .ok (.iload_n 2, 1) := by decide +kernel
theorem dX9_sender_9 : decode cX9_sender 9 = .ok (.i2l, 1) := by decide +kernel
theorem dX9_sender_10 : decode cX9_sender 10 = .ok (.lconst 0, 1) := by decide +kernel
theorem dX9_sender_11 : decode cX9_sender 11 = .ok (.ldc2_w 200, 3) := by decide +kernel
theorem dX9_sender_14 : decode cX9_sender 14 = .ok (.invokestatic 84, 3) := by decide +kernel
theorem dX9_sender_17 : decode cX9_sender 17 = .ok (.ifCond .ne 6, 3) := by decide +kernel
theorem dX9_sender_20 : decode cX9_sender 20 = .ok (.bipush (-2), 2) := by decide +kernel
theorem dX9_sender_22 : decode cX9_sender 22 = .ok (.ireturn, 1) := by decide +kernel
theorem dX9_sender_23 : decode cX9_sender 23 = .ok (.iload_n 2, 1) := by decide +kernel
theorem dX9_sender_24 : decode cX9_sender 24 = .ok (.iconst 2, 1) := by decide +kernel
theorem dX9_sender_25 : decode cX9_sender 25 = .ok (.if_icmp .ge 22, 3) := by decide +kernel
theorem dX9_sender_28 : decode cX9_sender 28 = .ok (.aload_n 0, 1) := by decide +kernel
theorem dX9_sender_29 : decode cX9_sender 29 = .ok (.getfield 9, 3) := by decide +kernel
theorem dX9_sender_32 : decode cX9_sender 32 = .ok (.iload_n 2, 1) := by decide +kernel
theorem dX9_sender_33 : decode cX9_sender 33 = .ok (.ifCond .ne 8, 3) := by decide +kernel
theorem dX9_sender_36 : decode cX9_sender 36 = .ok (.bipush 7, 2) := by decide +kernel
theorem dX9_sender_38 : decode cX9_sender 38 = .ok (.goto 5, 3) := by decide +kernel
theorem dX9_sender_41 : decode cX9_sender 41 = .ok (.bipush 17, 2) := by decide +kernel
theorem dX9_sender_43 : decode cX9_sender 43 = .ok (.iload_n 1, 1) := by decide +kernel
theorem dX9_sender_44 : decode cX9_sender 44 = .ok (.iadd, 1) := by decide +kernel
theorem dX9_sender_45 : decode cX9_sender 45 = .ok (.iaload, 1) := by decide +kernel
theorem dX9_sender_46 : decode cX9_sender 46 = .ok (.ireturn, 1) := by decide +kernel
theorem dX9_sender_47 : decode cX9_sender 47 = .ok (.iload_n 2, 1) := by decide +kernel
theorem dX9_sender_48 : decode cX9_sender 48 = .ok (.iconst 2, 1) := by decide +kernel
theorem dX9_sender_49 : decode cX9_sender 49 = .ok (.isub, 1) := by decide +kernel
theorem dX9_sender_50 : decode cX9_sender 50 = .ok (.aload_n 0, 1) := by decide +kernel
theorem dX9_sender_51 : decode cX9_sender 51 = .ok (.getfield 9, 3) := by decide +kernel
theorem dX9_sender_54 : decode cX9_sender 54 = .ok (.bipush 17, 2) := by decide +kernel
theorem dX9_sender_56 : decode cX9_sender 56 = .ok (.iload_n 1, 1) := by decide +kernel
theorem dX9_sender_57 : decode cX9_sender 57 = .ok (.iadd, 1) := by decide +kernel
theorem dX9_sender_58 : decode cX9_sender 58 = .ok (.iaload, 1) := by decide +kernel
theorem dX9_sender_59 : decode cX9_sender 59 = .ok (.if_icmp .ge 14, 3) := by decide +kernel
theorem dX9_sender_62 : decode cX9_sender 62 = .ok (.aload_n 0, 1) := by decide +kernel
theorem dX9_sender_63 : decode cX9_sender 63 = .ok (.iload_n 1, 1) := by decide +kernel
theorem dX9_sender_64 : decode cX9_sender 64 = .ok (.iload_n 2, 1) := by decide +kernel
theorem dX9_sender_65 : decode cX9_sender 65 = .ok (.iconst 2, 1) := by decide +kernel
theorem dX9_sender_66 : decode cX9_sender 66 = .ok (.isub, 1) := by decide +kernel
theorem dX9_sender_67 : decode cX9_sender 67 = .ok (.invokevirtual 202, 3) := by decide +kernel
theorem dX9_sender_70 : decode cX9_sender 70 = .ok (.goto 4, 3) := by decide +kernel
theorem dX9_sender_73 : decode cX9_sender 73 = .ok (.iconst (-1), 1) := by decide +kernel
theorem dX9_sender_74 : decode cX9_sender 74 = .ok (.ireturn, 1) := by decide +kernel
theorem dX9_noise_0 : decode cX9_noise 0 = .ok (.iload_n 1, 1) := by decide +kernel
theorem dX9_noise_1 : decode cX9_noise 1 = .ok (.i2l, 1) := by decide +kernel
theorem dX9_noise_2 : decode cX9_noise 2 = .ok (.lconst 0, 1) := by decide +kernel
theorem dX9_noise_3 : decode cX9_noise 3 = .ok (.aload_n 0, 1) := by decide +kernel
theorem dX9_noise_4 : decode cX9_noise 4 = .ok (.getfield 9, 3) := by decide +kernel
theorem dX9_noise_7 : decode cX9_noise 7 = .ok (.iconst 5, 1) := by decide +kernel
theorem dX9_noise_8 : decode cX9_noise 8 = .ok (.iaload, 1) := by decide +kernel
theorem dX9_noise_9 : decode cX9_noise 9 = .ok (.iconst 1, 1) := by decide +kernel
theorem dX9_noise_10 : decode cX9_noise 10 = .ok (.isub, 1) := by decide +kernel
theorem dX9_noise_11 : decode cX9_noise 11 = .ok (.i2l, 1) := by decide +kernel
theorem dX9_noise_12 : decode cX9_noise 12 = .ok (.invokestatic 84, 3) := by decide +kernel
theorem dX9_noise_15 : decode cX9_noise 15 = .ok (.ifCond .eq 34, 3) := by decide +kernel
theorem dX9_noise_18 : decode cX9_noise 18 = .ok (.iload_n 2, 1) := by decide +kernel
theorem dX9_noise_19 : decode cX9_noise 19 = .ok (.i2l, 1) := by decide +kernel
theorem dX9_noise_20 : decode cX9_noise 20 = .ok (.lconst 0, 1) := by decide +kernel
theorem dX9_noise_21 : decode cX9_noise 21 = .ok (.lconst 1, 1) := by decide +kernel
theorem dX9_noise_22 : decode cX9_noise 22 = .ok (.invokestatic 84, 3) := by decide +kernel
theorem dX9_noise_25 : decode cX9_noise 25 = .ok (.ifCond .eq 24, 3) := by decide +kernel
theorem dX9_noise_28 : decode cX9_noise 28 = .ok (.aload_n 0, 1) := by decide +kernel
theorem dX9_noise_29 : decode cX9_noise 29 = .ok (.getfield 9, 3) := by decide +kernel
theorem dX9_noise_32 : decode cX9_noise 32 = .ok (.iload_n 2, 1) := by decide +kernel
theorem dX9_noise_33 : decode cX9_noise 33 = .ok (.ifCond .ne 8, 3) := by decide +kernel
theorem dX9_noise_36 : decode cX9_noise 36 = .ok (.bipush 37, 2) := by decide +kernel
theorem dX9_noise_38 : decode cX9_noise 38 = .ok (.goto 5, 3) := by decide +kernel
theorem dX9_noise_41 : decode cX9_noise 41 = .ok (.bipush 47, 2) := by decide +kernel
theorem dX9_noise_43 : decode cX9_noise 43 = .ok (.iload_n 1, 1) := by decide +kernel
theorem dX9_noise_44 : decode cX9_noise 44 = .ok (.iadd, 1) := by decide +kernel
theorem dX9_noise_45 : decode cX9_noise 45 = .ok (.iaload, 1) := by decide +kernel
theorem dX9_noise_46 : decode cX9_noise 46 = .ok (.goto 5, 3) := by decide +kernel
theorem dX9_noise_49 : decode cX9_noise 49 = .ok (.bipush (-2), 2) := by decide +kernel
theorem dX9_noise_51 : decode cX9_noise 51 = .ok (.ireturn, 1) := by decide +kernel
theorem dX9_momentOf_0 : decode cX9_momentOf 0 = .ok (.bipush 16, 2) := by decide +kernel
theorem dX9_momentOf_2 : decode cX9_momentOf 2 = .ok (.iload_n 0, 1) := by decide +kernel
theorem dX9_momentOf_3 : decode cX9_momentOf 3 = .ok (.imul, 1) := by decide +kernel
theorem dX9_momentOf_4 : decode cX9_momentOf 4 = .ok (.iload_n 1, 1) := by decide +kernel
theorem dX9_momentOf_5 : decode cX9_momentOf 5 = .ok (.iadd, 1) := by decide +kernel
theorem dX9_momentOf_6 : decode cX9_momentOf 6 = .ok (.ireturn, 1) := by decide +kernel
theorem dX9_runs_0 : decode cX9_runs 0 = .ok (.aload_n 0, 1) := by decide +kernel
theorem dX9_runs_1 : decode cX9_runs 1 = .ok (.aload_n 0, 1) := by decide +kernel
theorem dX9_runs_2 : decode cX9_runs 2 = .ok (.getfield 9, 3) := by decide +kernel
theorem dX9_runs_5 : decode cX9_runs 5 = .ok (.iconst 0, 1) := by decide +kernel
theorem dX9_runs_6 : decode cX9_runs 6 = .ok (.iaload, 1) := by decide +kernel
theorem dX9_runs_7 : decode cX9_runs 7 = .ok (.iconst (-1), 1) := by decide +kernel
theorem dX9_runs_8 : decode cX9_runs 8 = .ok (.iconst (-1), 1) := by decide +kernel
theorem dX9_runs_9 : decode cX9_runs 9 = .ok (.invokevirtual 205, 3) := by decide +kernel
theorem dX9_runs_12 : decode cX9_runs 12 = .ok (.return_, 1) := by decide +kernel
theorem dX9_runsBy_0 : decode cX9_runsBy 0 = .ok (.aload_n 0, 1) := by decide +kernel
theorem dX9_runsBy_1 : decode cX9_runsBy 1 = .ok (.iload_n 1, 1) := by decide +kernel
theorem dX9_runsBy_2 : decode cX9_runsBy 2 = .ok (.putfield 209, 3) := by decide +kernel
theorem dX9_runsBy_5 : decode cX9_runsBy 5 = .ok (.aload_n 0, 1) := by decide +kernel
theorem dX9_runsBy_6 : decode cX9_runsBy 6 = .ok (.iload_n 2, 1) := by decide +kernel
theorem dX9_runsBy_7 : decode cX9_runsBy 7 = .ok (.putfield 212, 3) := by decide +kernel
theorem dX9_runsBy_10 : decode cX9_runsBy 10 = .ok (.aload_n 0, 1) := by decide +kernel
theorem dX9_runsBy_11 : decode cX9_runsBy 11 = .ok (.iload_n 3, 1) := by decide +kernel
theorem dX9_runsBy_12 : decode cX9_runsBy 12 = .ok (.putfield 215, 3) := by decide +kernel
theorem dX9_runsBy_15 : decode cX9_runsBy 15 = .ok (.aload_n 0, 1) := by decide +kernel
theorem dX9_runsBy_16 : decode cX9_runsBy 16 = .ok (.iconst 0, 1) := by decide +kernel
theorem dX9_runsBy_17 : decode cX9_runsBy 17 = .ok (.putfield 218, 3) := by decide +kernel
theorem dX9_runsBy_20 : decode cX9_runsBy 20 = .ok (.aload_n 0, 1) := by decide +kernel
theorem dX9_runsBy_21 : decode cX9_runsBy 21 = .ok (.iconst 0, 1) := by decide +kernel
theorem dX9_runsBy_22 : decode cX9_runsBy 22 = .ok (.putfield 221, 3) := by decide +kernel
theorem dX9_runsBy_25 : decode cX9_runsBy 25 = .ok (.aload_n 0, 1) := by decide +kernel
theorem dX9_runsBy_26 : decode cX9_runsBy 26 = .ok (.iconst 0, 1) := by decide +kernel
theorem dX9_runsBy_27 : decode cX9_runsBy 27 = .ok (.putfield 224, 3) := by decide +kernel
theorem dX9_runsBy_30 : decode cX9_runsBy 30 = .ok (.aload_n 0, 1) := by decide +kernel
theorem dX9_runsBy_31 : decode cX9_runsBy 31 = .ok (.iconst 0, 1) := by decide +kernel
theorem dX9_runsBy_32 : decode cX9_runsBy 32 = .ok (.putfield 227, 3) := by decide +kernel
theorem dX9_runsBy_35 : decode cX9_runsBy 35 = .ok (.aload_n 0, 1) := by decide +kernel
theorem dX9_runsBy_36 : decode cX9_runsBy 36 = .ok (.iconst 0, 1) := by decide +kernel
theorem dX9_runsBy_37 : decode cX9_runsBy 37 = .ok (.putfield 230, 3) := by decide +kernel
theorem dX9_runsBy_40 : decode cX9_runsBy 40 = .ok (.aload_n 0, 1) := by decide +kernel
theorem dX9_runsBy_41 : decode cX9_runsBy 41 = .ok (.iconst 0, 1) := by decide +kernel
theorem dX9_runsBy_42 : decode cX9_runsBy 42 = .ok (.putfield 233, 3) := by decide +kernel
theorem dX9_runsBy_45 : decode cX9_runsBy 45 = .ok (.aload_n 0, 1) := by decide +kernel
theorem dX9_runsBy_46 : decode cX9_runsBy 46 = .ok (.iconst 0, 1) := by decide +kernel
theorem dX9_runsBy_47 : decode cX9_runsBy 47 = .ok (.putfield 236, 3) := by decide +kernel
theorem dX9_runsBy_50 : decode cX9_runsBy 50 = .ok (.iconst 0, 1) := by decide +kernel
theorem dX9_runsBy_51 : decode cX9_runsBy 51 = .ok (.istore 4, 2) := by decide +kernel
theorem dX9_runsBy_53 : decode cX9_runsBy 53 = .ok (.iload 4, 2) := by decide +kernel
theorem dX9_runsBy_55 : decode cX9_runsBy 55 = .ok (.bipush 10, 2) := by decide +kernel
theorem dX9_runsBy_57 : decode cX9_runsBy 57 = .ok (.if_icmp .ge 33, 3) := by decide +kernel
theorem dX9_runsBy_60 : decode cX9_runsBy 60 = .ok (.aload_n 0, 1) := by decide +kernel
theorem dX9_runsBy_61 : decode cX9_runsBy 61 = .ok (.getfield 35, 3) := by decide +kernel
theorem dX9_runsBy_64 : decode cX9_runsBy 64 = .ok (.iload 4, 2) := by decide +kernel
theorem dX9_runsBy_66 : decode cX9_runsBy 66 = .ok (.iconst 0, 1) := by decide +kernel
theorem dX9_runsBy_67 : decode cX9_runsBy 67 = .ok (.iastore, 1) := by decide +kernel
theorem dX9_runsBy_68 : decode cX9_runsBy 68 = .ok (.aload_n 0, 1) := by decide +kernel
theorem dX9_runsBy_69 : decode cX9_runsBy 69 = .ok (.getfield 38, 3) := by decide +kernel
theorem dX9_runsBy_72 : decode cX9_runsBy 72 = .ok (.iload 4, 2) := by decide +kernel
theorem dX9_runsBy_74 : decode cX9_runsBy 74 = .ok (.iconst 0, 1) := by decide +kernel
theorem dX9_runsBy_75 : decode cX9_runsBy 75 = .ok (.iastore, 1) := by decide +kernel
theorem dX9_runsBy_76 : decode cX9_runsBy 76 = .ok (.aload_n 0, 1) := by decide +kernel
theorem dX9_runsBy_77 : decode cX9_runsBy 77 = .ok (.getfield 41, 3) := by decide +kernel
theorem dX9_runsBy_80 : decode cX9_runsBy 80 = .ok (.iload 4, 2) := by decide +kernel
theorem dX9_runsBy_82 : decode cX9_runsBy 82 = .ok (.iconst (-1), 1) := by decide +kernel
theorem dX9_runsBy_83 : decode cX9_runsBy 83 = .ok (.iastore, 1) := by decide +kernel
theorem dX9_runsBy_84 : decode cX9_runsBy 84 = .ok (.iinc 4 1, 3) := by decide +kernel
theorem dX9_runsBy_87 : decode cX9_runsBy 87 = .ok (.goto (-34), 3) := by decide +kernel
theorem dX9_runsBy_90 : decode cX9_runsBy 90 = .ok (.iconst 0, 1) := by decide +kernel
theorem dX9_runsBy_91 : decode cX9_runsBy 91 = .ok (.istore 4, 2) := by decide +kernel
theorem dX9_runsBy_93 : decode cX9_runsBy 93 = .ok (.iload 4, 2) := by decide +kernel
theorem dX9_runsBy_95 : decode cX9_runsBy 95 = .ok (.aload_n 0, 1) := by decide +kernel
theorem dX9_runsBy_96 : decode cX9_runsBy 96 = .ok (.getfield 9, 3) := by decide +kernel
theorem dX9_runsBy_99 : decode cX9_runsBy 99 = .ok (.iconst 1, 1) := by decide +kernel
theorem dX9_runsBy_100 : decode cX9_runsBy 100 = .ok (.iaload, 1) := by decide +kernel
theorem dX9_runsBy_101 : decode cX9_runsBy 101 = .ok (.if_icmp .ge 50, 3) := by decide +kernel
theorem dX9_runsBy_104 : decode cX9_runsBy 104 = .ok (.aload_n 0, 1) := by decide +kernel
theorem dX9_runsBy_105 : decode cX9_runsBy 105 = .ok (.aload_n 0, 1) := by decide +kernel
theorem dX9_runsBy_106 : decode cX9_runsBy 106 = .ok (.iload 4, 2) := by decide +kernel
theorem dX9_runsBy_108 : decode cX9_runsBy 108 = .ok (.invokevirtual 239, 3) := by decide +kernel
theorem dX9_runsBy_111 : decode cX9_runsBy 111 = .ok (.putfield 243, 3) := by decide +kernel
theorem dX9_runsBy_114 : decode cX9_runsBy 114 = .ok (.aload_n 0, 1) := by decide +kernel
theorem dX9_runsBy_115 : decode cX9_runsBy 115 = .ok (.getfield 56, 3) := by decide +kernel
theorem dX9_runsBy_118 : decode cX9_runsBy 118 = .ok (.iload 4, 2) := by decide +kernel
theorem dX9_runsBy_120 : decode cX9_runsBy 120 = .ok (.iconst 0, 1) := by decide +kernel
theorem dX9_runsBy_121 : decode cX9_runsBy 121 = .ok (.iastore, 1) := by decide +kernel
theorem dX9_runsBy_122 : decode cX9_runsBy 122 = .ok (.aload_n 0, 1) := by decide +kernel
theorem dX9_runsBy_123 : decode cX9_runsBy 123 = .ok (.getfield 209, 3) := by decide +kernel
theorem dX9_runsBy_126 : decode cX9_runsBy 126 = .ok (.iconst 2, 1) := by decide +kernel
theorem dX9_runsBy_127 : decode cX9_runsBy 127 = .ok (.if_icmp .ne 12, 3) := by decide +kernel
theorem dX9_runsBy_130 : decode cX9_runsBy 130 = .ok (.aload_n 0, 1) := by decide +kernel
theorem dX9_runsBy_131 : decode cX9_runsBy 131 = .ok (.iload 4, 2) := by decide +kernel
theorem dX9_runsBy_133 : decode cX9_runsBy 133 = .ok (.invokevirtual 246, 3) := by decide +kernel
theorem dX9_runsBy_136 : decode cX9_runsBy 136 = .ok (.goto 9, 3) := by decide +kernel
theorem dX9_runsBy_139 : decode cX9_runsBy 139 = .ok (.aload_n 0, 1) := by decide +kernel
theorem dX9_runsBy_140 : decode cX9_runsBy 140 = .ok (.iload 4, 2) := by decide +kernel
theorem dX9_runsBy_142 : decode cX9_runsBy 142 = .ok (.invokevirtual 249, 3) := by decide +kernel
theorem dX9_runsBy_145 : decode cX9_runsBy 145 = .ok (.iinc 4 1, 3) := by decide +kernel
theorem dX9_runsBy_148 : decode cX9_runsBy 148 = .ok (.goto (-55), 3) := by decide +kernel
theorem dX9_runsBy_151 : decode cX9_runsBy 151 = .ok (.return_, 1) := by decide +kernel
theorem dX9_waiting_0 : decode cX9_waiting 0 = .ok (.iconst 0, 1) := by decide +kernel
theorem dX9_waiting_1 : decode cX9_waiting 1 = .ok (.istore_n 2, 1) := by decide +kernel
theorem dX9_waiting_2 : decode cX9_waiting 2 = .ok (.iconst 0, 1) := by decide +kernel
theorem dX9_waiting_3 : decode cX9_waiting 3 = .ok (.istore_n 3, 1) := by decide +kernel
theorem dX9_waiting_4 : decode cX9_waiting 4 = .ok (.iload_n 3, 1) := by decide +kernel
theorem dX9_waiting_5 : decode cX9_waiting 5 = .ok (.aload_n 0, 1) := by decide +kernel
theorem dX9_waiting_6 : decode cX9_waiting 6 = .ok (.getfield 9, 3) := by decide +kernel
theorem dX9_waiting_9 : decode cX9_waiting 9 = .ok (.iconst 4, 1) := by decide +kernel
theorem dX9_waiting_10 : decode cX9_waiting 10 = .ok (.iaload, 1) := by decide +kernel
theorem dX9_waiting_11 : decode cX9_waiting 11 = .ok (.if_icmp .ge 50, 3) := by decide +kernel
theorem dX9_waiting_14 : decode cX9_waiting 14 = .ok (.iload_n 2, 1) := by decide +kernel
theorem dX9_waiting_15 : decode cX9_waiting 15 = .ok (.iload_n 3, 1) := by decide +kernel
theorem dX9_waiting_16 : decode cX9_waiting 16 = .ok (.aload_n 0, 1) := by decide +kernel
theorem dX9_waiting_17 : decode cX9_waiting 17 = .ok (.getfield 215, 3) := by decide +kernel
theorem dX9_waiting_20 : decode cX9_waiting 20 = .ok (.if_icmp .eq 32, 3) := by decide +kernel
theorem dX9_waiting_23 : decode cX9_waiting 23 = .ok (.aload_n 0, 1) := by decide +kernel
theorem dX9_waiting_24 : decode cX9_waiting 24 = .ok (.getfield 9, 3) := by decide +kernel
theorem dX9_waiting_27 : decode cX9_waiting 27 = .ok (.bipush 7, 2) := by decide +kernel
theorem dX9_waiting_29 : decode cX9_waiting 29 = .ok (.iload_n 3, 1) := by decide +kernel
theorem dX9_waiting_30 : decode cX9_waiting 30 = .ok (.iadd, 1) := by decide +kernel
theorem dX9_waiting_31 : decode cX9_waiting 31 = .ok (.iaload, 1) := by decide +kernel
theorem dX9_waiting_32 : decode cX9_waiting 32 = .ok (.iload_n 1, 1) := by decide +kernel
theorem dX9_waiting_33 : decode cX9_waiting 33 = .ok (.if_icmp .gt 19, 3) := by decide +kernel
theorem dX9_waiting_36 : decode cX9_waiting 36 = .ok (.aload_n 0, 1) := by decide +kernel
theorem dX9_waiting_37 : decode cX9_waiting 37 = .ok (.getfield 41, 3) := by decide +kernel
theorem dX9_waiting_40 : decode cX9_waiting 40 = .ok (.iload_n 3, 1) := by decide +kernel
theorem dX9_waiting_41 : decode cX9_waiting 41 = .ok (.iaload, 1) := by decide +kernel
theorem dX9_waiting_42 : decode cX9_waiting 42 = .ok (.iconst (-1), 1) := by decide +kernel
theorem dX9_waiting_43 : decode cX9_waiting 43 = .ok (.if_icmp .ne 9, 3) := by decide +kernel
theorem dX9_waiting_46 : decode cX9_waiting 46 = .ok (.iconst 1, 1) := by decide +kernel
theorem dX9_waiting_47 : decode cX9_waiting 47 = .ok (.iload_n 3, 1) := by decide +kernel
theorem dX9_waiting_48 : decode cX9_waiting 48 = .ok (.ishl, 1) := by decide +kernel
theorem dX9_waiting_49 : decode cX9_waiting 49 = .ok (.goto 4, 3) := by decide +kernel
theorem dX9_waiting_52 : decode cX9_waiting 52 = .ok (.iconst 0, 1) := by decide +kernel
theorem dX9_waiting_53 : decode cX9_waiting 53 = .ok (.ior, 1) := by decide +kernel
theorem dX9_waiting_54 : decode cX9_waiting 54 = .ok (.istore_n 2, 1) := by decide +kernel
theorem dX9_waiting_55 : decode cX9_waiting 55 = .ok (.iinc 3 1, 3) := by decide +kernel
theorem dX9_waiting_58 : decode cX9_waiting 58 = .ok (.goto (-54), 3) := by decide +kernel
theorem dX9_waiting_61 : decode cX9_waiting 61 = .ok (.iload_n 2, 1) := by decide +kernel
theorem dX9_waiting_62 : decode cX9_waiting 62 = .ok (.ireturn, 1) := by decide +kernel
theorem dX9_heardAt_0 : decode cX9_heardAt 0 = .ok (.iconst 0, 1) := by decide +kernel
theorem dX9_heardAt_1 : decode cX9_heardAt 1 = .ok (.istore_n 3, 1) := by decide +kernel
theorem dX9_heardAt_2 : decode cX9_heardAt 2 = .ok (.iload_n 3, 1) := by decide +kernel
theorem dX9_heardAt_3 : decode cX9_heardAt 3 = .ok (.aload_n 0, 1) := by decide +kernel
theorem dX9_heardAt_4 : decode cX9_heardAt 4 = .ok (.getfield 9, 3) := by decide +kernel
theorem dX9_heardAt_7 : decode cX9_heardAt 7 = .ok (.iconst 5, 1) := by decide +kernel
theorem dX9_heardAt_8 : decode cX9_heardAt 8 = .ok (.iaload, 1) := by decide +kernel
theorem dX9_heardAt_9 : decode cX9_heardAt 9 = .ok (.if_icmp .ge 40, 3) := by decide +kernel
theorem dX9_heardAt_12 : decode cX9_heardAt 12 = .ok (.aload_n 0, 1) := by decide +kernel
theorem dX9_heardAt_13 : decode cX9_heardAt 13 = .ok (.getfield 9, 3) := by decide +kernel
theorem dX9_heardAt_16 : decode cX9_heardAt 16 = .ok (.bipush 37, 2) := by decide +kernel
theorem dX9_heardAt_18 : decode cX9_heardAt 18 = .ok (.iload_n 3, 1) := by decide +kernel
theorem dX9_heardAt_19 : decode cX9_heardAt 19 = .ok (.iadd, 1) := by decide +kernel
theorem dX9_heardAt_20 : decode cX9_heardAt 20 = .ok (.iaload, 1) := by decide +kernel
theorem dX9_heardAt_21 : decode cX9_heardAt 21 = .ok (.iload_n 1, 1) := by decide +kernel
theorem dX9_heardAt_22 : decode cX9_heardAt 22 = .ok (.if_icmp .ne 21, 3) := by decide +kernel
theorem dX9_heardAt_25 : decode cX9_heardAt 25 = .ok (.iload_n 3, 1) := by decide +kernel
theorem dX9_heardAt_26 : decode cX9_heardAt 26 = .ok (.aload_n 0, 1) := by decide +kernel
theorem dX9_heardAt_27 : decode cX9_heardAt 27 = .ok (.getfield 212, 3) := by decide +kernel
theorem dX9_heardAt_30 : decode cX9_heardAt 30 = .ok (.if_icmp .eq 13, 3) := by decide +kernel
theorem dX9_heardAt_33 : decode cX9_heardAt 33 = .ok (.aload_n 0, 1) := by decide +kernel
theorem dX9_heardAt_34 : decode cX9_heardAt 34 = .ok (.getfield 9, 3) := by decide +kernel
theorem dX9_heardAt_37 : decode cX9_heardAt 37 = .ok (.bipush 47, 2) := by decide +kernel
theorem dX9_heardAt_39 : decode cX9_heardAt 39 = .ok (.iload_n 3, 1) := by decide +kernel
theorem dX9_heardAt_40 : decode cX9_heardAt 40 = .ok (.iadd, 1) := by decide +kernel
theorem dX9_heardAt_41 : decode cX9_heardAt 41 = .ok (.iaload, 1) := by decide +kernel
theorem dX9_heardAt_42 : decode cX9_heardAt 42 = .ok (.ireturn, 1) := by decide +kernel
theorem dX9_heardAt_43 : decode cX9_heardAt 43 = .ok (.iinc 3 1, 3) := by decide +kernel
theorem dX9_heardAt_46 : decode cX9_heardAt 46 = .ok (.goto (-44), 3) := by decide +kernel
theorem dX9_heardAt_49 : decode cX9_heardAt 49 = .ok (.iconst 2, 1) := by decide +kernel
theorem dX9_heardAt_50 : decode cX9_heardAt 50 = .ok (.iload_n 2, 1) := by decide +kernel
theorem dX9_heardAt_51 : decode cX9_heardAt 51 = .ok (.invokestatic 105, 3) := by decide +kernel
theorem dX9_heardAt_54 : decode cX9_heardAt 54 = .ok (.ireturn, 1) := by decide +kernel
theorem dX9_sent_0 : decode cX9_sent 0 = .ok (.aload_n 0, 1) := by decide +kernel
theorem dX9_sent_1 : decode cX9_sent 1 = .ok (.getfield 44, 3) := by decide +kernel
theorem dX9_sent_4 : decode cX9_sent 4 = .ok (.iload_n 1, 1) := by decide +kernel
theorem dX9_sent_5 : decode cX9_sent 5 = .ok (.iload_n 2, 1) := by decide +kernel
theorem dX9_sent_6 : decode cX9_sent 6 = .ok (.iastore, 1) := by decide +kernel
theorem dX9_sent_7 : decode cX9_sent 7 = .ok (.aload_n 0, 1) := by decide +kernel
theorem dX9_sent_8 : decode cX9_sent 8 = .ok (.getfield 47, 3) := by decide +kernel
theorem dX9_sent_11 : decode cX9_sent 11 = .ok (.iload_n 1, 1) := by decide +kernel
theorem dX9_sent_12 : decode cX9_sent 12 = .ok (.aload_n 0, 1) := by decide +kernel
theorem dX9_sent_13 : decode cX9_sent 13 = .ok (.iload_n 1, 1) := by decide +kernel
theorem dX9_sent_14 : decode cX9_sent 14 = .ok (.iload_n 2, 1) := by decide +kernel
theorem dX9_sent_15 : decode cX9_sent 15 = .ok (.invokestatic 252, 3) := by decide +kernel
theorem dX9_sent_18 : decode cX9_sent 18 = .ok (.invokevirtual 255, 3) := by decide +kernel
theorem dX9_sent_21 : decode cX9_sent 21 = .ok (.iastore, 1) := by decide +kernel
theorem dX9_sent_22 : decode cX9_sent 22 = .ok (.aload_n 0, 1) := by decide +kernel
theorem dX9_sent_23 : decode cX9_sent 23 = .ok (.getfield 50, 3) := by decide +kernel
theorem dX9_sent_26 : decode cX9_sent 26 = .ok (.iload_n 1, 1) := by decide +kernel
theorem dX9_sent_27 : decode cX9_sent 27 = .ok (.iconst (-1), 1) := by decide +kernel
theorem dX9_sent_28 : decode cX9_sent 28 = .ok (.iastore, 1) := by decide +kernel
theorem dX9_sent_29 : decode cX9_sent 29 = .ok (.aload_n 0, 1) := by decide +kernel
theorem dX9_sent_30 : decode cX9_sent 30 = .ok (.getfield 47, 3) := by decide +kernel
theorem dX9_sent_33 : decode cX9_sent 33 = .ok (.iload_n 1, 1) := by decide +kernel
theorem dX9_sent_34 : decode cX9_sent 34 = .ok (.iaload, 1) := by decide +kernel
theorem dX9_sent_35 : decode cX9_sent 35 = .ok (.iconst 1, 1) := by decide +kernel
theorem dX9_sent_36 : decode cX9_sent 36 = .ok (.if_icmp .ne 51, 3) := by decide +kernel
theorem dX9_sent_39 : decode cX9_sent 39 = .ok (.iload_n 2, 1) := by decide +kernel
theorem dX9_sent_40 : decode cX9_sent 40 = .ok (.invokestatic 252, 3) := by decide +kernel
theorem dX9_sent_43 : decode cX9_sent 43 = .ok (.iconst 1, 1) := by decide +kernel
theorem dX9_sent_44 : decode cX9_sent 44 = .ok (.if_icmp .ne 43, 3) := by decide +kernel
theorem dX9_sent_47 : decode cX9_sent 47 = .ok (.iconst 0, 1) := by decide +kernel
theorem dX9_sent_48 : decode cX9_sent 48 = .ok (.istore_n 3, 1) := by decide +kernel
end
section
theorem dX9_sent_49 : decode cX9_sent 49 = .ok (.iload_n 2, 1) := by decide +kernel
theorem dX9_sent_50 : decode cX9_sent 50 = .ok (.iload_n 3, 1) := by decide +kernel
theorem dX9_sent_51 : decode cX9_sent 51 = .ok (.invokestatic 258, 3) := by decide +kernel
theorem dX9_sent_54 : decode cX9_sent 54 = .ok (.ifCond .ne 9, 3) := by decide +kernel
theorem dX9_sent_57 : decode cX9_sent 57 = .ok (.iinc 3 1, 3) := by decide +kernel
theorem dX9_sent_60 : decode cX9_sent 60 = .ok (.goto (-11), 3) := by decide +kernel
theorem dX9_sent_63 : decode cX9_sent 63 = .ok (.aload_n 0, 1) := by decide +kernel
theorem dX9_sent_64 : decode cX9_sent 64 = .ok (.getfield 50, 3) := by decide +kernel
theorem dX9_sent_67 : decode cX9_sent 67 = .ok (.iload_n 1, 1) := by decide +kernel
theorem dX9_sent_68 : decode cX9_sent 68 = .ok (.iload_n 3, 1) := by decide +kernel
theorem dX9_sent_69 : decode cX9_sent 69 = .ok (.iastore, 1) := by decide +kernel
theorem dX9_sent_70 : decode cX9_sent 70 = .ok (.aload_n 0, 1) := by decide +kernel
theorem dX9_sent_71 : decode cX9_sent 71 = .ok (.getfield 41, 3) := by decide +kernel
theorem dX9_sent_74 : decode cX9_sent 74 = .ok (.iload_n 3, 1) := by decide +kernel
theorem dX9_sent_75 : decode cX9_sent 75 = .ok (.iload_n 1, 1) := by decide +kernel
theorem dX9_sent_76 : decode cX9_sent 76 = .ok (.iastore, 1) := by decide +kernel
theorem dX9_sent_77 : decode cX9_sent 77 = .ok (.aload_n 0, 1) := by decide +kernel
theorem dX9_sent_78 : decode cX9_sent 78 = .ok (.dup, 1) := by decide +kernel
theorem dX9_sent_79 : decode cX9_sent 79 = .ok (.getfield 236, 3) := by decide +kernel
theorem dX9_sent_82 : decode cX9_sent 82 = .ok (.iconst 1, 1) := by decide +kernel
theorem dX9_sent_83 : decode cX9_sent 83 = .ok (.iadd, 1) := by decide +kernel
theorem dX9_sent_84 : decode cX9_sent 84 = .ok (.putfield 236, 3) := by decide +kernel
theorem dX9_sent_87 : decode cX9_sent 87 = .ok (.aload_n 0, 1) := by decide +kernel
theorem dX9_sent_88 : decode cX9_sent 88 = .ok (.getfield 47, 3) := by decide +kernel
theorem dX9_sent_91 : decode cX9_sent 91 = .ok (.iload_n 1, 1) := by decide +kernel
theorem dX9_sent_92 : decode cX9_sent 92 = .ok (.iaload, 1) := by decide +kernel
theorem dX9_sent_93 : decode cX9_sent 93 = .ok (.ireturn, 1) := by decide +kernel
theorem dX9_takesBit_0 : decode cX9_takesBit 0 = .ok (.aload_n 0, 1) := by decide +kernel
theorem dX9_takesBit_1 : decode cX9_takesBit 1 = .ok (.iload_n 1, 1) := by decide +kernel
theorem dX9_takesBit_2 : decode cX9_takesBit 2 = .ok (.aload_n 0, 1) := by decide +kernel
theorem dX9_takesBit_3 : decode cX9_takesBit 3 = .ok (.getfield 35, 3) := by decide +kernel
theorem dX9_takesBit_6 : decode cX9_takesBit 6 = .ok (.iload_n 1, 1) := by decide +kernel
theorem dX9_takesBit_7 : decode cX9_takesBit 7 = .ok (.iaload, 1) := by decide +kernel
theorem dX9_takesBit_8 : decode cX9_takesBit 8 = .ok (.invokevirtual 202, 3) := by decide +kernel
theorem dX9_takesBit_11 : decode cX9_takesBit 11 = .ok (.istore_n 2, 1) := by decide +kernel
theorem dX9_takesBit_12 : decode cX9_takesBit 12 = .ok (.aload_n 0, 1) := by decide +kernel
theorem dX9_takesBit_13 : decode cX9_takesBit 13 = .ok (.getfield 35, 3) := by decide +kernel
theorem dX9_takesBit_16 : decode cX9_takesBit 16 = .ok (.iload_n 1, 1) := by decide +kernel
theorem dX9_takesBit_17 : decode cX9_takesBit 17 = .ok (.dup2, 1) := by decide +kernel
theorem dX9_takesBit_18 : decode cX9_takesBit 18 = .ok (.iaload, 1) := by decide +kernel
theorem dX9_takesBit_19 : decode cX9_takesBit 19 = .ok (.iconst 1, 1) := by decide +kernel
theorem dX9_takesBit_20 : decode cX9_takesBit 20 = .ok (.iadd, 1) := by decide +kernel
theorem dX9_takesBit_21 : decode cX9_takesBit 21 = .ok (.iastore, 1) := by decide +kernel
theorem dX9_takesBit_22 : decode cX9_takesBit 22 = .ok (.iload_n 2, 1) := by decide +kernel
theorem dX9_takesBit_23 : decode cX9_takesBit 23 = .ok (.ireturn, 1) := by decide +kernel
theorem dX9_goesByCounters_0 : decode cX9_goesByCounters 0 = .ok (.iconst 0, 1) := by decide +kernel
theorem dX9_goesByCounters_1 : decode cX9_goesByCounters 1 = .ok (.istore_n 2, 1) := by decide +kernel
theorem dX9_goesByCounters_2 : decode cX9_goesByCounters 2 = .ok (.iconst 0, 1) := by decide +kernel
theorem dX9_goesByCounters_3 : decode cX9_goesByCounters 3 = .ok (.istore_n 3, 1) := by decide +kernel
theorem dX9_goesByCounters_4 : decode cX9_goesByCounters 4 = .ok (.iload_n 3, 1) := by decide +kernel
theorem dX9_goesByCounters_5 : decode cX9_goesByCounters 5 = .ok (.bipush 10, 2) := by decide +kernel
theorem dX9_goesByCounters_7 : decode cX9_goesByCounters 7 = .ok (.if_icmp .ge 39, 3) := by decide +kernel
theorem dX9_goesByCounters_10 : decode cX9_goesByCounters 10 = .ok (.iload_n 2, 1) := by decide +kernel
theorem dX9_goesByCounters_11 : decode cX9_goesByCounters 11 = .ok (.aload_n 0, 1) := by decide +kernel
theorem dX9_goesByCounters_12 : decode cX9_goesByCounters 12 = .ok (.getfield 243, 3) := by decide +kernel
theorem dX9_goesByCounters_15 : decode cX9_goesByCounters 15 = .ok (.iload_n 3, 1) := by decide +kernel
theorem dX9_goesByCounters_16 : decode cX9_goesByCounters 16 = .ok (.invokestatic 258, 3) := by decide +kernel
theorem dX9_goesByCounters_19 : decode cX9_goesByCounters 19 = .ok (.ifCond .eq 18, 3) := by decide +kernel
theorem dX9_goesByCounters_22 : decode cX9_goesByCounters 22 = .ok (.aload_n 0, 1) := by decide +kernel
theorem dX9_goesByCounters_23 : decode cX9_goesByCounters 23 = .ok (.getfield 38, 3) := by decide +kernel
theorem dX9_goesByCounters_26 : decode cX9_goesByCounters 26 = .ok (.iload_n 3, 1) := by decide +kernel
theorem dX9_goesByCounters_27 : decode cX9_goesByCounters 27 = .ok (.iaload, 1) := by decide +kernel
theorem dX9_goesByCounters_28 : decode cX9_goesByCounters 28 = .ok (.ifCond .ne 9, 3) := by decide +kernel
theorem dX9_goesByCounters_31 : decode cX9_goesByCounters 31 = .ok (.iconst 1, 1) := by decide +kernel
theorem dX9_goesByCounters_32 : decode cX9_goesByCounters 32 = .ok (.iload_n 3, 1) := by decide +kernel
theorem dX9_goesByCounters_33 : decode cX9_goesByCounters 33 = .ok (.ishl, 1) := by decide +kernel
theorem dX9_goesByCounters_34 : decode cX9_goesByCounters 34 = .ok (.goto 4, 3) := by decide +kernel
theorem dX9_goesByCounters_37 : decode cX9_goesByCounters 37 = .ok (.iconst 0, 1) := by decide +kernel
theorem dX9_goesByCounters_38 : decode cX9_goesByCounters 38 = .ok (.ior, 1) := by decide +kernel
theorem dX9_goesByCounters_39 : decode cX9_goesByCounters 39 = .ok (.istore_n 2, 1) := by decide +kernel
theorem dX9_goesByCounters_40 : decode cX9_goesByCounters 40 = .ok (.iinc 3 1, 3) := by decide +kernel
theorem dX9_goesByCounters_43 : decode cX9_goesByCounters 43 = .ok (.goto (-39), 3) := by decide +kernel
theorem dX9_goesByCounters_46 : decode cX9_goesByCounters 46 = .ok (.aload_n 0, 1) := by decide +kernel
theorem dX9_goesByCounters_47 : decode cX9_goesByCounters 47 = .ok (.iload_n 1, 1) := by decide +kernel
theorem dX9_goesByCounters_48 : decode cX9_goesByCounters 48 = .ok (.iload_n 2, 1) := by decide +kernel
theorem dX9_goesByCounters_49 : decode cX9_goesByCounters 49 = .ok (.invokevirtual 261, 3) := by decide +kernel
theorem dX9_goesByCounters_52 : decode cX9_goesByCounters 52 = .ok (.istore_n 3, 1) := by decide +kernel
theorem dX9_goesByCounters_53 : decode cX9_goesByCounters 53 = .ok (.iconst 0, 1) := by decide +kernel
theorem dX9_goesByCounters_54 : decode cX9_goesByCounters 54 = .ok (.istore 4, 2) := by decide +kernel
theorem dX9_goesByCounters_56 : decode cX9_goesByCounters 56 = .ok (.iconst 0, 1) := by decide +kernel
theorem dX9_goesByCounters_57 : decode cX9_goesByCounters 57 = .ok (.istore 5, 2) := by decide +kernel
theorem dX9_goesByCounters_59 : decode cX9_goesByCounters 59 = .ok (.iload 5, 2) := by decide +kernel
theorem dX9_goesByCounters_61 : decode cX9_goesByCounters 61 = .ok (.bipush 10, 2) := by decide +kernel
theorem dX9_goesByCounters_63 : decode cX9_goesByCounters 63 = .ok (.if_icmp .ge 105, 3) := by decide +kernel
theorem dX9_goesByCounters_66 : decode cX9_goesByCounters 66 = .ok (.aload_n 0, 1) := by decide +kernel
theorem dX9_goesByCounters_67 : decode cX9_goesByCounters 67 = .ok (.getfield 243, 3) := by decide +kernel
theorem dX9_goesByCounters_70 : decode cX9_goesByCounters 70 = .ok (.iload 5, 2) := by decide +kernel
theorem dX9_goesByCounters_72 : decode cX9_goesByCounters 72 = .ok (.invokestatic 258, 3) := by decide +kernel
theorem dX9_goesByCounters_75 : decode cX9_goesByCounters 75 = .ok (.ifCond .eq 87, 3) := by decide +kernel
theorem dX9_goesByCounters_78 : decode cX9_goesByCounters 78 = .ok (.aload_n 0, 1) := by decide +kernel
theorem dX9_goesByCounters_79 : decode cX9_goesByCounters 79 = .ok (.getfield 41, 3) := by decide +kernel
theorem dX9_goesByCounters_82 : decode cX9_goesByCounters 82 = .ok (.iload 5, 2) := by decide +kernel
theorem dX9_goesByCounters_84 : decode cX9_goesByCounters 84 = .ok (.iaload, 1) := by decide +kernel
theorem dX9_goesByCounters_85 : decode cX9_goesByCounters 85 = .ok (.iconst (-1), 1) := by decide +kernel
theorem dX9_goesByCounters_86 : decode cX9_goesByCounters 86 = .ok (.if_icmp .eq 6, 3) := by decide +kernel
theorem dX9_goesByCounters_89 : decode cX9_goesByCounters 89 = .ok (.goto 73, 3) := by decide +kernel
theorem dX9_goesByCounters_92 : decode cX9_goesByCounters 92 = .ok (.iload_n 2, 1) := by decide +kernel
theorem dX9_goesByCounters_93 : decode cX9_goesByCounters 93 = .ok (.iload 5, 2) := by decide +kernel
theorem dX9_goesByCounters_95 : decode cX9_goesByCounters 95 = .ok (.invokestatic 258, 3) := by decide +kernel
theorem dX9_goesByCounters_98 : decode cX9_goesByCounters 98 = .ok (.ifCond .eq 28, 3) := by decide +kernel
theorem dX9_goesByCounters_101 : decode cX9_goesByCounters 101 = .ok (.aload_n 0, 1) := by decide +kernel
theorem dX9_goesByCounters_102 : decode cX9_goesByCounters 102 = .ok (.getfield 38, 3) := by decide +kernel
theorem dX9_goesByCounters_105 : decode cX9_goesByCounters 105 = .ok (.iload 5, 2) := by decide +kernel
theorem dX9_goesByCounters_107 : decode cX9_goesByCounters 107 = .ok (.iload_n 3, 1) := by decide +kernel
theorem dX9_goesByCounters_108 : decode cX9_goesByCounters 108 = .ok (.iconst 2, 1) := by decide +kernel
theorem dX9_goesByCounters_109 : decode cX9_goesByCounters 109 = .ok (.if_icmp .ne 12, 3) := by decide +kernel
theorem dX9_goesByCounters_112 : decode cX9_goesByCounters 112 = .ok (.aload_n 0, 1) := by decide +kernel
theorem dX9_goesByCounters_113 : decode cX9_goesByCounters 113 = .ok (.iload 5, 2) := by decide +kernel
theorem dX9_goesByCounters_115 : decode cX9_goesByCounters 115 = .ok (.invokevirtual 264, 3) := by decide +kernel
theorem dX9_goesByCounters_118 : decode cX9_goesByCounters 118 = .ok (.goto 4, 3) := by decide +kernel
theorem dX9_goesByCounters_121 : decode cX9_goesByCounters 121 = .ok (.iconst 0, 1) := by decide +kernel
theorem dX9_goesByCounters_122 : decode cX9_goesByCounters 122 = .ok (.iastore, 1) := by decide +kernel
theorem dX9_goesByCounters_123 : decode cX9_goesByCounters 123 = .ok (.goto 23, 3) := by decide +kernel
theorem dX9_goesByCounters_126 : decode cX9_goesByCounters 126 = .ok (.aload_n 0, 1) := by decide +kernel
theorem dX9_goesByCounters_127 : decode cX9_goesByCounters 127 = .ok (.getfield 38, 3) := by decide +kernel
theorem dX9_goesByCounters_130 : decode cX9_goesByCounters 130 = .ok (.iload 5, 2) := by decide +kernel
theorem dX9_goesByCounters_132 : decode cX9_goesByCounters 132 = .ok (.dup2, 1) := by decide +kernel
theorem dX9_goesByCounters_133 : decode cX9_goesByCounters 133 = .ok (.iaload, 1) := by decide +kernel
theorem dX9_goesByCounters_134 : decode cX9_goesByCounters 134 = .ok (.iload_n 3, 1) := by decide +kernel
theorem dX9_goesByCounters_135 : decode cX9_goesByCounters 135 = .ok (.iconst 2, 1) := by decide +kernel
theorem dX9_goesByCounters_136 : decode cX9_goesByCounters 136 = .ok (.if_icmp .ne 7, 3) := by decide +kernel
theorem dX9_goesByCounters_139 : decode cX9_goesByCounters 139 = .ok (.iconst 1, 1) := by decide +kernel
theorem dX9_goesByCounters_140 : decode cX9_goesByCounters 140 = .ok (.goto 4, 3) := by decide +kernel
theorem dX9_goesByCounters_143 : decode cX9_goesByCounters 143 = .ok (.iconst (-1), 1) := by decide +kernel
theorem dX9_goesByCounters_144 : decode cX9_goesByCounters 144 = .ok (.iadd, 1) := by decide +kernel
theorem dX9_goesByCounters_145 : decode cX9_goesByCounters 145 = .ok (.iastore, 1) := by decide +kernel
theorem dX9_goesByCounters_146 : decode cX9_goesByCounters 146 = .ok (.iload 4, 2) := by decide +kernel
theorem dX9_goesByCounters_148 : decode cX9_goesByCounters 148 = .ok (.aload_n 0, 1) := by decide +kernel
theorem dX9_goesByCounters_149 : decode cX9_goesByCounters 149 = .ok (.getfield 38, 3) := by decide +kernel
theorem dX9_goesByCounters_152 : decode cX9_goesByCounters 152 = .ok (.iload 5, 2) := by decide +kernel
theorem dX9_goesByCounters_154 : decode cX9_goesByCounters 154 = .ok (.iaload, 1) := by decide +kernel
theorem dX9_goesByCounters_155 : decode cX9_goesByCounters 155 = .ok (.iconst 1, 1) := by decide +kernel
theorem dX9_goesByCounters_156 : decode cX9_goesByCounters 156 = .ok (.iadd, 1) := by decide +kernel
theorem dX9_goesByCounters_157 : decode cX9_goesByCounters 157 = .ok (.invokestatic 267, 3) := by decide +kernel
theorem dX9_goesByCounters_160 : decode cX9_goesByCounters 160 = .ok (.istore 4, 2) := by decide +kernel
theorem dX9_goesByCounters_162 : decode cX9_goesByCounters 162 = .ok (.iinc 5 1, 3) := by decide +kernel
theorem dX9_goesByCounters_165 : decode cX9_goesByCounters 165 = .ok (.goto (-106), 3) := by decide +kernel
theorem dX9_goesByCounters_168 : decode cX9_goesByCounters 168 = .ok (.aload_n 0, 1) := by decide +kernel
theorem dX9_goesByCounters_169 : decode cX9_goesByCounters 169 = .ok (.getfield 53, 3) := by decide +kernel
theorem dX9_goesByCounters_172 : decode cX9_goesByCounters 172 = .ok (.iload_n 1, 1) := by decide +kernel
theorem dX9_goesByCounters_173 : decode cX9_goesByCounters 173 = .ok (.iload 4, 2) := by decide +kernel
theorem dX9_goesByCounters_175 : decode cX9_goesByCounters 175 = .ok (.iastore, 1) := by decide +kernel
theorem dX9_goesByCounters_176 : decode cX9_goesByCounters 176 = .ok (.return_, 1) := by decide +kernel
theorem dX9_goesByGroups_0 : decode cX9_goesByGroups 0 = .ok (.aload_n 0, 1) := by decide +kernel
theorem dX9_goesByGroups_1 : decode cX9_goesByGroups 1 = .ok (.getfield 221, 3) := by decide +kernel
theorem dX9_goesByGroups_4 : decode cX9_goesByGroups 4 = .ok (.ifCond .ne 8, 3) := by decide +kernel
theorem dX9_goesByGroups_7 : decode cX9_goesByGroups 7 = .ok (.aload_n 0, 1) := by decide +kernel
theorem dX9_goesByGroups_8 : decode cX9_goesByGroups 8 = .ok (.iload_n 1, 1) := by decide +kernel
theorem dX9_goesByGroups_9 : decode cX9_goesByGroups 9 = .ok (.invokevirtual 270, 3) := by decide +kernel
theorem dX9_goesByGroups_12 : decode cX9_goesByGroups 12 = .ok (.aload_n 0, 1) := by decide +kernel
theorem dX9_goesByGroups_13 : decode cX9_goesByGroups 13 = .ok (.dup, 1) := by decide +kernel
theorem dX9_goesByGroups_14 : decode cX9_goesByGroups 14 = .ok (.getfield 218, 3) := by decide +kernel
theorem dX9_goesByGroups_17 : decode cX9_goesByGroups 17 = .ok (.iconst 1, 1) := by decide +kernel
theorem dX9_goesByGroups_18 : decode cX9_goesByGroups 18 = .ok (.isub, 1) := by decide +kernel
theorem dX9_goesByGroups_19 : decode cX9_goesByGroups 19 = .ok (.putfield 218, 3) := by decide +kernel
theorem dX9_goesByGroups_22 : decode cX9_goesByGroups 22 = .ok (.aload_n 0, 1) := by decide +kernel
theorem dX9_goesByGroups_23 : decode cX9_goesByGroups 23 = .ok (.iload_n 1, 1) := by decide +kernel
theorem dX9_goesByGroups_24 : decode cX9_goesByGroups 24 = .ok (.aload_n 0, 1) := by decide +kernel
theorem dX9_goesByGroups_25 : decode cX9_goesByGroups 25 = .ok (.getfield 26, 3) := by decide +kernel
theorem dX9_goesByGroups_28 : decode cX9_goesByGroups 28 = .ok (.aload_n 0, 1) := by decide +kernel
theorem dX9_goesByGroups_29 : decode cX9_goesByGroups 29 = .ok (.getfield 218, 3) := by decide +kernel
theorem dX9_goesByGroups_32 : decode cX9_goesByGroups 32 = .ok (.iaload, 1) := by decide +kernel
theorem dX9_goesByGroups_33 : decode cX9_goesByGroups 33 = .ok (.invokevirtual 261, 3) := by decide +kernel
theorem dX9_goesByGroups_36 : decode cX9_goesByGroups 36 = .ok (.istore_n 2, 1) := by decide +kernel
theorem dX9_goesByGroups_37 : decode cX9_goesByGroups 37 = .ok (.iload_n 2, 1) := by decide +kernel
theorem dX9_goesByGroups_38 : decode cX9_goesByGroups 38 = .ok (.iconst 2, 1) := by decide +kernel
theorem dX9_goesByGroups_39 : decode cX9_goesByGroups 39 = .ok (.if_icmp .ne 30, 3) := by decide +kernel
theorem dX9_goesByGroups_42 : decode cX9_goesByGroups 42 = .ok (.aload_n 0, 1) := by decide +kernel
theorem dX9_goesByGroups_43 : decode cX9_goesByGroups 43 = .ok (.dup, 1) := by decide +kernel
theorem dX9_goesByGroups_44 : decode cX9_goesByGroups 44 = .ok (.getfield 218, 3) := by decide +kernel
theorem dX9_goesByGroups_47 : decode cX9_goesByGroups 47 = .ok (.iconst 1, 1) := by decide +kernel
theorem dX9_goesByGroups_48 : decode cX9_goesByGroups 48 = .ok (.iadd, 1) := by decide +kernel
theorem dX9_goesByGroups_49 : decode cX9_goesByGroups 49 = .ok (.putfield 218, 3) := by decide +kernel
theorem dX9_goesByGroups_52 : decode cX9_goesByGroups 52 = .ok (.aload_n 0, 1) := by decide +kernel
theorem dX9_goesByGroups_53 : decode cX9_goesByGroups 53 = .ok (.invokevirtual 273, 3) := by decide +kernel
theorem dX9_goesByGroups_56 : decode cX9_goesByGroups 56 = .ok (.aload_n 0, 1) := by decide +kernel
theorem dX9_goesByGroups_57 : decode cX9_goesByGroups 57 = .ok (.iconst 1, 1) := by decide +kernel
theorem dX9_goesByGroups_58 : decode cX9_goesByGroups 58 = .ok (.putfield 224, 3) := by decide +kernel
theorem dX9_goesByGroups_61 : decode cX9_goesByGroups 61 = .ok (.aload_n 0, 1) := by decide +kernel
theorem dX9_goesByGroups_62 : decode cX9_goesByGroups 62 = .ok (.iconst 0, 1) := by decide +kernel
theorem dX9_goesByGroups_63 : decode cX9_goesByGroups 63 = .ok (.putfield 227, 3) := by decide +kernel
theorem dX9_goesByGroups_66 : decode cX9_goesByGroups 66 = .ok (.goto 84, 3) := by decide +kernel
theorem dX9_goesByGroups_69 : decode cX9_goesByGroups 69 = .ok (.iload_n 2, 1) := by decide +kernel
theorem dX9_goesByGroups_70 : decode cX9_goesByGroups 70 = .ok (.iconst 1, 1) := by decide +kernel
theorem dX9_goesByGroups_71 : decode cX9_goesByGroups 71 = .ok (.if_icmp .ne 16, 3) := by decide +kernel
theorem dX9_goesByGroups_74 : decode cX9_goesByGroups 74 = .ok (.aload_n 0, 1) := by decide +kernel
theorem dX9_goesByGroups_75 : decode cX9_goesByGroups 75 = .ok (.iconst 0, 1) := by decide +kernel
theorem dX9_goesByGroups_76 : decode cX9_goesByGroups 76 = .ok (.putfield 224, 3) := by decide +kernel
theorem dX9_goesByGroups_79 : decode cX9_goesByGroups 79 = .ok (.aload_n 0, 1) := by decide +kernel
theorem dX9_goesByGroups_80 : decode cX9_goesByGroups 80 = .ok (.iconst 0, 1) := by decide +kernel
theorem dX9_goesByGroups_81 : decode cX9_goesByGroups 81 = .ok (.putfield 227, 3) := by decide +kernel
theorem dX9_goesByGroups_84 : decode cX9_goesByGroups 84 = .ok (.goto 66, 3) := by decide +kernel
theorem dX9_goesByGroups_87 : decode cX9_goesByGroups 87 = .ok (.aload_n 0, 1) := by decide +kernel
theorem dX9_goesByGroups_88 : decode cX9_goesByGroups 88 = .ok (.getfield 224, 3) := by decide +kernel
theorem dX9_goesByGroups_91 : decode cX9_goesByGroups 91 = .ok (.ifCond .eq 54, 3) := by decide +kernel
theorem dX9_goesByGroups_94 : decode cX9_goesByGroups 94 = .ok (.aload_n 0, 1) := by decide +kernel
theorem dX9_goesByGroups_95 : decode cX9_goesByGroups 95 = .ok (.getfield 209, 3) := by decide +kernel
theorem dX9_goesByGroups_98 : decode cX9_goesByGroups 98 = .ok (.ifCond .eq 47, 3) := by decide +kernel
theorem dX9_goesByGroups_101 : decode cX9_goesByGroups 101 = .ok (.aload_n 0, 1) := by decide +kernel
theorem dX9_goesByGroups_102 : decode cX9_goesByGroups 102 = .ok (.getfield 218, 3) := by decide +kernel
theorem dX9_goesByGroups_105 : decode cX9_goesByGroups 105 = .ok (.ifCond .le 40, 3) := by decide +kernel
theorem dX9_goesByGroups_108 : decode cX9_goesByGroups 108 = .ok (.aload_n 0, 1) := by decide +kernel
theorem dX9_goesByGroups_109 : decode cX9_goesByGroups 109 = .ok (.getfield 227, 3) := by decide +kernel
theorem dX9_goesByGroups_112 : decode cX9_goesByGroups 112 = .ok (.aload_n 0, 1) := by decide +kernel
theorem dX9_goesByGroups_113 : decode cX9_goesByGroups 113 = .ok (.getfield 9, 3) := by decide +kernel
theorem dX9_goesByGroups_116 : decode cX9_goesByGroups 116 = .ok (.iconst 2, 1) := by decide +kernel
theorem dX9_goesByGroups_117 : decode cX9_goesByGroups 117 = .ok (.iaload, 1) := by decide +kernel
theorem dX9_goesByGroups_118 : decode cX9_goesByGroups 118 = .ok (.if_icmp .ge 27, 3) := by decide +kernel
theorem dX9_goesByGroups_121 : decode cX9_goesByGroups 121 = .ok (.aload_n 0, 1) := by decide +kernel
theorem dX9_goesByGroups_122 : decode cX9_goesByGroups 122 = .ok (.invokevirtual 273, 3) := by decide +kernel
theorem dX9_goesByGroups_125 : decode cX9_goesByGroups 125 = .ok (.aload_n 0, 1) := by decide +kernel
theorem dX9_goesByGroups_126 : decode cX9_goesByGroups 126 = .ok (.dup, 1) := by decide +kernel
theorem dX9_goesByGroups_127 : decode cX9_goesByGroups 127 = .ok (.getfield 227, 3) := by decide +kernel
theorem dX9_goesByGroups_130 : decode cX9_goesByGroups 130 = .ok (.iconst 1, 1) := by decide +kernel
theorem dX9_goesByGroups_131 : decode cX9_goesByGroups 131 = .ok (.iadd, 1) := by decide +kernel
theorem dX9_goesByGroups_132 : decode cX9_goesByGroups 132 = .ok (.putfield 227, 3) := by decide +kernel
theorem dX9_goesByGroups_135 : decode cX9_goesByGroups 135 = .ok (.aload_n 0, 1) := by decide +kernel
theorem dX9_goesByGroups_136 : decode cX9_goesByGroups 136 = .ok (.getfield 56, 3) := by decide +kernel
theorem dX9_goesByGroups_139 : decode cX9_goesByGroups 139 = .ok (.iload_n 1, 1) := by decide +kernel
theorem dX9_goesByGroups_140 : decode cX9_goesByGroups 140 = .ok (.iconst 1, 1) := by decide +kernel
theorem dX9_goesByGroups_141 : decode cX9_goesByGroups 141 = .ok (.iastore, 1) := by decide +kernel
theorem dX9_goesByGroups_142 : decode cX9_goesByGroups 142 = .ok (.goto 8, 3) := by decide +kernel
theorem dX9_goesByGroups_145 : decode cX9_goesByGroups 145 = .ok (.aload_n 0, 1) := by decide +kernel
theorem dX9_goesByGroups_146 : decode cX9_goesByGroups 146 = .ok (.iconst 0, 1) := by decide +kernel
theorem dX9_goesByGroups_147 : decode cX9_goesByGroups 147 = .ok (.putfield 224, 3) := by decide +kernel
theorem dX9_goesByGroups_150 : decode cX9_goesByGroups 150 = .ok (.aload_n 0, 1) := by decide +kernel
theorem dX9_goesByGroups_151 : decode cX9_goesByGroups 151 = .ok (.getfield 53, 3) := by decide +kernel
theorem dX9_goesByGroups_154 : decode cX9_goesByGroups 154 = .ok (.iload_n 1, 1) := by decide +kernel
theorem dX9_goesByGroups_155 : decode cX9_goesByGroups 155 = .ok (.aload_n 0, 1) := by decide +kernel
theorem dX9_goesByGroups_156 : decode cX9_goesByGroups 156 = .ok (.getfield 218, 3) := by decide +kernel
theorem dX9_goesByGroups_159 : decode cX9_goesByGroups 159 = .ok (.iastore, 1) := by decide +kernel
theorem dX9_goesByGroups_160 : decode cX9_goesByGroups 160 = .ok (.aload_n 0, 1) := by decide +kernel
theorem dX9_goesByGroups_161 : decode cX9_goesByGroups 161 = .ok (.getfield 218, 3) := by decide +kernel
theorem dX9_goesByGroups_164 : decode cX9_goesByGroups 164 = .ok (.ifCond .ne 8, 3) := by decide +kernel
theorem dX9_goesByGroups_167 : decode cX9_goesByGroups 167 = .ok (.aload_n 0, 1) := by decide +kernel
theorem dX9_goesByGroups_168 : decode cX9_goesByGroups 168 = .ok (.iload_n 1, 1) := by decide +kernel
theorem dX9_goesByGroups_169 : decode cX9_goesByGroups 169 = .ok (.invokevirtual 276, 3) := by decide +kernel
theorem dX9_goesByGroups_172 : decode cX9_goesByGroups 172 = .ok (.return_, 1) := by decide +kernel
theorem dX9_begins_0 : decode cX9_begins 0 = .ok (.aload_n 0, 1) := by decide +kernel
theorem dX9_begins_1 : decode cX9_begins 1 = .ok (.iconst 1, 1) := by decide +kernel
theorem dX9_begins_2 : decode cX9_begins 2 = .ok (.putfield 221, 3) := by decide +kernel
theorem dX9_begins_5 : decode cX9_begins 5 = .ok (.aload_n 0, 1) := by decide +kernel
theorem dX9_begins_6 : decode cX9_begins 6 = .ok (.iconst 0, 1) := by decide +kernel
theorem dX9_begins_7 : decode cX9_begins 7 = .ok (.putfield 224, 3) := by decide +kernel
theorem dX9_begins_10 : decode cX9_begins 10 = .ok (.aload_n 0, 1) := by decide +kernel
theorem dX9_begins_11 : decode cX9_begins 11 = .ok (.iconst 0, 1) := by decide +kernel
theorem dX9_begins_12 : decode cX9_begins 12 = .ok (.putfield 227, 3) := by decide +kernel
theorem dX9_begins_15 : decode cX9_begins 15 = .ok (.aload_n 0, 1) := by decide +kernel
theorem dX9_begins_16 : decode cX9_begins 16 = .ok (.getfield 243, 3) := by decide +kernel
theorem dX9_begins_19 : decode cX9_begins 19 = .ok (.istore_n 2, 1) := by decide +kernel
theorem dX9_begins_20 : decode cX9_begins 20 = .ok (.iconst 0, 1) := by decide +kernel
theorem dX9_begins_21 : decode cX9_begins 21 = .ok (.istore_n 3, 1) := by decide +kernel
theorem dX9_begins_22 : decode cX9_begins 22 = .ok (.iconst 0, 1) := by decide +kernel
theorem dX9_begins_23 : decode cX9_begins 23 = .ok (.istore 4, 2) := by decide +kernel
theorem dX9_begins_25 : decode cX9_begins 25 = .ok (.aload_n 0, 1) := by decide +kernel
theorem dX9_begins_26 : decode cX9_begins 26 = .ok (.getfield 209, 3) := by decide +kernel
theorem dX9_begins_29 : decode cX9_begins 29 = .ok (.iconst 3, 1) := by decide +kernel
theorem dX9_begins_30 : decode cX9_begins 30 = .ok (.if_icmp .ne 52, 3) := by decide +kernel
theorem dX9_begins_33 : decode cX9_begins 33 = .ok (.aload_n 0, 1) := by decide +kernel
theorem dX9_begins_34 : decode cX9_begins 34 = .ok (.getfield 230, 3) := by decide +kernel
theorem dX9_begins_37 : decode cX9_begins 37 = .ok (.istore_n 3, 1) := by decide +kernel
theorem dX9_begins_38 : decode cX9_begins 38 = .ok (.aload_n 0, 1) := by decide +kernel
theorem dX9_begins_39 : decode cX9_begins 39 = .ok (.getfield 230, 3) := by decide +kernel
theorem dX9_begins_42 : decode cX9_begins 42 = .ok (.bipush 16, 2) := by decide +kernel
theorem dX9_begins_44 : decode cX9_begins 44 = .ok (.aload_n 0, 1) := by decide +kernel
theorem dX9_begins_45 : decode cX9_begins 45 = .ok (.getfield 9, 3) := by decide +kernel
theorem dX9_begins_48 : decode cX9_begins 48 = .ok (.iconst 3, 1) := by decide +kernel
theorem dX9_begins_49 : decode cX9_begins 49 = .ok (.iaload, 1) := by decide +kernel
theorem dX9_begins_50 : decode cX9_begins 50 = .ok (.imul, 1) := by decide +kernel
theorem dX9_begins_51 : decode cX9_begins 51 = .ok (.iadd, 1) := by decide +kernel
theorem dX9_begins_52 : decode cX9_begins 52 = .ok (.bipush 16, 2) := by decide +kernel
theorem dX9_begins_54 : decode cX9_begins 54 = .ok (.iload_n 1, 1) := by decide +kernel
theorem dX9_begins_55 : decode cX9_begins 55 = .ok (.imul, 1) := by decide +kernel
theorem dX9_begins_56 : decode cX9_begins 56 = .ok (.bipush 16, 2) := by decide +kernel
theorem dX9_begins_58 : decode cX9_begins 58 = .ok (.iadd, 1) := by decide +kernel
theorem dX9_begins_59 : decode cX9_begins 59 = .ok (.invokestatic 105, 3) := by decide +kernel
theorem dX9_begins_62 : decode cX9_begins 62 = .ok (.istore 4, 2) := by decide +kernel
theorem dX9_begins_64 : decode cX9_begins 64 = .ok (.aload_n 0, 1) := by decide +kernel
theorem dX9_begins_65 : decode cX9_begins 65 = .ok (.iload 4, 2) := by decide +kernel
theorem dX9_begins_67 : decode cX9_begins 67 = .ok (.putfield 230, 3) := by decide +kernel
theorem dX9_begins_70 : decode cX9_begins 70 = .ok (.aload_n 0, 1) := by decide +kernel
theorem dX9_begins_71 : decode cX9_begins 71 = .ok (.aload_n 0, 1) := by decide +kernel
theorem dX9_begins_72 : decode cX9_begins 72 = .ok (.getfield 243, 3) := by decide +kernel
theorem dX9_begins_75 : decode cX9_begins 75 = .ok (.iload_n 3, 1) := by decide +kernel
theorem dX9_begins_76 : decode cX9_begins 76 = .ok (.iload 4, 2) := by decide +kernel
theorem dX9_begins_78 : decode cX9_begins 78 = .ok (.invokevirtual 279, 3) := by decide +kernel
theorem dX9_begins_81 : decode cX9_begins 81 = .ok (.istore_n 2, 1) := by decide +kernel
theorem dX9_begins_82 : decode cX9_begins 82 = .ok (.aload_n 0, 1) := by decide +kernel
theorem dX9_begins_83 : decode cX9_begins 83 = .ok (.getfield 26, 3) := by decide +kernel
theorem dX9_begins_86 : decode cX9_begins 86 = .ok (.iconst 0, 1) := by decide +kernel
theorem dX9_begins_87 : decode cX9_begins 87 = .ok (.iload_n 2, 1) := by decide +kernel
theorem dX9_begins_88 : decode cX9_begins 88 = .ok (.iastore, 1) := by decide +kernel
theorem dX9_begins_89 : decode cX9_begins 89 = .ok (.aload_n 0, 1) := by decide +kernel
theorem dX9_begins_90 : decode cX9_begins 90 = .ok (.getfield 29, 3) := by decide +kernel
theorem dX9_begins_93 : decode cX9_begins 93 = .ok (.iconst 0, 1) := by decide +kernel
theorem dX9_begins_94 : decode cX9_begins 94 = .ok (.iload_n 3, 1) := by decide +kernel
theorem dX9_begins_95 : decode cX9_begins 95 = .ok (.iastore, 1) := by decide +kernel
theorem dX9_begins_96 : decode cX9_begins 96 = .ok (.aload_n 0, 1) := by decide +kernel
theorem dX9_begins_97 : decode cX9_begins 97 = .ok (.getfield 32, 3) := by decide +kernel
theorem dX9_begins_100 : decode cX9_begins 100 = .ok (.iconst 0, 1) := by decide +kernel
theorem dX9_begins_101 : decode cX9_begins 101 = .ok (.iload 4, 2) := by decide +kernel
theorem dX9_begins_103 : decode cX9_begins 103 = .ok (.iastore, 1) := by decide +kernel
theorem dX9_begins_104 : decode cX9_begins 104 = .ok (.aload_n 0, 1) := by decide +kernel
theorem dX9_begins_105 : decode cX9_begins 105 = .ok (.iconst 1, 1) := by decide +kernel
theorem dX9_begins_106 : decode cX9_begins 106 = .ok (.putfield 218, 3) := by decide +kernel
theorem dX9_begins_109 : decode cX9_begins 109 = .ok (.aload_n 0, 1) := by decide +kernel
theorem dX9_begins_110 : decode cX9_begins 110 = .ok (.iload_n 2, 1) := by decide +kernel
theorem dX9_begins_111 : decode cX9_begins 111 = .ok (.ifCond .eq 7, 3) := by decide +kernel
theorem dX9_begins_114 : decode cX9_begins 114 = .ok (.iconst 1, 1) := by decide +kernel
theorem dX9_begins_115 : decode cX9_begins 115 = .ok (.goto 4, 3) := by decide +kernel
theorem dX9_begins_118 : decode cX9_begins 118 = .ok (.iconst 0, 1) := by decide +kernel
theorem dX9_begins_119 : decode cX9_begins 119 = .ok (.putfield 283, 3) := by decide +kernel
theorem dX9_begins_122 : decode cX9_begins 122 = .ok (.aload_n 0, 1) := by decide +kernel
theorem dX9_begins_123 : decode cX9_begins 123 = .ok (.getfield 283, 3) := by decide +kernel
theorem dX9_begins_126 : decode cX9_begins 126 = .ok (.ifCond .eq 43, 3) := by decide +kernel
theorem dX9_begins_129 : decode cX9_begins 129 = .ok (.aload_n 0, 1) := by decide +kernel
theorem dX9_begins_130 : decode cX9_begins 130 = .ok (.getfield 59, 3) := by decide +kernel
theorem dX9_begins_133 : decode cX9_begins 133 = .ok (.aload_n 0, 1) := by decide +kernel
theorem dX9_begins_134 : decode cX9_begins 134 = .ok (.getfield 233, 3) := by decide +kernel
theorem dX9_begins_137 : decode cX9_begins 137 = .ok (.iload_n 1, 1) := by decide +kernel
theorem dX9_begins_138 : decode cX9_begins 138 = .ok (.iastore, 1) := by decide +kernel
theorem dX9_begins_139 : decode cX9_begins 139 = .ok (.aload_n 0, 1) := by decide +kernel
theorem dX9_begins_140 : decode cX9_begins 140 = .ok (.getfield 62, 3) := by decide +kernel
theorem dX9_begins_143 : decode cX9_begins 143 = .ok (.aload_n 0, 1) := by decide +kernel
theorem dX9_begins_144 : decode cX9_begins 144 = .ok (.getfield 233, 3) := by decide +kernel
theorem dX9_begins_147 : decode cX9_begins 147 = .ok (.iconst (-1), 1) := by decide +kernel
theorem dX9_begins_148 : decode cX9_begins 148 = .ok (.iastore, 1) := by decide +kernel
theorem dX9_begins_149 : decode cX9_begins 149 = .ok (.aload_n 0, 1) := by decide +kernel
theorem dX9_begins_150 : decode cX9_begins 150 = .ok (.getfield 65, 3) := by decide +kernel
theorem dX9_begins_153 : decode cX9_begins 153 = .ok (.aload_n 0, 1) := by decide +kernel
theorem dX9_begins_154 : decode cX9_begins 154 = .ok (.getfield 233, 3) := by decide +kernel
theorem dX9_begins_157 : decode cX9_begins 157 = .ok (.iload_n 2, 1) := by decide +kernel
theorem dX9_begins_158 : decode cX9_begins 158 = .ok (.iastore, 1) := by decide +kernel
theorem dX9_begins_159 : decode cX9_begins 159 = .ok (.aload_n 0, 1) := by decide +kernel
theorem dX9_begins_160 : decode cX9_begins 160 = .ok (.dup, 1) := by decide +kernel
theorem dX9_begins_161 : decode cX9_begins 161 = .ok (.getfield 233, 3) := by decide +kernel
theorem dX9_begins_164 : decode cX9_begins 164 = .ok (.iconst 1, 1) := by decide +kernel
theorem dX9_begins_165 : decode cX9_begins 165 = .ok (.iadd, 1) := by decide +kernel
theorem dX9_begins_166 : decode cX9_begins 166 = .ok (.putfield 233, 3) := by decide +kernel
theorem dX9_begins_169 : decode cX9_begins 169 = .ok (.return_, 1) := by decide +kernel
theorem dX9_ends_0 : decode cX9_ends 0 = .ok (.aload_n 0, 1) := by decide +kernel
theorem dX9_ends_1 : decode cX9_ends 1 = .ok (.iconst 0, 1) := by decide +kernel
theorem dX9_ends_2 : decode cX9_ends 2 = .ok (.putfield 221, 3) := by decide +kernel
theorem dX9_ends_5 : decode cX9_ends 5 = .ok (.aload_n 0, 1) := by decide +kernel
theorem dX9_ends_6 : decode cX9_ends 6 = .ok (.getfield 283, 3) := by decide +kernel
theorem dX9_ends_9 : decode cX9_ends 9 = .ok (.ifCond .eq 15, 3) := by decide +kernel
theorem dX9_ends_12 : decode cX9_ends 12 = .ok (.aload_n 0, 1) := by decide +kernel
theorem dX9_ends_13 : decode cX9_ends 13 = .ok (.getfield 62, 3) := by decide +kernel
theorem dX9_ends_16 : decode cX9_ends 16 = .ok (.aload_n 0, 1) := by decide +kernel
theorem dX9_ends_17 : decode cX9_ends 17 = .ok (.getfield 233, 3) := by decide +kernel
theorem dX9_ends_20 : decode cX9_ends 20 = .ok (.iconst 1, 1) := by decide +kernel
theorem dX9_ends_21 : decode cX9_ends 21 = .ok (.isub, 1) := by decide +kernel
theorem dX9_ends_22 : decode cX9_ends 22 = .ok (.iload_n 1, 1) := by decide +kernel
theorem dX9_ends_23 : decode cX9_ends 23 = .ok (.iastore, 1) := by decide +kernel
theorem dX9_ends_24 : decode cX9_ends 24 = .ok (.iconst 0, 1) := by decide +kernel
theorem dX9_ends_25 : decode cX9_ends 25 = .ok (.istore_n 2, 1) := by decide +kernel
theorem dX9_ends_26 : decode cX9_ends 26 = .ok (.iload_n 2, 1) := by decide +kernel
theorem dX9_ends_27 : decode cX9_ends 27 = .ok (.aload_n 0, 1) := by decide +kernel
theorem dX9_ends_28 : decode cX9_ends 28 = .ok (.getfield 9, 3) := by decide +kernel
theorem dX9_ends_31 : decode cX9_ends 31 = .ok (.iconst 4, 1) := by decide +kernel
theorem dX9_ends_32 : decode cX9_ends 32 = .ok (.iaload, 1) := by decide +kernel
theorem dX9_ends_33 : decode cX9_ends 33 = .ok (.if_icmp .ge 81, 3) := by decide +kernel
theorem dX9_ends_36 : decode cX9_ends 36 = .ok (.aload_n 0, 1) := by decide +kernel
theorem dX9_ends_37 : decode cX9_ends 37 = .ok (.getfield 209, 3) := by decide +kernel
theorem dX9_ends_40 : decode cX9_ends 40 = .ok (.iconst 3, 1) := by decide +kernel
theorem dX9_ends_41 : decode cX9_ends 41 = .ok (.if_icmp .ne 73, 3) := by decide +kernel
theorem dX9_ends_44 : decode cX9_ends 44 = .ok (.aload_n 0, 1) := by decide +kernel
theorem dX9_ends_45 : decode cX9_ends 45 = .ok (.getfield 9, 3) := by decide +kernel
theorem dX9_ends_48 : decode cX9_ends 48 = .ok (.bipush 7, 2) := by decide +kernel
theorem dX9_ends_50 : decode cX9_ends 50 = .ok (.iload_n 2, 1) := by decide +kernel
theorem dX9_ends_51 : decode cX9_ends 51 = .ok (.iadd, 1) := by decide +kernel
theorem dX9_ends_52 : decode cX9_ends 52 = .ok (.iaload, 1) := by decide +kernel
theorem dX9_ends_53 : decode cX9_ends 53 = .ok (.iload_n 2, 1) := by decide +kernel
theorem dX9_ends_54 : decode cX9_ends 54 = .ok (.invokestatic 286, 3) := by decide +kernel
theorem dX9_ends_57 : decode cX9_ends 57 = .ok (.istore_n 3, 1) := by decide +kernel
theorem dX9_ends_58 : decode cX9_ends 58 = .ok (.aload_n 0, 1) := by decide +kernel
theorem dX9_ends_59 : decode cX9_ends 59 = .ok (.iload_n 2, 1) := by decide +kernel
theorem dX9_ends_60 : decode cX9_ends 60 = .ok (.aload_n 0, 1) := by decide +kernel
theorem dX9_ends_61 : decode cX9_ends 61 = .ok (.getfield 215, 3) := by decide +kernel
theorem dX9_ends_64 : decode cX9_ends 64 = .ok (.if_icmp .eq 37, 3) := by decide +kernel
theorem dX9_ends_67 : decode cX9_ends 67 = .ok (.aload_n 0, 1) := by decide +kernel
theorem dX9_ends_68 : decode cX9_ends 68 = .ok (.getfield 9, 3) := by decide +kernel
theorem dX9_ends_71 : decode cX9_ends 71 = .ok (.bipush 7, 2) := by decide +kernel
theorem dX9_ends_73 : decode cX9_ends 73 = .ok (.iload_n 2, 1) := by decide +kernel
theorem dX9_ends_74 : decode cX9_ends 74 = .ok (.iadd, 1) := by decide +kernel
theorem dX9_ends_75 : decode cX9_ends 75 = .ok (.iaload, 1) := by decide +kernel
theorem dX9_ends_76 : decode cX9_ends 76 = .ok (.iload_n 1, 1) := by decide +kernel
theorem dX9_ends_77 : decode cX9_ends 77 = .ok (.if_icmp .gt 24, 3) := by decide +kernel
theorem dX9_ends_80 : decode cX9_ends 80 = .ok (.aload_n 0, 1) := by decide +kernel
theorem dX9_ends_81 : decode cX9_ends 81 = .ok (.getfield 41, 3) := by decide +kernel
theorem dX9_ends_84 : decode cX9_ends 84 = .ok (.iload_n 2, 1) := by decide +kernel
theorem dX9_ends_85 : decode cX9_ends 85 = .ok (.iaload, 1) := by decide +kernel
theorem dX9_ends_86 : decode cX9_ends 86 = .ok (.iconst (-1), 1) := by decide +kernel
theorem dX9_ends_87 : decode cX9_ends 87 = .ok (.if_icmp .ne 14, 3) := by decide +kernel
theorem dX9_ends_90 : decode cX9_ends 90 = .ok (.aload_n 0, 1) := by decide +kernel
theorem dX9_ends_91 : decode cX9_ends 91 = .ok (.getfield 230, 3) := by decide +kernel
theorem dX9_ends_94 : decode cX9_ends 94 = .ok (.iload_n 3, 1) := by decide +kernel
theorem dX9_ends_95 : decode cX9_ends 95 = .ok (.invokestatic 105, 3) := by decide +kernel
theorem dX9_ends_98 : decode cX9_ends 98 = .ok (.goto 7, 3) := by decide +kernel
theorem dX9_ends_101 : decode cX9_ends 101 = .ok (.aload_n 0, 1) := by decide +kernel
theorem dX9_ends_102 : decode cX9_ends 102 = .ok (.getfield 230, 3) := by decide +kernel
theorem dX9_ends_105 : decode cX9_ends 105 = .ok (.putfield 230, 3) := by decide +kernel
theorem dX9_ends_108 : decode cX9_ends 108 = .ok (.iinc 2 1, 3) := by decide +kernel
theorem dX9_ends_111 : decode cX9_ends 111 = .ok (.goto (-85), 3) := by decide +kernel
theorem dX9_ends_114 : decode cX9_ends 114 = .ok (.return_, 1) := by decide +kernel
theorem dX9_between_0 : decode cX9_between 0 = .ok (.iconst 0, 1) := by decide +kernel
theorem dX9_between_1 : decode cX9_between 1 = .ok (.istore 4, 2) := by decide +kernel
theorem dX9_between_3 : decode cX9_between 3 = .ok (.iconst 0, 1) := by decide +kernel
theorem dX9_between_4 : decode cX9_between 4 = .ok (.istore 5, 2) := by decide +kernel
theorem dX9_between_6 : decode cX9_between 6 = .ok (.iload 5, 2) := by decide +kernel
theorem dX9_between_8 : decode cX9_between 8 = .ok (.bipush 10, 2) := by decide +kernel
theorem dX9_between_10 : decode cX9_between 10 = .ok (.if_icmp .ge 59, 3) := by decide +kernel
theorem dX9_between_13 : decode cX9_between 13 = .ok (.iload 4, 2) := by decide +kernel
theorem dX9_between_15 : decode cX9_between 15 = .ok (.iload_n 1, 1) := by decide +kernel
theorem dX9_between_16 : decode cX9_between 16 = .ok (.iload 5, 2) := by decide +kernel
theorem dX9_between_18 : decode cX9_between 18 = .ok (.invokestatic 258, 3) := by decide +kernel
theorem dX9_between_21 : decode cX9_between 21 = .ok (.ifCond .eq 38, 3) := by decide +kernel
theorem dX9_between_24 : decode cX9_between 24 = .ok (.aload_n 0, 1) := by decide +kernel
theorem dX9_between_25 : decode cX9_between 25 = .ok (.getfield 9, 3) := by decide +kernel
theorem dX9_between_28 : decode cX9_between 28 = .ok (.bipush 7, 2) := by decide +kernel
theorem dX9_between_30 : decode cX9_between 30 = .ok (.iload 5, 2) := by decide +kernel
theorem dX9_between_32 : decode cX9_between 32 = .ok (.iadd, 1) := by decide +kernel
theorem dX9_between_33 : decode cX9_between 33 = .ok (.iaload, 1) := by decide +kernel
theorem dX9_between_34 : decode cX9_between 34 = .ok (.iload 5, 2) := by decide +kernel
theorem dX9_between_36 : decode cX9_between 36 = .ok (.invokestatic 286, 3) := by decide +kernel
theorem dX9_between_39 : decode cX9_between 39 = .ok (.i2l, 1) := by decide +kernel
theorem dX9_between_40 : decode cX9_between 40 = .ok (.iload_n 2, 1) := by decide +kernel
theorem dX9_between_41 : decode cX9_between 41 = .ok (.i2l, 1) := by decide +kernel
theorem dX9_between_42 : decode cX9_between 42 = .ok (.iload_n 3, 1) := by decide +kernel
theorem dX9_between_43 : decode cX9_between 43 = .ok (.iconst 1, 1) := by decide +kernel
theorem dX9_between_44 : decode cX9_between 44 = .ok (.isub, 1) := by decide +kernel
theorem dX9_between_45 : decode cX9_between 45 = .ok (.i2l, 1) := by decide +kernel
theorem dX9_between_46 : decode cX9_between 46 = .ok (.invokestatic 84, 3) := by decide +kernel
theorem dX9_between_49 : decode cX9_between 49 = .ok (.ifCond .eq 10, 3) := by decide +kernel
theorem dX9_between_52 : decode cX9_between 52 = .ok (.iconst 1, 1) := by decide +kernel
theorem dX9_between_53 : decode cX9_between 53 = .ok (.iload 5, 2) := by decide +kernel
theorem dX9_between_55 : decode cX9_between 55 = .ok (.ishl, 1) := by decide +kernel
theorem dX9_between_56 : decode cX9_between 56 = .ok (.goto 4, 3) := by decide +kernel
theorem dX9_between_59 : decode cX9_between 59 = .ok (.iconst 0, 1) := by decide +kernel
theorem dX9_between_60 : decode cX9_between 60 = .ok (.ior, 1) := by decide +kernel
theorem dX9_between_61 : decode cX9_between 61 = .ok (.istore 4, 2) := by decide +kernel
theorem dX9_between_63 : decode cX9_between 63 = .ok (.iinc 5 1, 3) := by decide +kernel
theorem dX9_between_66 : decode cX9_between 66 = .ok (.goto (-60), 3) := by decide +kernel
theorem dX9_between_69 : decode cX9_between 69 = .ok (.iload 4, 2) := by decide +kernel
theorem dX9_between_71 : decode cX9_between 71 = .ok (.ireturn, 1) := by decide +kernel
theorem dX9_splits_0 : decode cX9_splits 0 = .ok (.aload_n 0, 1) := by decide +kernel
theorem dX9_splits_1 : decode cX9_splits 1 = .ok (.getfield 218, 3) := by decide +kernel
theorem dX9_splits_4 : decode cX9_splits 4 = .ok (.iconst 1, 1) := by decide +kernel
theorem dX9_splits_5 : decode cX9_splits 5 = .ok (.isub, 1) := by decide +kernel
theorem dX9_splits_6 : decode cX9_splits 6 = .ok (.istore_n 1, 1) := by decide +kernel
theorem dX9_splits_7 : decode cX9_splits 7 = .ok (.aload_n 0, 1) := by decide +kernel
theorem dX9_splits_8 : decode cX9_splits 8 = .ok (.getfield 26, 3) := by decide +kernel
theorem dX9_splits_11 : decode cX9_splits 11 = .ok (.iload_n 1, 1) := by decide +kernel
theorem dX9_splits_12 : decode cX9_splits 12 = .ok (.iaload, 1) := by decide +kernel
theorem dX9_splits_13 : decode cX9_splits 13 = .ok (.istore_n 2, 1) := by decide +kernel
theorem dX9_splits_14 : decode cX9_splits 14 = .ok (.iconst 0, 1) := by decide +kernel
theorem dX9_splits_15 : decode cX9_splits 15 = .ok (.istore_n 3, 1) := by decide +kernel
theorem dX9_splits_16 : decode cX9_splits 16 = .ok (.aload_n 0, 1) := by decide +kernel
theorem dX9_splits_17 : decode cX9_splits 17 = .ok (.getfield 29, 3) := by decide +kernel
theorem dX9_splits_20 : decode cX9_splits 20 = .ok (.iload_n 1, 1) := by decide +kernel
theorem dX9_splits_21 : decode cX9_splits 21 = .ok (.iaload, 1) := by decide +kernel
theorem dX9_splits_22 : decode cX9_splits 22 = .ok (.aload_n 0, 1) := by decide +kernel
theorem dX9_splits_23 : decode cX9_splits 23 = .ok (.getfield 32, 3) := by decide +kernel
theorem dX9_splits_26 : decode cX9_splits 26 = .ok (.iload_n 1, 1) := by decide +kernel
theorem dX9_splits_27 : decode cX9_splits 27 = .ok (.iaload, 1) := by decide +kernel
theorem dX9_splits_28 : decode cX9_splits 28 = .ok (.aload_n 0, 1) := by decide +kernel
theorem dX9_splits_29 : decode cX9_splits 29 = .ok (.getfield 29, 3) := by decide +kernel
theorem dX9_splits_32 : decode cX9_splits 32 = .ok (.iload_n 1, 1) := by decide +kernel
theorem dX9_splits_33 : decode cX9_splits 33 = .ok (.iaload, 1) := by decide +kernel
theorem dX9_splits_34 : decode cX9_splits 34 = .ok (.isub, 1) := by decide +kernel
theorem dX9_splits_35 : decode cX9_splits 35 = .ok (.iconst 2, 1) := by decide +kernel
theorem dX9_splits_36 : decode cX9_splits 36 = .ok (.idiv, 1) := by decide +kernel
theorem dX9_splits_37 : decode cX9_splits 37 = .ok (.iadd, 1) := by decide +kernel
theorem dX9_splits_38 : decode cX9_splits 38 = .ok (.istore 4, 2) := by decide +kernel
theorem dX9_splits_40 : decode cX9_splits 40 = .ok (.aload_n 0, 1) := by decide +kernel
theorem dX9_splits_41 : decode cX9_splits 41 = .ok (.getfield 209, 3) := by decide +kernel
theorem dX9_splits_44 : decode cX9_splits 44 = .ok (.iconst 3, 1) := by decide +kernel
theorem dX9_splits_45 : decode cX9_splits 45 = .ok (.if_icmp .ne 20, 3) := by decide +kernel
theorem dX9_splits_48 : decode cX9_splits 48 = .ok (.aload_n 0, 1) := by decide +kernel
theorem dX9_splits_49 : decode cX9_splits 49 = .ok (.iload_n 2, 1) := by decide +kernel
theorem dX9_splits_50 : decode cX9_splits 50 = .ok (.iload 4, 2) := by decide +kernel
theorem dX9_splits_52 : decode cX9_splits 52 = .ok (.aload_n 0, 1) := by decide +kernel
theorem dX9_splits_53 : decode cX9_splits 53 = .ok (.getfield 32, 3) := by decide +kernel
theorem dX9_splits_56 : decode cX9_splits 56 = .ok (.iload_n 1, 1) := by decide +kernel
theorem dX9_splits_57 : decode cX9_splits 57 = .ok (.iaload, 1) := by decide +kernel
theorem dX9_splits_58 : decode cX9_splits 58 = .ok (.invokevirtual 279, 3) := by decide +kernel
theorem dX9_splits_61 : decode cX9_splits 61 = .ok (.istore_n 3, 1) := by decide +kernel
theorem dX9_splits_62 : decode cX9_splits 62 = .ok (.goto 49, 3) := by decide +kernel
theorem dX9_splits_65 : decode cX9_splits 65 = .ok (.iconst 0, 1) := by decide +kernel
theorem dX9_splits_66 : decode cX9_splits 66 = .ok (.istore 5, 2) := by decide +kernel
theorem dX9_splits_68 : decode cX9_splits 68 = .ok (.iload 5, 2) := by decide +kernel
theorem dX9_splits_70 : decode cX9_splits 70 = .ok (.bipush 10, 2) := by decide +kernel
theorem dX9_splits_72 : decode cX9_splits 72 = .ok (.if_icmp .ge 39, 3) := by decide +kernel
theorem dX9_splits_75 : decode cX9_splits 75 = .ok (.iload_n 3, 1) := by decide +kernel
theorem dX9_splits_76 : decode cX9_splits 76 = .ok (.iload_n 2, 1) := by decide +kernel
theorem dX9_splits_77 : decode cX9_splits 77 = .ok (.iload 5, 2) := by decide +kernel
theorem dX9_splits_79 : decode cX9_splits 79 = .ok (.invokestatic 258, 3) := by decide +kernel
theorem dX9_splits_82 : decode cX9_splits 82 = .ok (.ifCond .eq 20, 3) := by decide +kernel
theorem dX9_splits_85 : decode cX9_splits 85 = .ok (.aload_n 0, 1) := by decide +kernel
theorem dX9_splits_86 : decode cX9_splits 86 = .ok (.iload 5, 2) := by decide +kernel
theorem dX9_splits_88 : decode cX9_splits 88 = .ok (.invokevirtual 264, 3) := by decide +kernel
theorem dX9_splits_91 : decode cX9_splits 91 = .ok (.iconst 1, 1) := by decide +kernel
theorem dX9_splits_92 : decode cX9_splits 92 = .ok (.if_icmp .ne 10, 3) := by decide +kernel
theorem dX9_splits_95 : decode cX9_splits 95 = .ok (.iconst 1, 1) := by decide +kernel
theorem dX9_splits_96 : decode cX9_splits 96 = .ok (.iload 5, 2) := by decide +kernel
theorem dX9_splits_98 : decode cX9_splits 98 = .ok (.ishl, 1) := by decide +kernel
theorem dX9_splits_99 : decode cX9_splits 99 = .ok (.goto 4, 3) := by decide +kernel
theorem dX9_splits_102 : decode cX9_splits 102 = .ok (.iconst 0, 1) := by decide +kernel
theorem dX9_splits_103 : decode cX9_splits 103 = .ok (.ior, 1) := by decide +kernel
theorem dX9_splits_104 : decode cX9_splits 104 = .ok (.istore_n 3, 1) := by decide +kernel
theorem dX9_splits_105 : decode cX9_splits 105 = .ok (.iinc 5 1, 3) := by decide +kernel
theorem dX9_splits_108 : decode cX9_splits 108 = .ok (.goto (-40), 3) := by decide +kernel
theorem dX9_splits_111 : decode cX9_splits 111 = .ok (.aload_n 0, 1) := by decide +kernel
theorem dX9_splits_112 : decode cX9_splits 112 = .ok (.getfield 26, 3) := by decide +kernel
theorem dX9_splits_115 : decode cX9_splits 115 = .ok (.iload_n 1, 1) := by decide +kernel
theorem dX9_splits_116 : decode cX9_splits 116 = .ok (.iconst 1, 1) := by decide +kernel
theorem dX9_splits_117 : decode cX9_splits 117 = .ok (.iadd, 1) := by decide +kernel
theorem dX9_splits_118 : decode cX9_splits 118 = .ok (.iload_n 2, 1) := by decide +kernel
theorem dX9_splits_119 : decode cX9_splits 119 = .ok (.iload_n 3, 1) := by decide +kernel
theorem dX9_splits_120 : decode cX9_splits 120 = .ok (.iconst (-1), 1) := by decide +kernel
theorem dX9_splits_121 : decode cX9_splits 121 = .ok (.ixor, 1) := by decide +kernel
theorem dX9_splits_122 : decode cX9_splits 122 = .ok (.iand, 1) := by decide +kernel
theorem dX9_splits_123 : decode cX9_splits 123 = .ok (.iastore, 1) := by decide +kernel
theorem dX9_splits_124 : decode cX9_splits 124 = .ok (.aload_n 0, 1) := by decide +kernel
theorem dX9_splits_125 : decode cX9_splits 125 = .ok (.getfield 29, 3) := by decide +kernel
theorem dX9_splits_128 : decode cX9_splits 128 = .ok (.iload_n 1, 1) := by decide +kernel
theorem dX9_splits_129 : decode cX9_splits 129 = .ok (.iconst 1, 1) := by decide +kernel
theorem dX9_splits_130 : decode cX9_splits 130 = .ok (.iadd, 1) := by decide +kernel
theorem dX9_splits_131 : decode cX9_splits 131 = .ok (.aload_n 0, 1) := by decide +kernel
theorem dX9_splits_132 : decode cX9_splits 132 = .ok (.getfield 29, 3) := by decide +kernel
theorem dX9_splits_135 : decode cX9_splits 135 = .ok (.iload_n 1, 1) := by decide +kernel
theorem dX9_splits_136 : decode cX9_splits 136 = .ok (.iaload, 1) := by decide +kernel
theorem dX9_splits_137 : decode cX9_splits 137 = .ok (.iastore, 1) := by decide +kernel
theorem dX9_splits_138 : decode cX9_splits 138 = .ok (.aload_n 0, 1) := by decide +kernel
theorem dX9_splits_139 : decode cX9_splits 139 = .ok (.getfield 32, 3) := by decide +kernel
theorem dX9_splits_142 : decode cX9_splits 142 = .ok (.iload_n 1, 1) := by decide +kernel
theorem dX9_splits_143 : decode cX9_splits 143 = .ok (.iconst 1, 1) := by decide +kernel
theorem dX9_splits_144 : decode cX9_splits 144 = .ok (.iadd, 1) := by decide +kernel
theorem dX9_splits_145 : decode cX9_splits 145 = .ok (.iload 4, 2) := by decide +kernel
theorem dX9_splits_147 : decode cX9_splits 147 = .ok (.iastore, 1) := by decide +kernel
theorem dX9_splits_148 : decode cX9_splits 148 = .ok (.aload_n 0, 1) := by decide +kernel
theorem dX9_splits_149 : decode cX9_splits 149 = .ok (.getfield 26, 3) := by decide +kernel
theorem dX9_splits_152 : decode cX9_splits 152 = .ok (.iload_n 1, 1) := by decide +kernel
theorem dX9_splits_153 : decode cX9_splits 153 = .ok (.iload_n 3, 1) := by decide +kernel
theorem dX9_splits_154 : decode cX9_splits 154 = .ok (.iastore, 1) := by decide +kernel
theorem dX9_splits_155 : decode cX9_splits 155 = .ok (.aload_n 0, 1) := by decide +kernel
theorem dX9_splits_156 : decode cX9_splits 156 = .ok (.getfield 29, 3) := by decide +kernel
theorem dX9_splits_159 : decode cX9_splits 159 = .ok (.iload_n 1, 1) := by decide +kernel
theorem dX9_splits_160 : decode cX9_splits 160 = .ok (.iload 4, 2) := by decide +kernel
theorem dX9_splits_162 : decode cX9_splits 162 = .ok (.iastore, 1) := by decide +kernel
theorem dX9_splits_163 : decode cX9_splits 163 = .ok (.aload_n 0, 1) := by decide +kernel
theorem dX9_splits_164 : decode cX9_splits 164 = .ok (.dup, 1) := by decide +kernel
theorem dX9_splits_165 : decode cX9_splits 165 = .ok (.getfield 218, 3) := by decide +kernel
theorem dX9_splits_168 : decode cX9_splits 168 = .ok (.iconst 1, 1) := by decide +kernel
theorem dX9_splits_169 : decode cX9_splits 169 = .ok (.iadd, 1) := by decide +kernel
theorem dX9_splits_170 : decode cX9_splits 170 = .ok (.putfield 218, 3) := by decide +kernel
theorem dX9_splits_173 : decode cX9_splits 173 = .ok (.return_, 1) := by decide +kernel
theorem dX9_isSlot_0 : decode cX9_isSlot 0 = .ok (.aload_n 0, 1) := by decide +kernel
theorem dX9_isSlot_1 : decode cX9_isSlot 1 = .ok (.invokevirtual 289, 3) := by decide +kernel
theorem dX9_isSlot_4 : decode cX9_isSlot 4 = .ok (.ifCond .eq 25, 3) := by decide +kernel
theorem dX9_isSlot_7 : decode cX9_isSlot 7 = .ok (.iload_n 1, 1) := by decide +kernel
theorem dX9_isSlot_8 : decode cX9_isSlot 8 = .ok (.i2l, 1) := by decide +kernel
theorem dX9_isSlot_9 : decode cX9_isSlot 9 = .ok (.lconst 0, 1) := by decide +kernel
theorem dX9_isSlot_10 : decode cX9_isSlot 10 = .ok (.aload_n 0, 1) := by decide +kernel
theorem dX9_isSlot_11 : decode cX9_isSlot 11 = .ok (.getfield 9, 3) := by decide +kernel
theorem dX9_isSlot_14 : decode cX9_isSlot 14 = .ok (.iconst 1, 1) := by decide +kernel
theorem dX9_isSlot_15 : decode cX9_isSlot 15 = .ok (.iaload, 1) := by decide +kernel
theorem dX9_isSlot_16 : decode cX9_isSlot 16 = .ok (.iconst 1, 1) := by decide +kernel
theorem dX9_isSlot_17 : decode cX9_isSlot 17 = .ok (.isub, 1) := by decide +kernel
theorem dX9_isSlot_18 : decode cX9_isSlot 18 = .ok (.i2l, 1) := by decide +kernel
theorem dX9_isSlot_19 : decode cX9_isSlot 19 = .ok (.invokestatic 84, 3) := by decide +kernel
theorem dX9_isSlot_22 : decode cX9_isSlot 22 = .ok (.ifCond .eq 7, 3) := by decide +kernel
theorem dX9_isSlot_25 : decode cX9_isSlot 25 = .ok (.iconst 1, 1) := by decide +kernel
theorem dX9_isSlot_26 : decode cX9_isSlot 26 = .ok (.goto 4, 3) := by decide +kernel
theorem dX9_isSlot_29 : decode cX9_isSlot 29 = .ok (.iconst 0, 1) := by decide +kernel
theorem dX9_isSlot_30 : decode cX9_isSlot 30 = .ok (.ireturn, 1) := by decide +kernel
theorem dX9_slot_0 : decode cX9_slot 0 = .ok (.aload_n 0, 1) := by decide +kernel
theorem dX9_slot_1 : decode cX9_slot 1 = .ok (.iload_n 1, 1) := by decide +kernel
theorem dX9_slot_2 : decode cX9_slot 2 = .ok (.invokevirtual 293, 3) := by decide +kernel
theorem dX9_slot_5 : decode cX9_slot 5 = .ok (.ifCond .eq 15, 3) := by decide +kernel
theorem dX9_slot_8 : decode cX9_slot 8 = .ok (.iload_n 2, 1) := by decide +kernel
theorem dX9_slot_9 : decode cX9_slot 9 = .ok (.i2l, 1) := by decide +kernel
theorem dX9_slot_10 : decode cX9_slot 10 = .ok (.lconst 0, 1) := by decide +kernel
theorem dX9_slot_11 : decode cX9_slot 11 = .ok (.ldc2_w 296, 3) := by decide +kernel
theorem dX9_slot_14 : decode cX9_slot 14 = .ok (.invokestatic 84, 3) := by decide +kernel
theorem dX9_slot_17 : decode cX9_slot 17 = .ok (.ifCond .ne 6, 3) := by decide +kernel
theorem dX9_slot_20 : decode cX9_slot 20 = .ok (.bipush (-2), 2) := by decide +kernel
theorem dX9_slot_22 : decode cX9_slot 22 = .ok (.ireturn, 1) := by decide +kernel
theorem dX9_slot_23 : decode cX9_slot 23 = .ok (.aload_n 0, 1) := by decide +kernel
theorem dX9_slot_24 : decode cX9_slot 24 = .ok (.invokevirtual 298, 3) := by decide +kernel
theorem dX9_slot_27 : decode cX9_slot 27 = .ok (.iload_n 2, 1) := by decide +kernel
theorem dX9_slot_28 : decode cX9_slot 28 = .ok (.tableswitch 63 0 3 #[32, 42, 49, 56], 32) := by decide +kernel
theorem dX9_slot_60 : decode cX9_slot 60 = .ok (.aload_n 0, 1) := by decide +kernel
theorem dX9_slot_61 : decode cX9_slot 61 = .ok (.getfield 44, 3) := by decide +kernel
theorem dX9_slot_64 : decode cX9_slot 64 = .ok (.iload_n 1, 1) := by decide +kernel
theorem dX9_slot_65 : decode cX9_slot 65 = .ok (.iaload, 1) := by decide +kernel
theorem dX9_slot_66 : decode cX9_slot 66 = .ok (.invokestatic 252, 3) := by decide +kernel
theorem dX9_slot_69 : decode cX9_slot 69 = .ok (.ireturn, 1) := by decide +kernel
theorem dX9_slot_70 : decode cX9_slot 70 = .ok (.aload_n 0, 1) := by decide +kernel
theorem dX9_slot_71 : decode cX9_slot 71 = .ok (.getfield 47, 3) := by decide +kernel
theorem dX9_slot_74 : decode cX9_slot 74 = .ok (.iload_n 1, 1) := by decide +kernel
theorem dX9_slot_75 : decode cX9_slot 75 = .ok (.iaload, 1) := by decide +kernel
theorem dX9_slot_76 : decode cX9_slot 76 = .ok (.ireturn, 1) := by decide +kernel
theorem dX9_slot_77 : decode cX9_slot 77 = .ok (.aload_n 0, 1) := by decide +kernel
theorem dX9_slot_78 : decode cX9_slot 78 = .ok (.getfield 50, 3) := by decide +kernel
theorem dX9_slot_81 : decode cX9_slot 81 = .ok (.iload_n 1, 1) := by decide +kernel
theorem dX9_slot_82 : decode cX9_slot 82 = .ok (.iaload, 1) := by decide +kernel
theorem dX9_slot_83 : decode cX9_slot 83 = .ok (.ireturn, 1) := by decide +kernel
theorem dX9_slot_84 : decode cX9_slot 84 = .ok (.aload_n 0, 1) := by decide +kernel
theorem dX9_slot_85 : decode cX9_slot 85 = .ok (.getfield 53, 3) := by decide +kernel
theorem dX9_slot_88 : decode cX9_slot 88 = .ok (.iload_n 1, 1) := by decide +kernel
theorem dX9_slot_89 : decode cX9_slot 89 = .ok (.iaload, 1) := by decide +kernel
theorem dX9_slot_90 : decode cX9_slot 90 = .ok (.ireturn, 1) := by decide +kernel
theorem dX9_slot_91 : decode cX9_slot 91 = .ok (.aload_n 0, 1) := by decide +kernel
theorem dX9_slot_92 : decode cX9_slot 92 = .ok (.getfield 56, 3) := by decide +kernel
theorem dX9_slot_95 : decode cX9_slot 95 = .ok (.iload_n 1, 1) := by decide +kernel
theorem dX9_slot_96 : decode cX9_slot 96 = .ok (.iaload, 1) := by decide +kernel
theorem dX9_slot_97 : decode cX9_slot 97 = .ok (.ireturn, 1) := by decide +kernel
theorem dX9_sends_0 : decode cX9_sends 0 = .ok (.aload_n 0, 1) := by decide +kernel
theorem dX9_sends_1 : decode cX9_sends 1 = .ok (.iload_n 1, 1) := by decide +kernel
theorem dX9_sends_2 : decode cX9_sends 2 = .ok (.invokevirtual 293, 3) := by decide +kernel
theorem dX9_sends_5 : decode cX9_sends 5 = .ok (.ifCond .eq 11, 3) := by decide +kernel
theorem dX9_sends_8 : decode cX9_sends 8 = .ok (.aload_n 0, 1) := by decide +kernel
theorem dX9_sends_9 : decode cX9_sends 9 = .ok (.iload_n 2, 1) := by decide +kernel
theorem dX9_sends_10 : decode cX9_sends 10 = .ok (.invokevirtual 197, 3) := by decide +kernel
theorem dX9_sends_13 : decode cX9_sends 13 = .ok (.ifCond .ne 6, 3) := by decide +kernel
theorem dX9_sends_16 : decode cX9_sends 16 = .ok (.bipush (-2), 2) := by decide +kernel
theorem dX9_sends_18 : decode cX9_sends 18 = .ok (.ireturn, 1) := by decide +kernel
theorem dX9_sends_19 : decode cX9_sends 19 = .ok (.aload_n 0, 1) := by decide +kernel
theorem dX9_sends_20 : decode cX9_sends 20 = .ok (.invokevirtual 298, 3) := by decide +kernel
theorem dX9_sends_23 : decode cX9_sends 23 = .ok (.aload_n 0, 1) := by decide +kernel
theorem dX9_sends_24 : decode cX9_sends 24 = .ok (.getfield 44, 3) := by decide +kernel
theorem dX9_sends_27 : decode cX9_sends 27 = .ok (.iload_n 1, 1) := by decide +kernel
theorem dX9_sends_28 : decode cX9_sends 28 = .ok (.iaload, 1) := by decide +kernel
theorem dX9_sends_29 : decode cX9_sends 29 = .ok (.iload_n 2, 1) := by decide +kernel
theorem dX9_sends_30 : decode cX9_sends 30 = .ok (.invokestatic 258, 3) := by decide +kernel
theorem dX9_sends_33 : decode cX9_sends 33 = .ok (.ifCond .eq 7, 3) := by decide +kernel
theorem dX9_sends_36 : decode cX9_sends 36 = .ok (.iconst 1, 1) := by decide +kernel
theorem dX9_sends_37 : decode cX9_sends 37 = .ok (.goto 4, 3) := by decide +kernel
theorem dX9_sends_40 : decode cX9_sends 40 = .ok (.iconst 0, 1) := by decide +kernel
theorem dX9_sends_41 : decode cX9_sends 41 = .ok (.ireturn, 1) := by decide +kernel
theorem dX9_delivered_0 : decode cX9_delivered 0 = .ok (.aload_n 0, 1) := by decide +kernel
theorem dX9_delivered_1 : decode cX9_delivered 1 = .ok (.iload_n 1, 1) := by decide +kernel
theorem dX9_delivered_2 : decode cX9_delivered 2 = .ok (.invokevirtual 197, 3) := by decide +kernel
theorem dX9_delivered_5 : decode cX9_delivered 5 = .ok (.ifCond .ne 6, 3) := by decide +kernel
theorem dX9_delivered_8 : decode cX9_delivered 8 = .ok (.bipush (-2), 2) := by decide +kernel
theorem dX9_delivered_10 : decode cX9_delivered 10 = .ok (.ireturn, 1) := by decide +kernel
theorem dX9_delivered_11 : decode cX9_delivered 11 = .ok (.aload_n 0, 1) := by decide +kernel
theorem dX9_delivered_12 : decode cX9_delivered 12 = .ok (.invokevirtual 298, 3) := by decide +kernel
theorem dX9_delivered_15 : decode cX9_delivered 15 = .ok (.aload_n 0, 1) := by decide +kernel
theorem dX9_delivered_16 : decode cX9_delivered 16 = .ok (.getfield 41, 3) := by decide +kernel
theorem dX9_delivered_19 : decode cX9_delivered 19 = .ok (.iload_n 1, 1) := by decide +kernel
theorem dX9_delivered_20 : decode cX9_delivered 20 = .ok (.iaload, 1) := by decide +kernel
theorem dX9_delivered_21 : decode cX9_delivered 21 = .ok (.ireturn, 1) := by decide +kernel
theorem dX9_tries_0 : decode cX9_tries 0 = .ok (.aload_n 0, 1) := by decide +kernel
theorem dX9_tries_1 : decode cX9_tries 1 = .ok (.iload_n 1, 1) := by decide +kernel
theorem dX9_tries_2 : decode cX9_tries 2 = .ok (.invokevirtual 197, 3) := by decide +kernel
theorem dX9_tries_5 : decode cX9_tries 5 = .ok (.ifCond .ne 6, 3) := by decide +kernel
theorem dX9_tries_8 : decode cX9_tries 8 = .ok (.bipush (-2), 2) := by decide +kernel
theorem dX9_tries_10 : decode cX9_tries 10 = .ok (.ireturn, 1) := by decide +kernel
theorem dX9_tries_11 : decode cX9_tries 11 = .ok (.aload_n 0, 1) := by decide +kernel
theorem dX9_tries_12 : decode cX9_tries 12 = .ok (.invokevirtual 298, 3) := by decide +kernel
theorem dX9_tries_15 : decode cX9_tries 15 = .ok (.iconst 0, 1) := by decide +kernel
theorem dX9_tries_16 : decode cX9_tries 16 = .ok (.istore_n 2, 1) := by decide +kernel
theorem dX9_tries_17 : decode cX9_tries 17 = .ok (.iconst 0, 1) := by decide +kernel
theorem dX9_tries_18 : decode cX9_tries 18 = .ok (.istore_n 3, 1) := by decide +kernel
theorem dX9_tries_19 : decode cX9_tries 19 = .ok (.iload_n 3, 1) := by decide +kernel
theorem dX9_tries_20 : decode cX9_tries 20 = .ok (.aload_n 0, 1) := by decide +kernel
theorem dX9_tries_21 : decode cX9_tries 21 = .ok (.getfield 9, 3) := by decide +kernel
theorem dX9_tries_24 : decode cX9_tries 24 = .ok (.iconst 1, 1) := by decide +kernel
theorem dX9_tries_25 : decode cX9_tries 25 = .ok (.iaload, 1) := by decide +kernel
theorem dX9_tries_26 : decode cX9_tries 26 = .ok (.if_icmp .ge 30, 3) := by decide +kernel
theorem dX9_tries_29 : decode cX9_tries 29 = .ok (.iload_n 2, 1) := by decide +kernel
theorem dX9_tries_30 : decode cX9_tries 30 = .ok (.aload_n 0, 1) := by decide +kernel
theorem dX9_tries_31 : decode cX9_tries 31 = .ok (.getfield 44, 3) := by decide +kernel
theorem dX9_tries_34 : decode cX9_tries 34 = .ok (.iload_n 3, 1) := by decide +kernel
theorem dX9_tries_35 : decode cX9_tries 35 = .ok (.iaload, 1) := by decide +kernel
theorem dX9_tries_36 : decode cX9_tries 36 = .ok (.iload_n 1, 1) := by decide +kernel
theorem dX9_tries_37 : decode cX9_tries 37 = .ok (.invokestatic 258, 3) := by decide +kernel
theorem dX9_tries_40 : decode cX9_tries 40 = .ok (.ifCond .eq 7, 3) := by decide +kernel
theorem dX9_tries_43 : decode cX9_tries 43 = .ok (.iconst 1, 1) := by decide +kernel
theorem dX9_tries_44 : decode cX9_tries 44 = .ok (.goto 4, 3) := by decide +kernel
theorem dX9_tries_47 : decode cX9_tries 47 = .ok (.iconst 0, 1) := by decide +kernel
theorem dX9_tries_48 : decode cX9_tries 48 = .ok (.iadd, 1) := by decide +kernel
theorem dX9_tries_49 : decode cX9_tries 49 = .ok (.istore_n 2, 1) := by decide +kernel
theorem dX9_tries_50 : decode cX9_tries 50 = .ok (.iinc 3 1, 3) := by decide +kernel
theorem dX9_tries_53 : decode cX9_tries 53 = .ok (.goto (-34), 3) := by decide +kernel
theorem dX9_tries_56 : decode cX9_tries 56 = .ok (.iload_n 2, 1) := by decide +kernel
theorem dX9_tries_57 : decode cX9_tries 57 = .ok (.ireturn, 1) := by decide +kernel
theorem dX9_taken_0 : decode cX9_taken 0 = .ok (.aload_n 0, 1) := by decide +kernel
theorem dX9_taken_1 : decode cX9_taken 1 = .ok (.iload_n 1, 1) := by decide +kernel
theorem dX9_taken_2 : decode cX9_taken 2 = .ok (.invokevirtual 197, 3) := by decide +kernel
theorem dX9_taken_5 : decode cX9_taken 5 = .ok (.ifCond .ne 6, 3) := by decide +kernel
theorem dX9_taken_8 : decode cX9_taken 8 = .ok (.bipush (-2), 2) := by decide +kernel
theorem dX9_taken_10 : decode cX9_taken 10 = .ok (.ireturn, 1) := by decide +kernel
theorem dX9_taken_11 : decode cX9_taken 11 = .ok (.aload_n 0, 1) := by decide +kernel
theorem dX9_taken_12 : decode cX9_taken 12 = .ok (.invokevirtual 298, 3) := by decide +kernel
theorem dX9_taken_15 : decode cX9_taken 15 = .ok (.aload_n 0, 1) := by decide +kernel
theorem dX9_taken_16 : decode cX9_taken 16 = .ok (.getfield 35, 3) := by decide +kernel
theorem dX9_taken_19 : decode cX9_taken 19 = .ok (.iload_n 1, 1) := by decide +kernel
theorem dX9_taken_20 : decode cX9_taken 20 = .ok (.iaload, 1) := by decide +kernel
theorem dX9_taken_21 : decode cX9_taken 21 = .ok (.ireturn, 1) := by decide +kernel
theorem dX9_order_0 : decode cX9_order 0 = .ok (.aload_n 0, 1) := by decide +kernel
theorem dX9_order_1 : decode cX9_order 1 = .ok (.invokevirtual 289, 3) := by decide +kernel
theorem dX9_order_4 : decode cX9_order 4 = .ok (.ifCond .eq 7, 3) := by decide +kernel
theorem dX9_order_7 : decode cX9_order 7 = .ok (.iload_n 1, 1) := by decide +kernel
theorem dX9_order_8 : decode cX9_order 8 = .ok (.ifCond .ge 6, 3) := by decide +kernel
theorem dX9_order_11 : decode cX9_order 11 = .ok (.bipush (-2), 2) := by decide +kernel
theorem dX9_order_13 : decode cX9_order 13 = .ok (.ireturn, 1) := by decide +kernel
theorem dX9_order_14 : decode cX9_order 14 = .ok (.aload_n 0, 1) := by decide +kernel
theorem dX9_order_15 : decode cX9_order 15 = .ok (.invokevirtual 298, 3) := by decide +kernel
theorem dX9_order_18 : decode cX9_order 18 = .ok (.iload_n 1, 1) := by decide +kernel
theorem dX9_order_19 : decode cX9_order 19 = .ok (.istore_n 2, 1) := by decide +kernel
theorem dX9_order_20 : decode cX9_order 20 = .ok (.iconst 0, 1) := by decide +kernel
theorem dX9_order_21 : decode cX9_order 21 = .ok (.istore_n 3, 1) := by decide +kernel
theorem dX9_order_22 : decode cX9_order 22 = .ok (.iload_n 3, 1) := by decide +kernel
theorem dX9_order_23 : decode cX9_order 23 = .ok (.aload_n 0, 1) := by decide +kernel
theorem dX9_order_24 : decode cX9_order 24 = .ok (.getfield 9, 3) := by decide +kernel
theorem dX9_order_27 : decode cX9_order 27 = .ok (.iconst 1, 1) := by decide +kernel
theorem dX9_order_28 : decode cX9_order 28 = .ok (.iaload, 1) := by decide +kernel
theorem dX9_order_29 : decode cX9_order 29 = .ok (.if_icmp .ge 33, 3) := by decide +kernel
theorem dX9_order_32 : decode cX9_order 32 = .ok (.aload_n 0, 1) := by decide +kernel
theorem dX9_order_33 : decode cX9_order 33 = .ok (.getfield 50, 3) := by decide +kernel
theorem dX9_order_36 : decode cX9_order 36 = .ok (.iload_n 3, 1) := by decide +kernel
theorem dX9_order_37 : decode cX9_order 37 = .ok (.iaload, 1) := by decide +kernel
theorem dX9_order_38 : decode cX9_order 38 = .ok (.iconst (-1), 1) := by decide +kernel
theorem dX9_order_39 : decode cX9_order 39 = .ok (.if_icmp .eq 17, 3) := by decide +kernel
theorem dX9_order_42 : decode cX9_order 42 = .ok (.iload_n 2, 1) := by decide +kernel
theorem dX9_order_43 : decode cX9_order 43 = .ok (.ifCond .ne 10, 3) := by decide +kernel
theorem dX9_order_46 : decode cX9_order 46 = .ok (.aload_n 0, 1) := by decide +kernel
theorem dX9_order_47 : decode cX9_order 47 = .ok (.getfield 50, 3) := by decide +kernel
theorem dX9_order_50 : decode cX9_order 50 = .ok (.iload_n 3, 1) := by decide +kernel
theorem dX9_order_51 : decode cX9_order 51 = .ok (.iaload, 1) := by decide +kernel
theorem dX9_order_52 : decode cX9_order 52 = .ok (.ireturn, 1) := by decide +kernel
theorem dX9_order_53 : decode cX9_order 53 = .ok (.iinc 2 (-1), 3) := by decide +kernel
theorem dX9_order_56 : decode cX9_order 56 = .ok (.iinc 3 1, 3) := by decide +kernel
theorem dX9_order_59 : decode cX9_order 59 = .ok (.goto (-37), 3) := by decide +kernel
theorem dX9_order_62 : decode cX9_order 62 = .ok (.iconst (-1), 1) := by decide +kernel
theorem dX9_order_63 : decode cX9_order 63 = .ok (.ireturn, 1) := by decide +kernel
theorem dX9_all_0 : decode cX9_all 0 = .ok (.aload_n 0, 1) := by decide +kernel
theorem dX9_all_1 : decode cX9_all 1 = .ok (.invokevirtual 289, 3) := by decide +kernel
theorem dX9_all_4 : decode cX9_all 4 = .ok (.ifCond .ne 6, 3) := by decide +kernel
theorem dX9_all_7 : decode cX9_all 7 = .ok (.bipush (-2), 2) := by decide +kernel
theorem dX9_all_9 : decode cX9_all 9 = .ok (.ireturn, 1) := by decide +kernel
theorem dX9_all_10 : decode cX9_all 10 = .ok (.aload_n 0, 1) := by decide +kernel
theorem dX9_all_11 : decode cX9_all 11 = .ok (.invokevirtual 298, 3) := by decide +kernel
theorem dX9_all_14 : decode cX9_all 14 = .ok (.aload_n 0, 1) := by decide +kernel
theorem dX9_all_15 : decode cX9_all 15 = .ok (.getfield 236, 3) := by decide +kernel
theorem dX9_all_18 : decode cX9_all 18 = .ok (.ireturn, 1) := by decide +kernel
theorem dX9_lastOf_0 : decode cX9_lastOf 0 = .ok (.iconst (-1), 1) := by decide +kernel
theorem dX9_lastOf_1 : decode cX9_lastOf 1 = .ok (.istore_n 1, 1) := by decide +kernel
theorem dX9_lastOf_2 : decode cX9_lastOf 2 = .ok (.iconst 0, 1) := by decide +kernel
theorem dX9_lastOf_3 : decode cX9_lastOf 3 = .ok (.istore_n 2, 1) := by decide +kernel
theorem dX9_lastOf_4 : decode cX9_lastOf 4 = .ok (.iload_n 2, 1) := by decide +kernel
theorem dX9_lastOf_5 : decode cX9_lastOf 5 = .ok (.aload_n 0, 1) := by decide +kernel
theorem dX9_lastOf_6 : decode cX9_lastOf 6 = .ok (.getfield 9, 3) := by decide +kernel
theorem dX9_lastOf_9 : decode cX9_lastOf 9 = .ok (.iconst 4, 1) := by decide +kernel
theorem dX9_lastOf_10 : decode cX9_lastOf 10 = .ok (.iaload, 1) := by decide +kernel
theorem dX9_lastOf_11 : decode cX9_lastOf 11 = .ok (.if_icmp .ge 20, 3) := by decide +kernel
theorem dX9_lastOf_14 : decode cX9_lastOf 14 = .ok (.iload_n 1, 1) := by decide +kernel
theorem dX9_lastOf_15 : decode cX9_lastOf 15 = .ok (.aload_n 0, 1) := by decide +kernel
theorem dX9_lastOf_16 : decode cX9_lastOf 16 = .ok (.getfield 41, 3) := by decide +kernel
theorem dX9_lastOf_19 : decode cX9_lastOf 19 = .ok (.iload_n 2, 1) := by decide +kernel
theorem dX9_lastOf_20 : decode cX9_lastOf 20 = .ok (.iaload, 1) := by decide +kernel
theorem dX9_lastOf_21 : decode cX9_lastOf 21 = .ok (.invokestatic 267, 3) := by decide +kernel
theorem dX9_lastOf_24 : decode cX9_lastOf 24 = .ok (.istore_n 1, 1) := by decide +kernel
theorem dX9_lastOf_25 : decode cX9_lastOf 25 = .ok (.iinc 2 1, 3) := by decide +kernel
theorem dX9_lastOf_28 : decode cX9_lastOf 28 = .ok (.goto (-24), 3) := by decide +kernel
theorem dX9_lastOf_31 : decode cX9_lastOf 31 = .ok (.aload_n 0, 1) := by decide +kernel
theorem dX9_lastOf_32 : decode cX9_lastOf 32 = .ok (.getfield 236, 3) := by decide +kernel
theorem dX9_lastOf_35 : decode cX9_lastOf 35 = .ok (.aload_n 0, 1) := by decide +kernel
theorem dX9_lastOf_36 : decode cX9_lastOf 36 = .ok (.getfield 9, 3) := by decide +kernel
theorem dX9_lastOf_39 : decode cX9_lastOf 39 = .ok (.iconst 4, 1) := by decide +kernel
theorem dX9_lastOf_40 : decode cX9_lastOf 40 = .ok (.iaload, 1) := by decide +kernel
theorem dX9_lastOf_41 : decode cX9_lastOf 41 = .ok (.if_icmp .ne 7, 3) := by decide +kernel
theorem dX9_lastOf_44 : decode cX9_lastOf 44 = .ok (.iload_n 1, 1) := by decide +kernel
theorem dX9_lastOf_45 : decode cX9_lastOf 45 = .ok (.goto 4, 3) := by decide +kernel
theorem dX9_lastOf_48 : decode cX9_lastOf 48 = .ok (.iconst (-1), 1) := by decide +kernel
theorem dX9_lastOf_49 : decode cX9_lastOf 49 = .ok (.ireturn, 1) := by decide +kernel
theorem dX9_done_0 : decode cX9_done 0 = .ok (.aload_n 0, 1) := by decide +kernel
theorem dX9_done_1 : decode cX9_done 1 = .ok (.invokevirtual 289, 3) := by decide +kernel
theorem dX9_done_4 : decode cX9_done 4 = .ok (.ifCond .ne 6, 3) := by decide +kernel
theorem dX9_done_7 : decode cX9_done 7 = .ok (.bipush (-2), 2) := by decide +kernel
theorem dX9_done_9 : decode cX9_done 9 = .ok (.ireturn, 1) := by decide +kernel
theorem dX9_done_10 : decode cX9_done 10 = .ok (.aload_n 0, 1) := by decide +kernel
theorem dX9_done_11 : decode cX9_done 11 = .ok (.invokevirtual 298, 3) := by decide +kernel
theorem dX9_done_14 : decode cX9_done 14 = .ok (.aload_n 0, 1) := by decide +kernel
theorem dX9_done_15 : decode cX9_done 15 = .ok (.invokevirtual 301, 3) := by decide +kernel
theorem dX9_done_18 : decode cX9_done 18 = .ok (.ireturn, 1) := by decide +kernel
theorem dX9_heard_0 : decode cX9_heard 0 = .ok (.aload_n 0, 1) := by decide +kernel
theorem dX9_heard_1 : decode cX9_heard 1 = .ok (.invokevirtual 289, 3) := by decide +kernel
theorem dX9_heard_4 : decode cX9_heard 4 = .ok (.ifCond .eq 15, 3) := by decide +kernel
theorem dX9_heard_7 : decode cX9_heard 7 = .ok (.iload_n 1, 1) := by decide +kernel
theorem dX9_heard_8 : decode cX9_heard 8 = .ok (.i2l, 1) := by decide +kernel
theorem dX9_heard_9 : decode cX9_heard 9 = .ok (.lconst 0, 1) := by decide +kernel
theorem dX9_heard_10 : decode cX9_heard 10 = .ok (.ldc2_w 304, 3) := by decide +kernel
theorem dX9_heard_13 : decode cX9_heard 13 = .ok (.invokestatic 84, 3) := by decide +kernel
theorem dX9_heard_16 : decode cX9_heard 16 = .ok (.ifCond .ne 6, 3) := by decide +kernel
theorem dX9_heard_19 : decode cX9_heard 19 = .ok (.bipush (-2), 2) := by decide +kernel
theorem dX9_heard_21 : decode cX9_heard 21 = .ok (.ireturn, 1) := by decide +kernel
theorem dX9_heard_22 : decode cX9_heard 22 = .ok (.aload_n 0, 1) := by decide +kernel
theorem dX9_heard_23 : decode cX9_heard 23 = .ok (.invokevirtual 298, 3) := by decide +kernel
theorem dX9_heard_26 : decode cX9_heard 26 = .ok (.iconst 0, 1) := by decide +kernel
theorem dX9_heard_27 : decode cX9_heard 27 = .ok (.istore_n 2, 1) := by decide +kernel
theorem dX9_heard_28 : decode cX9_heard 28 = .ok (.iconst 0, 1) := by decide +kernel
theorem dX9_heard_29 : decode cX9_heard 29 = .ok (.istore_n 3, 1) := by decide +kernel
theorem dX9_heard_30 : decode cX9_heard 30 = .ok (.iload_n 3, 1) := by decide +kernel
theorem dX9_heard_31 : decode cX9_heard 31 = .ok (.aload_n 0, 1) := by decide +kernel
theorem dX9_heard_32 : decode cX9_heard 32 = .ok (.getfield 9, 3) := by decide +kernel
theorem dX9_heard_35 : decode cX9_heard 35 = .ok (.iconst 1, 1) := by decide +kernel
theorem dX9_heard_36 : decode cX9_heard 36 = .ok (.iaload, 1) := by decide +kernel
theorem dX9_heard_37 : decode cX9_heard 37 = .ok (.if_icmp .ge 27, 3) := by decide +kernel
theorem dX9_heard_40 : decode cX9_heard 40 = .ok (.iload_n 2, 1) := by decide +kernel
theorem dX9_heard_41 : decode cX9_heard 41 = .ok (.aload_n 0, 1) := by decide +kernel
theorem dX9_heard_42 : decode cX9_heard 42 = .ok (.getfield 47, 3) := by decide +kernel
theorem dX9_heard_45 : decode cX9_heard 45 = .ok (.iload_n 3, 1) := by decide +kernel
theorem dX9_heard_46 : decode cX9_heard 46 = .ok (.iaload, 1) := by decide +kernel
theorem dX9_heard_47 : decode cX9_heard 47 = .ok (.iload_n 1, 1) := by decide +kernel
theorem dX9_heard_48 : decode cX9_heard 48 = .ok (.if_icmp .ne 7, 3) := by decide +kernel
theorem dX9_heard_51 : decode cX9_heard 51 = .ok (.iconst 1, 1) := by decide +kernel
theorem dX9_heard_52 : decode cX9_heard 52 = .ok (.goto 4, 3) := by decide +kernel
theorem dX9_heard_55 : decode cX9_heard 55 = .ok (.iconst 0, 1) := by decide +kernel
theorem dX9_heard_56 : decode cX9_heard 56 = .ok (.iadd, 1) := by decide +kernel
theorem dX9_heard_57 : decode cX9_heard 57 = .ok (.istore_n 2, 1) := by decide +kernel
theorem dX9_heard_58 : decode cX9_heard 58 = .ok (.iinc 3 1, 3) := by decide +kernel
theorem dX9_heard_61 : decode cX9_heard 61 = .ok (.goto (-31), 3) := by decide +kernel
theorem dX9_heard_64 : decode cX9_heard 64 = .ok (.iload_n 2, 1) := by decide +kernel
theorem dX9_heard_65 : decode cX9_heard 65 = .ok (.ireturn, 1) := by decide +kernel
theorem dX9_collisions_0 : decode cX9_collisions 0 = .ok (.iconst 0, 1) := by decide +kernel
theorem dX9_collisions_1 : decode cX9_collisions 1 = .ok (.istore_n 1, 1) := by decide +kernel
theorem dX9_collisions_2 : decode cX9_collisions 2 = .ok (.iconst 0, 1) := by decide +kernel
theorem dX9_collisions_3 : decode cX9_collisions 3 = .ok (.istore_n 2, 1) := by decide +kernel
theorem dX9_collisions_4 : decode cX9_collisions 4 = .ok (.iload_n 2, 1) := by decide +kernel
theorem dX9_collisions_5 : decode cX9_collisions 5 = .ok (.aload_n 0, 1) := by decide +kernel
theorem dX9_collisions_6 : decode cX9_collisions 6 = .ok (.getfield 9, 3) := by decide +kernel
theorem dX9_collisions_9 : decode cX9_collisions 9 = .ok (.iconst 1, 1) := by decide +kernel
theorem dX9_collisions_10 : decode cX9_collisions 10 = .ok (.iaload, 1) := by decide +kernel
theorem dX9_collisions_11 : decode cX9_collisions 11 = .ok (.if_icmp .ge 30, 3) := by decide +kernel
theorem dX9_collisions_14 : decode cX9_collisions 14 = .ok (.iload_n 1, 1) := by decide +kernel
theorem dX9_collisions_15 : decode cX9_collisions 15 = .ok (.aload_n 0, 1) := by decide +kernel
theorem dX9_collisions_16 : decode cX9_collisions 16 = .ok (.getfield 44, 3) := by decide +kernel
theorem dX9_collisions_19 : decode cX9_collisions 19 = .ok (.iload_n 2, 1) := by decide +kernel
theorem dX9_collisions_20 : decode cX9_collisions 20 = .ok (.iaload, 1) := by decide +kernel
theorem dX9_collisions_21 : decode cX9_collisions 21 = .ok (.invokestatic 252, 3) := by decide +kernel
theorem dX9_collisions_24 : decode cX9_collisions 24 = .ok (.iconst 1, 1) := by decide +kernel
theorem dX9_collisions_25 : decode cX9_collisions 25 = .ok (.if_icmp .le 7, 3) := by decide +kernel
theorem dX9_collisions_28 : decode cX9_collisions 28 = .ok (.iconst 1, 1) := by decide +kernel
theorem dX9_collisions_29 : decode cX9_collisions 29 = .ok (.goto 4, 3) := by decide +kernel
theorem dX9_collisions_32 : decode cX9_collisions 32 = .ok (.iconst 0, 1) := by decide +kernel
theorem dX9_collisions_33 : decode cX9_collisions 33 = .ok (.iadd, 1) := by decide +kernel
theorem dX9_collisions_34 : decode cX9_collisions 34 = .ok (.istore_n 1, 1) := by decide +kernel
theorem dX9_collisions_35 : decode cX9_collisions 35 = .ok (.iinc 2 1, 3) := by decide +kernel
theorem dX9_collisions_38 : decode cX9_collisions 38 = .ok (.goto (-34), 3) := by decide +kernel
theorem dX9_collisions_41 : decode cX9_collisions 41 = .ok (.iload_n 1, 1) := by decide +kernel
theorem dX9_collisions_42 : decode cX9_collisions 42 = .ok (.ireturn, 1) := by decide +kernel
theorem dX9_skipsAll_0 : decode cX9_skipsAll 0 = .ok (.iconst 0, 1) := by decide +kernel
theorem dX9_skipsAll_1 : decode cX9_skipsAll 1 = .ok (.istore_n 1, 1) := by decide +kernel
theorem dX9_skipsAll_2 : decode cX9_skipsAll 2 = .ok (.iconst 0, 1) := by decide +kernel
theorem dX9_skipsAll_3 : decode cX9_skipsAll 3 = .ok (.istore_n 2, 1) := by decide +kernel
theorem dX9_skipsAll_4 : decode cX9_skipsAll 4 = .ok (.iload_n 2, 1) := by decide +kernel
theorem dX9_skipsAll_5 : decode cX9_skipsAll 5 = .ok (.aload_n 0, 1) := by decide +kernel
theorem dX9_skipsAll_6 : decode cX9_skipsAll 6 = .ok (.getfield 9, 3) := by decide +kernel
theorem dX9_skipsAll_9 : decode cX9_skipsAll 9 = .ok (.iconst 1, 1) := by decide +kernel
theorem dX9_skipsAll_10 : decode cX9_skipsAll 10 = .ok (.iaload, 1) := by decide +kernel
theorem dX9_skipsAll_11 : decode cX9_skipsAll 11 = .ok (.if_icmp .ge 18, 3) := by decide +kernel
theorem dX9_skipsAll_14 : decode cX9_skipsAll 14 = .ok (.iload_n 1, 1) := by decide +kernel
theorem dX9_skipsAll_15 : decode cX9_skipsAll 15 = .ok (.aload_n 0, 1) := by decide +kernel
theorem dX9_skipsAll_16 : decode cX9_skipsAll 16 = .ok (.getfield 56, 3) := by decide +kernel
theorem dX9_skipsAll_19 : decode cX9_skipsAll 19 = .ok (.iload_n 2, 1) := by decide +kernel
theorem dX9_skipsAll_20 : decode cX9_skipsAll 20 = .ok (.iaload, 1) := by decide +kernel
theorem dX9_skipsAll_21 : decode cX9_skipsAll 21 = .ok (.iadd, 1) := by decide +kernel
theorem dX9_skipsAll_22 : decode cX9_skipsAll 22 = .ok (.istore_n 1, 1) := by decide +kernel
theorem dX9_skipsAll_23 : decode cX9_skipsAll 23 = .ok (.iinc 2 1, 3) := by decide +kernel
theorem dX9_skipsAll_26 : decode cX9_skipsAll 26 = .ok (.goto (-22), 3) := by decide +kernel
theorem dX9_skipsAll_29 : decode cX9_skipsAll 29 = .ok (.iload_n 1, 1) := by decide +kernel
theorem dX9_skipsAll_30 : decode cX9_skipsAll 30 = .ok (.ireturn, 1) := by decide +kernel
theorem dX9_collided_0 : decode cX9_collided 0 = .ok (.aload_n 0, 1) := by decide +kernel
theorem dX9_collided_1 : decode cX9_collided 1 = .ok (.invokevirtual 289, 3) := by decide +kernel
theorem dX9_collided_4 : decode cX9_collided 4 = .ok (.ifCond .ne 6, 3) := by decide +kernel
theorem dX9_collided_7 : decode cX9_collided 7 = .ok (.bipush (-2), 2) := by decide +kernel
theorem dX9_collided_9 : decode cX9_collided 9 = .ok (.ireturn, 1) := by decide +kernel
theorem dX9_collided_10 : decode cX9_collided 10 = .ok (.aload_n 0, 1) := by decide +kernel
theorem dX9_collided_11 : decode cX9_collided 11 = .ok (.invokevirtual 298, 3) := by decide +kernel
theorem dX9_collided_14 : decode cX9_collided 14 = .ok (.aload_n 0, 1) := by decide +kernel
theorem dX9_collided_15 : decode cX9_collided 15 = .ok (.invokevirtual 306, 3) := by decide +kernel
theorem dX9_collided_18 : decode cX9_collided 18 = .ok (.ireturn, 1) := by decide +kernel
theorem dX9_skips_0 : decode cX9_skips 0 = .ok (.aload_n 0, 1) := by decide +kernel
theorem dX9_skips_1 : decode cX9_skips 1 = .ok (.invokevirtual 289, 3) := by decide +kernel
theorem dX9_skips_4 : decode cX9_skips 4 = .ok (.ifCond .ne 6, 3) := by decide +kernel
theorem dX9_skips_7 : decode cX9_skips 7 = .ok (.bipush (-2), 2) := by decide +kernel
theorem dX9_skips_9 : decode cX9_skips 9 = .ok (.ireturn, 1) := by decide +kernel
theorem dX9_skips_10 : decode cX9_skips 10 = .ok (.aload_n 0, 1) := by decide +kernel
theorem dX9_skips_11 : decode cX9_skips 11 = .ok (.invokevirtual 298, 3) := by decide +kernel
theorem dX9_skips_14 : decode cX9_skips 14 = .ok (.aload_n 0, 1) := by decide +kernel
theorem dX9_skips_15 : decode cX9_skips 15 = .ok (.invokevirtual 309, 3) := by decide +kernel
theorem dX9_skips_18 : decode cX9_skips 18 = .ok (.ireturn, 1) := by decide +kernel
theorem dX9_deepest_0 : decode cX9_deepest 0 = .ok (.aload_n 0, 1) := by decide +kernel
theorem dX9_deepest_1 : decode cX9_deepest 1 = .ok (.invokevirtual 289, 3) := by decide +kernel
theorem dX9_deepest_4 : decode cX9_deepest 4 = .ok (.ifCond .ne 6, 3) := by decide +kernel
theorem dX9_deepest_7 : decode cX9_deepest 7 = .ok (.bipush (-2), 2) := by decide +kernel
theorem dX9_deepest_9 : decode cX9_deepest 9 = .ok (.ireturn, 1) := by decide +kernel
theorem dX9_deepest_10 : decode cX9_deepest 10 = .ok (.aload_n 0, 1) := by decide +kernel
theorem dX9_deepest_11 : decode cX9_deepest 11 = .ok (.invokevirtual 298, 3) := by decide +kernel
theorem dX9_deepest_14 : decode cX9_deepest 14 = .ok (.iconst 0, 1) := by decide +kernel
theorem dX9_deepest_15 : decode cX9_deepest 15 = .ok (.istore_n 1, 1) := by decide +kernel
theorem dX9_deepest_16 : decode cX9_deepest 16 = .ok (.iconst 0, 1) := by decide +kernel
theorem dX9_deepest_17 : decode cX9_deepest 17 = .ok (.istore_n 2, 1) := by decide +kernel
theorem dX9_deepest_18 : decode cX9_deepest 18 = .ok (.iload_n 2, 1) := by decide +kernel
theorem dX9_deepest_19 : decode cX9_deepest 19 = .ok (.aload_n 0, 1) := by decide +kernel
theorem dX9_deepest_20 : decode cX9_deepest 20 = .ok (.getfield 9, 3) := by decide +kernel
theorem dX9_deepest_23 : decode cX9_deepest 23 = .ok (.iconst 1, 1) := by decide +kernel
theorem dX9_deepest_24 : decode cX9_deepest 24 = .ok (.iaload, 1) := by decide +kernel
theorem dX9_deepest_25 : decode cX9_deepest 25 = .ok (.if_icmp .ge 20, 3) := by decide +kernel
theorem dX9_deepest_28 : decode cX9_deepest 28 = .ok (.iload_n 1, 1) := by decide +kernel
theorem dX9_deepest_29 : decode cX9_deepest 29 = .ok (.aload_n 0, 1) := by decide +kernel
theorem dX9_deepest_30 : decode cX9_deepest 30 = .ok (.getfield 53, 3) := by decide +kernel
theorem dX9_deepest_33 : decode cX9_deepest 33 = .ok (.iload_n 2, 1) := by decide +kernel
theorem dX9_deepest_34 : decode cX9_deepest 34 = .ok (.iaload, 1) := by decide +kernel
theorem dX9_deepest_35 : decode cX9_deepest 35 = .ok (.invokestatic 267, 3) := by decide +kernel
theorem dX9_deepest_38 : decode cX9_deepest 38 = .ok (.istore_n 1, 1) := by decide +kernel
theorem dX9_deepest_39 : decode cX9_deepest 39 = .ok (.iinc 2 1, 3) := by decide +kernel
theorem dX9_deepest_42 : decode cX9_deepest 42 = .ok (.goto (-24), 3) := by decide +kernel
theorem dX9_deepest_45 : decode cX9_deepest 45 = .ok (.iload_n 1, 1) := by decide +kernel
theorem dX9_deepest_46 : decode cX9_deepest 46 = .ok (.ireturn, 1) := by decide +kernel
theorem dX9_epochs_0 : decode cX9_epochs 0 = .ok (.aload_n 0, 1) := by decide +kernel
theorem dX9_epochs_1 : decode cX9_epochs 1 = .ok (.invokevirtual 289, 3) := by decide +kernel
theorem dX9_epochs_4 : decode cX9_epochs 4 = .ok (.ifCond .ne 6, 3) := by decide +kernel
theorem dX9_epochs_7 : decode cX9_epochs 7 = .ok (.bipush (-2), 2) := by decide +kernel
theorem dX9_epochs_9 : decode cX9_epochs 9 = .ok (.ireturn, 1) := by decide +kernel
theorem dX9_epochs_10 : decode cX9_epochs 10 = .ok (.aload_n 0, 1) := by decide +kernel
theorem dX9_epochs_11 : decode cX9_epochs 11 = .ok (.invokevirtual 298, 3) := by decide +kernel
theorem dX9_epochs_14 : decode cX9_epochs 14 = .ok (.aload_n 0, 1) := by decide +kernel
theorem dX9_epochs_15 : decode cX9_epochs 15 = .ok (.getfield 233, 3) := by decide +kernel
theorem dX9_epochs_18 : decode cX9_epochs 18 = .ok (.ireturn, 1) := by decide +kernel
theorem dX9_epoch_0 : decode cX9_epoch 0 = .ok (.aload_n 0, 1) := by decide +kernel
theorem dX9_epoch_1 : decode cX9_epoch 1 = .ok (.invokevirtual 289, 3) := by decide +kernel
theorem dX9_epoch_4 : decode cX9_epoch 4 = .ok (.ifCond .eq 19, 3) := by decide +kernel
theorem dX9_epoch_7 : decode cX9_epoch 7 = .ok (.iload_n 1, 1) := by decide +kernel
theorem dX9_epoch_8 : decode cX9_epoch 8 = .ok (.ifCond .lt 15, 3) := by decide +kernel
theorem dX9_epoch_11 : decode cX9_epoch 11 = .ok (.iload_n 2, 1) := by decide +kernel
theorem dX9_epoch_12 : decode cX9_epoch 12 = .ok (.i2l, 1) := by decide +kernel
theorem dX9_epoch_13 : decode cX9_epoch 13 = .ok (.lconst 0, 1) := by decide +kernel
theorem dX9_epoch_14 : decode cX9_epoch 14 = .ok (.ldc2_w 304, 3) := by decide +kernel
theorem dX9_epoch_17 : decode cX9_epoch 17 = .ok (.invokestatic 84, 3) := by decide +kernel
theorem dX9_epoch_20 : decode cX9_epoch 20 = .ok (.ifCond .ne 6, 3) := by decide +kernel
theorem dX9_epoch_23 : decode cX9_epoch 23 = .ok (.bipush (-2), 2) := by decide +kernel
theorem dX9_epoch_25 : decode cX9_epoch 25 = .ok (.ireturn, 1) := by decide +kernel
theorem dX9_epoch_26 : decode cX9_epoch 26 = .ok (.aload_n 0, 1) := by decide +kernel
theorem dX9_epoch_27 : decode cX9_epoch 27 = .ok (.invokevirtual 298, 3) := by decide +kernel
theorem dX9_epoch_30 : decode cX9_epoch 30 = .ok (.iload_n 1, 1) := by decide +kernel
theorem dX9_epoch_31 : decode cX9_epoch 31 = .ok (.aload_n 0, 1) := by decide +kernel
theorem dX9_epoch_32 : decode cX9_epoch 32 = .ok (.getfield 233, 3) := by decide +kernel
theorem dX9_epoch_35 : decode cX9_epoch 35 = .ok (.if_icmp .lt 5, 3) := by decide +kernel
theorem dX9_epoch_38 : decode cX9_epoch 38 = .ok (.iconst (-1), 1) := by decide +kernel
theorem dX9_epoch_39 : decode cX9_epoch 39 = .ok (.ireturn, 1) := by decide +kernel
theorem dX9_epoch_40 : decode cX9_epoch 40 = .ok (.iload_n 2, 1) := by decide +kernel
theorem dX9_epoch_41 : decode cX9_epoch 41 = .ok (.ifCond .ne 12, 3) := by decide +kernel
theorem dX9_epoch_44 : decode cX9_epoch 44 = .ok (.aload_n 0, 1) := by decide +kernel
theorem dX9_epoch_45 : decode cX9_epoch 45 = .ok (.getfield 59, 3) := by decide +kernel
theorem dX9_epoch_48 : decode cX9_epoch 48 = .ok (.iload_n 1, 1) := by decide +kernel
theorem dX9_epoch_49 : decode cX9_epoch 49 = .ok (.iaload, 1) := by decide +kernel
theorem dX9_epoch_50 : decode cX9_epoch 50 = .ok (.goto 23, 3) := by decide +kernel
theorem dX9_epoch_53 : decode cX9_epoch 53 = .ok (.iload_n 2, 1) := by decide +kernel
theorem dX9_epoch_54 : decode cX9_epoch 54 = .ok (.iconst 1, 1) := by decide +kernel
theorem dX9_epoch_55 : decode cX9_epoch 55 = .ok (.if_icmp .ne 12, 3) := by decide +kernel
theorem dX9_epoch_58 : decode cX9_epoch 58 = .ok (.aload_n 0, 1) := by decide +kernel
theorem dX9_epoch_59 : decode cX9_epoch 59 = .ok (.getfield 62, 3) := by decide +kernel
theorem dX9_epoch_62 : decode cX9_epoch 62 = .ok (.iload_n 1, 1) := by decide +kernel
theorem dX9_epoch_63 : decode cX9_epoch 63 = .ok (.iaload, 1) := by decide +kernel
theorem dX9_epoch_64 : decode cX9_epoch 64 = .ok (.goto 9, 3) := by decide +kernel
theorem dX9_epoch_67 : decode cX9_epoch 67 = .ok (.aload_n 0, 1) := by decide +kernel
theorem dX9_epoch_68 : decode cX9_epoch 68 = .ok (.getfield 65, 3) := by decide +kernel
theorem dX9_epoch_71 : decode cX9_epoch 71 = .ok (.iload_n 1, 1) := by decide +kernel
theorem dX9_epoch_72 : decode cX9_epoch 72 = .ok (.iaload, 1) := by decide +kernel
theorem dX9_epoch_73 : decode cX9_epoch 73 = .ok (.ireturn, 1) := by decide +kernel
theorem dX9_behind_0 : decode cX9_behind 0 = .ok (.aload_n 0, 1) := by decide +kernel
theorem dX9_behind_1 : decode cX9_behind 1 = .ok (.iload_n 1, 1) := by decide +kernel
theorem dX9_behind_2 : decode cX9_behind 2 = .ok (.invokevirtual 197, 3) := by decide +kernel
theorem dX9_behind_5 : decode cX9_behind 5 = .ok (.ifCond .ne 6, 3) := by decide +kernel
theorem dX9_behind_8 : decode cX9_behind 8 = .ok (.bipush (-2), 2) := by decide +kernel
theorem dX9_behind_10 : decode cX9_behind 10 = .ok (.ireturn, 1) := by decide +kernel
theorem dX9_behind_11 : decode cX9_behind 11 = .ok (.aload_n 0, 1) := by decide +kernel
theorem dX9_behind_12 : decode cX9_behind 12 = .ok (.invokevirtual 298, 3) := by decide +kernel
theorem dX9_behind_15 : decode cX9_behind 15 = .ok (.aload_n 0, 1) := by decide +kernel
theorem dX9_behind_16 : decode cX9_behind 16 = .ok (.getfield 41, 3) := by decide +kernel
theorem dX9_behind_19 : decode cX9_behind 19 = .ok (.iload_n 1, 1) := by decide +kernel
theorem dX9_behind_20 : decode cX9_behind 20 = .ok (.iaload, 1) := by decide +kernel
theorem dX9_behind_21 : decode cX9_behind 21 = .ok (.iconst (-1), 1) := by decide +kernel
theorem dX9_behind_22 : decode cX9_behind 22 = .ok (.if_icmp .ne 14, 3) := by decide +kernel
theorem dX9_behind_25 : decode cX9_behind 25 = .ok (.aload_n 0, 1) := by decide +kernel
theorem dX9_behind_26 : decode cX9_behind 26 = .ok (.getfield 9, 3) := by decide +kernel
theorem dX9_behind_29 : decode cX9_behind 29 = .ok (.iconst 1, 1) := by decide +kernel
theorem dX9_behind_30 : decode cX9_behind 30 = .ok (.iaload, 1) := by decide +kernel
theorem dX9_behind_31 : decode cX9_behind 31 = .ok (.iconst 1, 1) := by decide +kernel
theorem dX9_behind_32 : decode cX9_behind 32 = .ok (.isub, 1) := by decide +kernel
theorem dX9_behind_33 : decode cX9_behind 33 = .ok (.goto 9, 3) := by decide +kernel
theorem dX9_behind_36 : decode cX9_behind 36 = .ok (.aload_n 0, 1) := by decide +kernel
theorem dX9_behind_37 : decode cX9_behind 37 = .ok (.getfield 41, 3) := by decide +kernel
theorem dX9_behind_40 : decode cX9_behind 40 = .ok (.iload_n 1, 1) := by decide +kernel
theorem dX9_behind_41 : decode cX9_behind 41 = .ok (.iaload, 1) := by decide +kernel
theorem dX9_behind_42 : decode cX9_behind 42 = .ok (.istore_n 2, 1) := by decide +kernel
theorem dX9_behind_43 : decode cX9_behind 43 = .ok (.iconst 0, 1) := by decide +kernel
theorem dX9_behind_44 : decode cX9_behind 44 = .ok (.istore_n 3, 1) := by decide +kernel
theorem dX9_behind_45 : decode cX9_behind 45 = .ok (.aload_n 0, 1) := by decide +kernel
theorem dX9_behind_46 : decode cX9_behind 46 = .ok (.getfield 9, 3) := by decide +kernel
theorem dX9_behind_49 : decode cX9_behind 49 = .ok (.bipush 7, 2) := by decide +kernel
theorem dX9_behind_51 : decode cX9_behind 51 = .ok (.iload_n 1, 1) := by decide +kernel
theorem dX9_behind_52 : decode cX9_behind 52 = .ok (.iadd, 1) := by decide +kernel
theorem dX9_behind_53 : decode cX9_behind 53 = .ok (.iaload, 1) := by decide +kernel
theorem dX9_behind_54 : decode cX9_behind 54 = .ok (.istore 4, 2) := by decide +kernel
theorem dX9_behind_56 : decode cX9_behind 56 = .ok (.iload 4, 2) := by decide +kernel
theorem dX9_behind_58 : decode cX9_behind 58 = .ok (.iload_n 2, 1) := by decide +kernel
theorem dX9_behind_59 : decode cX9_behind 59 = .ok (.if_icmp .gt 39, 3) := by decide +kernel
theorem dX9_behind_62 : decode cX9_behind 62 = .ok (.iload_n 3, 1) := by decide +kernel
theorem dX9_behind_63 : decode cX9_behind 63 = .ok (.aload_n 0, 1) := by decide +kernel
theorem dX9_behind_64 : decode cX9_behind 64 = .ok (.getfield 50, 3) := by decide +kernel
theorem dX9_behind_67 : decode cX9_behind 67 = .ok (.iload 4, 2) := by decide +kernel
theorem dX9_behind_69 : decode cX9_behind 69 = .ok (.iaload, 1) := by decide +kernel
theorem dX9_behind_70 : decode cX9_behind 70 = .ok (.iconst (-1), 1) := by decide +kernel
theorem dX9_behind_71 : decode cX9_behind 71 = .ok (.if_icmp .eq 18, 3) := by decide +kernel
theorem dX9_behind_74 : decode cX9_behind 74 = .ok (.aload_n 0, 1) := by decide +kernel
theorem dX9_behind_75 : decode cX9_behind 75 = .ok (.getfield 50, 3) := by decide +kernel
theorem dX9_behind_78 : decode cX9_behind 78 = .ok (.iload 4, 2) := by decide +kernel
theorem dX9_behind_80 : decode cX9_behind 80 = .ok (.iaload, 1) := by decide +kernel
theorem dX9_behind_81 : decode cX9_behind 81 = .ok (.iload_n 1, 1) := by decide +kernel
theorem dX9_behind_82 : decode cX9_behind 82 = .ok (.if_icmp .eq 7, 3) := by decide +kernel
theorem dX9_behind_85 : decode cX9_behind 85 = .ok (.iconst 1, 1) := by decide +kernel
theorem dX9_behind_86 : decode cX9_behind 86 = .ok (.goto 4, 3) := by decide +kernel
theorem dX9_behind_89 : decode cX9_behind 89 = .ok (.iconst 0, 1) := by decide +kernel
theorem dX9_behind_90 : decode cX9_behind 90 = .ok (.iadd, 1) := by decide +kernel
theorem dX9_behind_91 : decode cX9_behind 91 = .ok (.istore_n 3, 1) := by decide +kernel
theorem dX9_behind_92 : decode cX9_behind 92 = .ok (.iinc 4 1, 3) := by decide +kernel
theorem dX9_behind_95 : decode cX9_behind 95 = .ok (.goto (-39), 3) := by decide +kernel
theorem dX9_behind_98 : decode cX9_behind 98 = .ok (.iload_n 3, 1) := by decide +kernel
theorem dX9_behind_99 : decode cX9_behind 99 = .ok (.ireturn, 1) := by decide +kernel
theorem dX9_by_0 : decode cX9_by 0 = .ok (.aload_n 0, 1) := by decide +kernel
theorem dX9_by_1 : decode cX9_by 1 = .ok (.invokevirtual 289, 3) := by decide +kernel
theorem dX9_by_4 : decode cX9_by 4 = .ok (.ifCond .eq 27, 3) := by decide +kernel
theorem dX9_by_7 : decode cX9_by 7 = .ok (.iload_n 1, 1) := by decide +kernel
theorem dX9_by_8 : decode cX9_by 8 = .ok (.i2l, 1) := by decide +kernel
theorem dX9_by_9 : decode cX9_by 9 = .ok (.lconst 0, 1) := by decide +kernel
theorem dX9_by_10 : decode cX9_by 10 = .ok (.ldc2_w 312, 3) := by decide +kernel
theorem dX9_by_13 : decode cX9_by 13 = .ok (.invokestatic 84, 3) := by decide +kernel
theorem dX9_by_16 : decode cX9_by 16 = .ok (.ifCond .eq 15, 3) := by decide +kernel
theorem dX9_by_19 : decode cX9_by 19 = .ok (.iload_n 2, 1) := by decide +kernel
theorem dX9_by_20 : decode cX9_by 20 = .ok (.i2l, 1) := by decide +kernel
theorem dX9_by_21 : decode cX9_by 21 = .ok (.lconst 0, 1) := by decide +kernel
theorem dX9_by_22 : decode cX9_by 22 = .ok (.ldc2_w 312, 3) := by decide +kernel
theorem dX9_by_25 : decode cX9_by 25 = .ok (.invokestatic 84, 3) := by decide +kernel
theorem dX9_by_28 : decode cX9_by 28 = .ok (.ifCond .ne 6, 3) := by decide +kernel
theorem dX9_by_31 : decode cX9_by 31 = .ok (.bipush (-2), 2) := by decide +kernel
theorem dX9_by_33 : decode cX9_by 33 = .ok (.ireturn, 1) := by decide +kernel
theorem dX9_by_34 : decode cX9_by 34 = .ok (.aload_n 0, 1) := by decide +kernel
theorem dX9_by_35 : decode cX9_by 35 = .ok (.iload_n 1, 1) := by decide +kernel
theorem dX9_by_36 : decode cX9_by 36 = .ok (.iconst (-1), 1) := by decide +kernel
theorem dX9_by_37 : decode cX9_by 37 = .ok (.iconst (-1), 1) := by decide +kernel
theorem dX9_by_38 : decode cX9_by 38 = .ok (.invokevirtual 205, 3) := by decide +kernel
theorem dX9_by_41 : decode cX9_by 41 = .ok (.iload_n 2, 1) := by decide +kernel
theorem dX9_by_42 : decode cX9_by 42 = .ok (.ifCond .ne 10, 3) := by decide +kernel
theorem dX9_by_45 : decode cX9_by 45 = .ok (.aload_n 0, 1) := by decide +kernel
theorem dX9_by_46 : decode cX9_by 46 = .ok (.invokevirtual 301, 3) := by decide +kernel
theorem dX9_by_49 : decode cX9_by 49 = .ok (.goto 31, 3) := by decide +kernel
theorem dX9_by_52 : decode cX9_by 52 = .ok (.iload_n 2, 1) := by decide +kernel
theorem dX9_by_53 : decode cX9_by 53 = .ok (.iconst 1, 1) := by decide +kernel
theorem dX9_by_54 : decode cX9_by 54 = .ok (.if_icmp .ne 10, 3) := by decide +kernel
theorem dX9_by_57 : decode cX9_by 57 = .ok (.aload_n 0, 1) := by decide +kernel
theorem dX9_by_58 : decode cX9_by 58 = .ok (.getfield 236, 3) := by decide +kernel
theorem dX9_by_61 : decode cX9_by 61 = .ok (.goto 19, 3) := by decide +kernel
theorem dX9_by_64 : decode cX9_by 64 = .ok (.iload_n 2, 1) := by decide +kernel
theorem dX9_by_65 : decode cX9_by 65 = .ok (.iconst 2, 1) := by decide +kernel
theorem dX9_by_66 : decode cX9_by 66 = .ok (.if_icmp .ne 10, 3) := by decide +kernel
theorem dX9_by_69 : decode cX9_by 69 = .ok (.aload_n 0, 1) := by decide +kernel
theorem dX9_by_70 : decode cX9_by 70 = .ok (.invokevirtual 306, 3) := by decide +kernel
theorem dX9_by_73 : decode cX9_by 73 = .ok (.goto 7, 3) := by decide +kernel
theorem dX9_by_76 : decode cX9_by 76 = .ok (.aload_n 0, 1) := by decide +kernel
theorem dX9_by_77 : decode cX9_by 77 = .ok (.invokevirtual 309, 3) := by decide +kernel
theorem dX9_by_80 : decode cX9_by 80 = .ok (.ireturn, 1) := by decide +kernel
theorem dX9_moreWithout_0 : decode cX9_moreWithout 0 = .ok (.aload_n 0, 1) := by decide +kernel
theorem dX9_moreWithout_1 : decode cX9_moreWithout 1 = .ok (.invokevirtual 298, 3) := by decide +kernel
theorem dX9_moreWithout_4 : decode cX9_moreWithout 4 = .ok (.aload_n 0, 1) := by decide +kernel
theorem dX9_moreWithout_5 : decode cX9_moreWithout 5 = .ok (.getfield 236, 3) := by decide +kernel
theorem dX9_moreWithout_8 : decode cX9_moreWithout 8 = .ok (.istore_n 2, 1) := by decide +kernel
theorem dX9_moreWithout_9 : decode cX9_moreWithout 9 = .ok (.aload_n 0, 1) := by decide +kernel
theorem dX9_moreWithout_10 : decode cX9_moreWithout 10 = .ok (.aload_n 0, 1) := by decide +kernel
theorem dX9_moreWithout_11 : decode cX9_moreWithout 11 = .ok (.getfield 9, 3) := by decide +kernel
theorem dX9_moreWithout_14 : decode cX9_moreWithout 14 = .ok (.iconst 0, 1) := by decide +kernel
theorem dX9_moreWithout_15 : decode cX9_moreWithout 15 = .ok (.iaload, 1) := by decide +kernel
theorem dX9_moreWithout_16 : decode cX9_moreWithout 16 = .ok (.iload_n 1, 1) := by decide +kernel
theorem dX9_moreWithout_17 : decode cX9_moreWithout 17 = .ok (.iconst (-1), 1) := by decide +kernel
theorem dX9_moreWithout_18 : decode cX9_moreWithout 18 = .ok (.invokevirtual 205, 3) := by decide +kernel
theorem dX9_moreWithout_21 : decode cX9_moreWithout 21 = .ok (.aload_n 0, 1) := by decide +kernel
theorem dX9_moreWithout_22 : decode cX9_moreWithout 22 = .ok (.getfield 236, 3) := by decide +kernel
theorem dX9_moreWithout_25 : decode cX9_moreWithout 25 = .ok (.iload_n 2, 1) := by decide +kernel
theorem dX9_moreWithout_26 : decode cX9_moreWithout 26 = .ok (.isub, 1) := by decide +kernel
theorem dX9_moreWithout_27 : decode cX9_moreWithout 27 = .ok (.ireturn, 1) := by decide +kernel
theorem dX9_without_0 : decode cX9_without 0 = .ok (.iload_n 1, 1) := by decide +kernel
theorem dX9_without_1 : decode cX9_without 1 = .ok (.i2l, 1) := by decide +kernel
theorem dX9_without_2 : decode cX9_without 2 = .ok (.lconst 0, 1) := by decide +kernel
theorem dX9_without_3 : decode cX9_without 3 = .ok (.aload_n 0, 1) := by decide +kernel
theorem dX9_without_4 : decode cX9_without 4 = .ok (.getfield 9, 3) := by decide +kernel
theorem dX9_without_7 : decode cX9_without 7 = .ok (.iconst 5, 1) := by decide +kernel
theorem dX9_without_8 : decode cX9_without 8 = .ok (.iaload, 1) := by decide +kernel
theorem dX9_without_9 : decode cX9_without 9 = .ok (.iconst 1, 1) := by decide +kernel
theorem dX9_without_10 : decode cX9_without 10 = .ok (.isub, 1) := by decide +kernel
theorem dX9_without_11 : decode cX9_without 11 = .ok (.i2l, 1) := by decide +kernel
theorem dX9_without_12 : decode cX9_without 12 = .ok (.invokestatic 84, 3) := by decide +kernel
theorem dX9_without_15 : decode cX9_without 15 = .ok (.ifCond .eq 11, 3) := by decide +kernel
theorem dX9_without_18 : decode cX9_without 18 = .ok (.aload_n 0, 1) := by decide +kernel
theorem dX9_without_19 : decode cX9_without 19 = .ok (.iload_n 1, 1) := by decide +kernel
theorem dX9_without_20 : decode cX9_without 20 = .ok (.invokevirtual 314, 3) := by decide +kernel
theorem dX9_without_23 : decode cX9_without 23 = .ok (.goto 5, 3) := by decide +kernel
theorem dX9_without_26 : decode cX9_without 26 = .ok (.bipush (-99), 2) := by decide +kernel
theorem dX9_without_28 : decode cX9_without 28 = .ok (.ireturn, 1) := by decide +kernel
theorem dX9_alone_0 : decode cX9_alone 0 = .ok (.aload_n 0, 1) := by decide +kernel
theorem dX9_alone_1 : decode cX9_alone 1 = .ok (.iload_n 1, 1) := by decide +kernel
theorem dX9_alone_2 : decode cX9_alone 2 = .ok (.invokevirtual 197, 3) := by decide +kernel
theorem dX9_alone_5 : decode cX9_alone 5 = .ok (.ifCond .ne 6, 3) := by decide +kernel
theorem dX9_alone_8 : decode cX9_alone 8 = .ok (.bipush (-2), 2) := by decide +kernel
theorem dX9_alone_10 : decode cX9_alone 10 = .ok (.ireturn, 1) := by decide +kernel
theorem dX9_alone_11 : decode cX9_alone 11 = .ok (.aload_n 0, 1) := by decide +kernel
theorem dX9_alone_12 : decode cX9_alone 12 = .ok (.aload_n 0, 1) := by decide +kernel
theorem dX9_alone_13 : decode cX9_alone 13 = .ok (.getfield 9, 3) := by decide +kernel
theorem dX9_alone_16 : decode cX9_alone 16 = .ok (.iconst 0, 1) := by decide +kernel
theorem dX9_alone_17 : decode cX9_alone 17 = .ok (.iaload, 1) := by decide +kernel
theorem dX9_alone_18 : decode cX9_alone 18 = .ok (.iconst (-1), 1) := by decide +kernel
theorem dX9_alone_19 : decode cX9_alone 19 = .ok (.iload_n 1, 1) := by decide +kernel
theorem dX9_alone_20 : decode cX9_alone 20 = .ok (.invokevirtual 205, 3) := by decide +kernel
theorem dX9_alone_23 : decode cX9_alone 23 = .ok (.aload_n 0, 1) := by decide +kernel
theorem dX9_alone_24 : decode cX9_alone 24 = .ok (.getfield 236, 3) := by decide +kernel
theorem dX9_alone_27 : decode cX9_alone 27 = .ok (.ireturn, 1) := by decide +kernel
theorem dX9_worst_0 : decode cX9_worst 0 = .ok (.aload_n 0, 1) := by decide +kernel
theorem dX9_worst_1 : decode cX9_worst 1 = .ok (.invokevirtual 289, 3) := by decide +kernel
theorem dX9_worst_4 : decode cX9_worst 4 = .ok (.ifCond .ne 6, 3) := by decide +kernel
theorem dX9_worst_7 : decode cX9_worst 7 = .ok (.bipush (-2), 2) := by decide +kernel
theorem dX9_worst_9 : decode cX9_worst 9 = .ok (.ireturn, 1) := by decide +kernel
theorem dX9_worst_10 : decode cX9_worst 10 = .ok (.iconst (-1), 1) := by decide +kernel
theorem dX9_worst_11 : decode cX9_worst 11 = .ok (.istore_n 1, 1) := by decide +kernel
theorem dX9_worst_12 : decode cX9_worst 12 = .ok (.iconst 0, 1) := by decide +kernel
theorem dX9_worst_13 : decode cX9_worst 13 = .ok (.istore_n 2, 1) := by decide +kernel
theorem dX9_worst_14 : decode cX9_worst 14 = .ok (.iconst 0, 1) := by decide +kernel
theorem dX9_worst_15 : decode cX9_worst 15 = .ok (.istore_n 3, 1) := by decide +kernel
theorem dX9_worst_16 : decode cX9_worst 16 = .ok (.iload_n 3, 1) := by decide +kernel
theorem dX9_worst_17 : decode cX9_worst 17 = .ok (.aload_n 0, 1) := by decide +kernel
theorem dX9_worst_18 : decode cX9_worst 18 = .ok (.getfield 9, 3) := by decide +kernel
theorem dX9_worst_21 : decode cX9_worst 21 = .ok (.iconst 5, 1) := by decide +kernel
theorem dX9_worst_22 : decode cX9_worst 22 = .ok (.iaload, 1) := by decide +kernel
theorem dX9_worst_23 : decode cX9_worst 23 = .ok (.if_icmp .ge 27, 3) := by decide +kernel
theorem dX9_worst_26 : decode cX9_worst 26 = .ok (.aload_n 0, 1) := by decide +kernel
theorem dX9_worst_27 : decode cX9_worst 27 = .ok (.iload_n 3, 1) := by decide +kernel
theorem dX9_worst_28 : decode cX9_worst 28 = .ok (.invokevirtual 314, 3) := by decide +kernel
theorem dX9_worst_31 : decode cX9_worst 31 = .ok (.istore 4, 2) := by decide +kernel
theorem dX9_worst_33 : decode cX9_worst 33 = .ok (.iload 4, 2) := by decide +kernel
theorem dX9_worst_35 : decode cX9_worst 35 = .ok (.iload_n 2, 1) := by decide +kernel
theorem dX9_worst_36 : decode cX9_worst 36 = .ok (.if_icmp .le 8, 3) := by decide +kernel
theorem dX9_worst_39 : decode cX9_worst 39 = .ok (.iload 4, 2) := by decide +kernel
theorem dX9_worst_41 : decode cX9_worst 41 = .ok (.istore_n 2, 1) := by decide +kernel
theorem dX9_worst_42 : decode cX9_worst 42 = .ok (.iload_n 3, 1) := by decide +kernel
theorem dX9_worst_43 : decode cX9_worst 43 = .ok (.istore_n 1, 1) := by decide +kernel
theorem dX9_worst_44 : decode cX9_worst 44 = .ok (.iinc 3 1, 3) := by decide +kernel
theorem dX9_worst_47 : decode cX9_worst 47 = .ok (.goto (-31), 3) := by decide +kernel
theorem dX9_worst_50 : decode cX9_worst 50 = .ok (.iload_n 1, 1) := by decide +kernel
theorem dX9_worst_51 : decode cX9_worst 51 = .ok (.ireturn, 1) := by decide +kernel
theorem dX9_common_0 : decode cX9_common 0 = .ok (.lload_n 2, 1) := by decide +kernel
theorem dX9_common_1 : decode cX9_common 1 = .ok (.lconst 0, 1) := by decide +kernel
theorem dX9_common_2 : decode cX9_common 2 = .ok (.lcmp, 1) := by decide +kernel
theorem dX9_common_3 : decode cX9_common 3 = .ok (.ifCond .ne 7, 3) := by decide +kernel
theorem dX9_common_6 : decode cX9_common 6 = .ok (.lload_n 0, 1) := by decide +kernel
theorem dX9_common_7 : decode cX9_common 7 = .ok (.goto 10, 3) := by decide +kernel
theorem dX9_common_10 : decode cX9_common 10 = .ok (.lload_n 2, 1) := by decide +kernel
theorem dX9_common_11 : decode cX9_common 11 = .ok (.lload_n 0, 1) := by decide +kernel
theorem dX9_common_12 : decode cX9_common 12 = .ok (.lload_n 2, 1) := by decide +kernel
theorem dX9_common_13 : decode cX9_common 13 = .ok (.lrem, 1) := by decide +kernel
theorem dX9_common_14 : decode cX9_common 14 = .ok (.invokestatic 317, 3) := by decide +kernel
theorem dX9_common_17 : decode cX9_common 17 = .ok (.lreturn, 1) := by decide +kernel
theorem dX9_is__0 : decode cX9_is_ 0 = .ok (.lload_n 1, 1) := by decide +kernel
theorem dX9_is__1 : decode cX9_is_ 1 = .ok (.lload_n 1, 1) := by decide +kernel
theorem dX9_is__2 : decode cX9_is_ 2 = .ok (.lneg, 1) := by decide +kernel
theorem dX9_is__3 : decode cX9_is_ 3 = .ok (.invokestatic 321, 3) := by decide +kernel
theorem dX9_is__6 : decode cX9_is_ 6 = .ok (.lload_n 3, 1) := by decide +kernel
theorem dX9_is__7 : decode cX9_is_ 7 = .ok (.invokestatic 317, 3) := by decide +kernel
theorem dX9_is__10 : decode cX9_is_ 10 = .ok (.lstore 5, 2) := by decide +kernel
theorem dX9_is__12 : decode cX9_is_ 12 = .ok (.aload_n 0, 1) := by decide +kernel
theorem dX9_is__13 : decode cX9_is_ 13 = .ok (.lload_n 1, 1) := by decide +kernel
theorem dX9_is__14 : decode cX9_is_ 14 = .ok (.lload 5, 2) := by decide +kernel
theorem dX9_is__16 : decode cX9_is_ 16 = .ok (.ldiv, 1) := by decide +kernel
theorem dX9_is__17 : decode cX9_is_ 17 = .ok (.putfield 323, 3) := by decide +kernel
theorem dX9_is__20 : decode cX9_is_ 20 = .ok (.aload_n 0, 1) := by decide +kernel
theorem dX9_is__21 : decode cX9_is_ 21 = .ok (.lload_n 3, 1) := by decide +kernel
theorem dX9_is__22 : decode cX9_is_ 22 = .ok (.lload 5, 2) := by decide +kernel
theorem dX9_is__24 : decode cX9_is_ 24 = .ok (.ldiv, 1) := by decide +kernel
theorem dX9_is__25 : decode cX9_is_ 25 = .ok (.putfield 327, 3) := by decide +kernel
theorem dX9_is__28 : decode cX9_is_ 28 = .ok (.return_, 1) := by decide +kernel
theorem dX9_adds_0 : decode cX9_adds 0 = .ok (.aload_n 0, 1) := by decide +kernel
theorem dX9_adds_1 : decode cX9_adds 1 = .ok (.getfield 327, 3) := by decide +kernel
theorem dX9_adds_4 : decode cX9_adds 4 = .ok (.lload_n 3, 1) := by decide +kernel
theorem dX9_adds_5 : decode cX9_adds 5 = .ok (.invokestatic 317, 3) := by decide +kernel
theorem dX9_adds_8 : decode cX9_adds 8 = .ok (.lstore 5, 2) := by decide +kernel
theorem dX9_adds_10 : decode cX9_adds 10 = .ok (.aload_n 0, 1) := by decide +kernel
theorem dX9_adds_11 : decode cX9_adds 11 = .ok (.aload_n 0, 1) := by decide +kernel
theorem dX9_adds_12 : decode cX9_adds 12 = .ok (.getfield 323, 3) := by decide +kernel
theorem dX9_adds_15 : decode cX9_adds 15 = .ok (.lload_n 3, 1) := by decide +kernel
theorem dX9_adds_16 : decode cX9_adds 16 = .ok (.lload 5, 2) := by decide +kernel
theorem dX9_adds_18 : decode cX9_adds 18 = .ok (.ldiv, 1) := by decide +kernel
theorem dX9_adds_19 : decode cX9_adds 19 = .ok (.lmul, 1) := by decide +kernel
theorem dX9_adds_20 : decode cX9_adds 20 = .ok (.lload_n 1, 1) := by decide +kernel
theorem dX9_adds_21 : decode cX9_adds 21 = .ok (.aload_n 0, 1) := by decide +kernel
theorem dX9_adds_22 : decode cX9_adds 22 = .ok (.getfield 327, 3) := by decide +kernel
theorem dX9_adds_25 : decode cX9_adds 25 = .ok (.lload 5, 2) := by decide +kernel
theorem dX9_adds_27 : decode cX9_adds 27 = .ok (.ldiv, 1) := by decide +kernel
theorem dX9_adds_28 : decode cX9_adds 28 = .ok (.lmul, 1) := by decide +kernel
theorem dX9_adds_29 : decode cX9_adds 29 = .ok (.ladd, 1) := by decide +kernel
theorem dX9_adds_30 : decode cX9_adds 30 = .ok (.aload_n 0, 1) := by decide +kernel
theorem dX9_adds_31 : decode cX9_adds 31 = .ok (.getfield 327, 3) := by decide +kernel
theorem dX9_adds_34 : decode cX9_adds 34 = .ok (.lload 5, 2) := by decide +kernel
theorem dX9_adds_36 : decode cX9_adds 36 = .ok (.ldiv, 1) := by decide +kernel
theorem dX9_adds_37 : decode cX9_adds 37 = .ok (.lload_n 3, 1) := by decide +kernel
theorem dX9_adds_38 : decode cX9_adds 38 = .ok (.lmul, 1) := by decide +kernel
theorem dX9_adds_39 : decode cX9_adds 39 = .ok (.invokevirtual 330, 3) := by decide +kernel
theorem dX9_adds_42 : decode cX9_adds 42 = .ok (.return_, 1) := by decide +kernel
theorem dX9_times_0 : decode cX9_times 0 = .ok (.lload_n 1, 1) := by decide +kernel
theorem dX9_times_1 : decode cX9_times 1 = .ok (.lload_n 1, 1) := by decide +kernel
theorem dX9_times_2 : decode cX9_times 2 = .ok (.lneg, 1) := by decide +kernel
theorem dX9_times_3 : decode cX9_times 3 = .ok (.invokestatic 321, 3) := by decide +kernel
theorem dX9_times_6 : decode cX9_times 6 = .ok (.aload_n 0, 1) := by decide +kernel
theorem dX9_times_7 : decode cX9_times 7 = .ok (.getfield 327, 3) := by decide +kernel
theorem dX9_times_10 : decode cX9_times 10 = .ok (.invokestatic 317, 3) := by decide +kernel
theorem dX9_times_13 : decode cX9_times 13 = .ok (.lstore 5, 2) := by decide +kernel
theorem dX9_times_15 : decode cX9_times 15 = .ok (.aload_n 0, 1) := by decide +kernel
theorem dX9_times_16 : decode cX9_times 16 = .ok (.getfield 323, 3) := by decide +kernel
theorem dX9_times_19 : decode cX9_times 19 = .ok (.aload_n 0, 1) := by decide +kernel
theorem dX9_times_20 : decode cX9_times 20 = .ok (.getfield 323, 3) := by decide +kernel
theorem dX9_times_23 : decode cX9_times 23 = .ok (.lneg, 1) := by decide +kernel
theorem dX9_times_24 : decode cX9_times 24 = .ok (.invokestatic 321, 3) := by decide +kernel
theorem dX9_times_27 : decode cX9_times 27 = .ok (.lload_n 3, 1) := by decide +kernel
theorem dX9_times_28 : decode cX9_times 28 = .ok (.invokestatic 317, 3) := by decide +kernel
theorem dX9_times_31 : decode cX9_times 31 = .ok (.lstore 7, 2) := by decide +kernel
theorem dX9_times_33 : decode cX9_times 33 = .ok (.aload_n 0, 1) := by decide +kernel
theorem dX9_times_34 : decode cX9_times 34 = .ok (.aload_n 0, 1) := by decide +kernel
theorem dX9_times_35 : decode cX9_times 35 = .ok (.getfield 323, 3) := by decide +kernel
theorem dX9_times_38 : decode cX9_times 38 = .ok (.lload 7, 2) := by decide +kernel
theorem dX9_times_40 : decode cX9_times 40 = .ok (.ldiv, 1) := by decide +kernel
theorem dX9_times_41 : decode cX9_times 41 = .ok (.lload_n 1, 1) := by decide +kernel
theorem dX9_times_42 : decode cX9_times 42 = .ok (.lload 5, 2) := by decide +kernel
theorem dX9_times_44 : decode cX9_times 44 = .ok (.ldiv, 1) := by decide +kernel
theorem dX9_times_45 : decode cX9_times 45 = .ok (.lmul, 1) := by decide +kernel
theorem dX9_times_46 : decode cX9_times 46 = .ok (.aload_n 0, 1) := by decide +kernel
theorem dX9_times_47 : decode cX9_times 47 = .ok (.getfield 327, 3) := by decide +kernel
theorem dX9_times_50 : decode cX9_times 50 = .ok (.lload 5, 2) := by decide +kernel
theorem dX9_times_52 : decode cX9_times 52 = .ok (.ldiv, 1) := by decide +kernel
theorem dX9_times_53 : decode cX9_times 53 = .ok (.lload_n 3, 1) := by decide +kernel
theorem dX9_times_54 : decode cX9_times 54 = .ok (.lload 7, 2) := by decide +kernel
theorem dX9_times_56 : decode cX9_times 56 = .ok (.ldiv, 1) := by decide +kernel
theorem dX9_times_57 : decode cX9_times 57 = .ok (.lmul, 1) := by decide +kernel
theorem dX9_times_58 : decode cX9_times 58 = .ok (.invokevirtual 330, 3) := by decide +kernel
theorem dX9_times_61 : decode cX9_times 61 = .ok (.return_, 1) := by decide +kernel
theorem dX9_choose_0 : decode cX9_choose 0 = .ok (.lconst 1, 1) := by decide +kernel
theorem dX9_choose_1 : decode cX9_choose 1 = .ok (.lstore_n 2, 1) := by decide +kernel
theorem dX9_choose_2 : decode cX9_choose 2 = .ok (.iconst 1, 1) := by decide +kernel
theorem dX9_choose_3 : decode cX9_choose 3 = .ok (.istore 4, 2) := by decide +kernel
theorem dX9_choose_5 : decode cX9_choose 5 = .ok (.iload 4, 2) := by decide +kernel
theorem dX9_choose_7 : decode cX9_choose 7 = .ok (.iload_n 1, 1) := by decide +kernel
theorem dX9_choose_8 : decode cX9_choose 8 = .ok (.if_icmp .gt 23, 3) := by decide +kernel
theorem dX9_choose_11 : decode cX9_choose 11 = .ok (.lload_n 2, 1) := by decide +kernel
theorem dX9_choose_12 : decode cX9_choose 12 = .ok (.iload_n 0, 1) := by decide +kernel
theorem dX9_choose_13 : decode cX9_choose 13 = .ok (.iload_n 1, 1) := by decide +kernel
theorem dX9_choose_14 : decode cX9_choose 14 = .ok (.isub, 1) := by decide +kernel
theorem dX9_choose_15 : decode cX9_choose 15 = .ok (.iload 4, 2) := by decide +kernel
theorem dX9_choose_17 : decode cX9_choose 17 = .ok (.iadd, 1) := by decide +kernel
theorem dX9_choose_18 : decode cX9_choose 18 = .ok (.i2l, 1) := by decide +kernel
theorem dX9_choose_19 : decode cX9_choose 19 = .ok (.lmul, 1) := by decide +kernel
theorem dX9_choose_20 : decode cX9_choose 20 = .ok (.iload 4, 2) := by decide +kernel
theorem dX9_choose_22 : decode cX9_choose 22 = .ok (.i2l, 1) := by decide +kernel
theorem dX9_choose_23 : decode cX9_choose 23 = .ok (.ldiv, 1) := by decide +kernel
theorem dX9_choose_24 : decode cX9_choose 24 = .ok (.lstore_n 2, 1) := by decide +kernel
theorem dX9_choose_25 : decode cX9_choose 25 = .ok (.iinc 4 1, 3) := by decide +kernel
theorem dX9_choose_28 : decode cX9_choose 28 = .ok (.goto (-23), 3) := by decide +kernel
theorem dX9_choose_31 : decode cX9_choose 31 = .ok (.lload_n 2, 1) := by decide +kernel
theorem dX9_choose_32 : decode cX9_choose 32 = .ok (.lreturn, 1) := by decide +kernel
theorem dX9_power_0 : decode cX9_power 0 = .ok (.lconst 1, 1) := by decide +kernel
theorem dX9_power_1 : decode cX9_power 1 = .ok (.lstore_n 3, 1) := by decide +kernel
theorem dX9_power_2 : decode cX9_power 2 = .ok (.iconst 0, 1) := by decide +kernel
theorem dX9_power_3 : decode cX9_power 3 = .ok (.istore 5, 2) := by decide +kernel
theorem dX9_power_5 : decode cX9_power 5 = .ok (.iload 5, 2) := by decide +kernel
theorem dX9_power_7 : decode cX9_power 7 = .ok (.iload_n 2, 1) := by decide +kernel
theorem dX9_power_8 : decode cX9_power 8 = .ok (.if_icmp .ge 13, 3) := by decide +kernel
theorem dX9_power_11 : decode cX9_power 11 = .ok (.lload_n 3, 1) := by decide +kernel
theorem dX9_power_12 : decode cX9_power 12 = .ok (.lload_n 0, 1) := by decide +kernel
theorem dX9_power_13 : decode cX9_power 13 = .ok (.lmul, 1) := by decide +kernel
theorem dX9_power_14 : decode cX9_power 14 = .ok (.lstore_n 3, 1) := by decide +kernel
theorem dX9_power_15 : decode cX9_power 15 = .ok (.iinc 5 1, 3) := by decide +kernel
theorem dX9_power_18 : decode cX9_power 18 = .ok (.goto (-13), 3) := by decide +kernel
theorem dX9_power_21 : decode cX9_power 21 = .ok (.lload_n 3, 1) := by decide +kernel
theorem dX9_power_22 : decode cX9_power 22 = .ok (.lreturn, 1) := by decide +kernel
theorem dX9_means_0 : decode cX9_means 0 = .ok (.iconst 0, 1) := by decide +kernel
theorem dX9_means_1 : decode cX9_means 1 = .ok (.istore 7, 2) := by decide +kernel
theorem dX9_means_3 : decode cX9_means 3 = .ok (.iload 7, 2) := by decide +kernel
theorem dX9_means_5 : decode cX9_means 5 = .ok (.iload_n 2, 1) := by decide +kernel
theorem dX9_means_6 : decode cX9_means 6 = .ok (.if_icmp .gt 267, 3) := by decide +kernel
theorem dX9_means_9 : decode cX9_means 9 = .ok (.iload 7, 2) := by decide +kernel
theorem dX9_means_11 : decode cX9_means 11 = .ok (.iconst 2, 1) := by decide +kernel
theorem dX9_means_12 : decode cX9_means 12 = .ok (.if_icmp .ge 22, 3) := by decide +kernel
theorem dX9_means_15 : decode cX9_means 15 = .ok (.aload_n 0, 1) := by decide +kernel
theorem dX9_means_16 : decode cX9_means 16 = .ok (.getfield 68, 3) := by decide +kernel
theorem dX9_means_19 : decode cX9_means 19 = .ok (.iload 7, 2) := by decide +kernel
theorem dX9_means_21 : decode cX9_means 21 = .ok (.lconst 1, 1) := by decide +kernel
theorem dX9_means_22 : decode cX9_means 22 = .ok (.lastore, 1) := by decide +kernel
theorem dX9_means_23 : decode cX9_means 23 = .ok (.aload_n 0, 1) := by decide +kernel
theorem dX9_means_24 : decode cX9_means 24 = .ok (.getfield 72, 3) := by decide +kernel
theorem dX9_means_27 : decode cX9_means 27 = .ok (.iload 7, 2) := by decide +kernel
theorem dX9_means_29 : decode cX9_means 29 = .ok (.lconst 1, 1) := by decide +kernel
theorem dX9_means_30 : decode cX9_means 30 = .ok (.lastore, 1) := by decide +kernel
theorem dX9_means_31 : decode cX9_means 31 = .ok (.goto 236, 3) := by decide +kernel
theorem dX9_means_34 : decode cX9_means 34 = .ok (.lload 5, 2) := by decide +kernel
theorem dX9_means_36 : decode cX9_means 36 = .ok (.iload 7, 2) := by decide +kernel
theorem dX9_means_38 : decode cX9_means 38 = .ok (.invokestatic 333, 3) := by decide +kernel
theorem dX9_means_41 : decode cX9_means 41 = .ok (.lstore 8, 2) := by decide +kernel
theorem dX9_means_43 : decode cX9_means 43 = .ok (.lload_n 3, 1) := by decide +kernel
theorem dX9_means_44 : decode cX9_means 44 = .ok (.iload 7, 2) := by decide +kernel
theorem dX9_means_46 : decode cX9_means 46 = .ok (.invokestatic 333, 3) := by decide +kernel
theorem dX9_means_49 : decode cX9_means 49 = .ok (.lstore 10, 2) := by decide +kernel
theorem dX9_means_51 : decode cX9_means 51 = .ok (.lload 5, 2) := by decide +kernel
theorem dX9_means_53 : decode cX9_means 53 = .ok (.lload_n 3, 1) := by decide +kernel
theorem dX9_means_54 : decode cX9_means 54 = .ok (.lsub, 1) := by decide +kernel
theorem dX9_means_55 : decode cX9_means 55 = .ok (.iload 7, 2) := by decide +kernel
theorem dX9_means_57 : decode cX9_means 57 = .ok (.invokestatic 333, 3) := by decide +kernel
theorem dX9_means_60 : decode cX9_means 60 = .ok (.lstore 12, 2) := by decide +kernel
theorem dX9_means_62 : decode cX9_means 62 = .ok (.lload 8, 2) := by decide +kernel
theorem dX9_means_64 : decode cX9_means 64 = .ok (.lload 10, 2) := by decide +kernel
theorem dX9_means_66 : decode cX9_means 66 = .ok (.ladd, 1) := by decide +kernel
theorem dX9_means_67 : decode cX9_means 67 = .ok (.lload 12, 2) := by decide +kernel
theorem dX9_means_69 : decode cX9_means 69 = .ok (.ladd, 1) := by decide +kernel
theorem dX9_means_70 : decode cX9_means 70 = .ok (.iload_n 1, 1) := by decide +kernel
theorem dX9_means_71 : decode cX9_means 71 = .ok (.iconst 1, 1) := by decide +kernel
theorem dX9_means_72 : decode cX9_means 72 = .ok (.if_icmp .ne 8, 3) := by decide +kernel
theorem dX9_means_75 : decode cX9_means 75 = .ok (.lload 12, 2) := by decide +kernel
theorem dX9_means_77 : decode cX9_means 77 = .ok (.goto 4, 3) := by decide +kernel
theorem dX9_means_80 : decode cX9_means 80 = .ok (.lconst 0, 1) := by decide +kernel
theorem dX9_means_81 : decode cX9_means 81 = .ok (.lsub, 1) := by decide +kernel
theorem dX9_means_82 : decode cX9_means 82 = .ok (.lstore 14, 2) := by decide +kernel
theorem dX9_means_84 : decode cX9_means 84 = .ok (.lload 14, 2) := by decide +kernel
theorem dX9_means_86 : decode cX9_means 86 = .ok (.lstore 16, 2) := by decide +kernel
theorem dX9_means_88 : decode cX9_means 88 = .ok (.lload 8, 2) := by decide +kernel
theorem dX9_means_90 : decode cX9_means 90 = .ok (.lstore 18, 2) := by decide +kernel
theorem dX9_means_92 : decode cX9_means 92 = .ok (.iconst 1, 1) := by decide +kernel
theorem dX9_means_93 : decode cX9_means 93 = .ok (.istore 20, 2) := by decide +kernel
theorem dX9_means_95 : decode cX9_means 95 = .ok (.iload 20, 2) := by decide +kernel
theorem dX9_means_97 : decode cX9_means 97 = .ok (.iload 7, 2) := by decide +kernel
theorem dX9_means_99 : decode cX9_means 99 = .ok (.if_icmp .ge 124, 3) := by decide +kernel
theorem dX9_means_102 : decode cX9_means 102 = .ok (.aload_n 0, 1) := by decide +kernel
theorem dX9_means_103 : decode cX9_means 103 = .ok (.iload 7, 2) := by decide +kernel
theorem dX9_means_105 : decode cX9_means 105 = .ok (.iload 20, 2) := by decide +kernel
theorem dX9_means_107 : decode cX9_means 107 = .ok (.invokestatic 337, 3) := by decide +kernel
theorem dX9_means_110 : decode cX9_means 110 = .ok (.lload_n 3, 1) := by decide +kernel
theorem dX9_means_111 : decode cX9_means 111 = .ok (.iload 20, 2) := by decide +kernel
theorem dX9_means_113 : decode cX9_means 113 = .ok (.invokestatic 333, 3) := by decide +kernel
theorem dX9_means_116 : decode cX9_means 116 = .ok (.lmul, 1) := by decide +kernel
theorem dX9_means_117 : decode cX9_means 117 = .ok (.lload 5, 2) := by decide +kernel
theorem dX9_means_119 : decode cX9_means 119 = .ok (.lload_n 3, 1) := by decide +kernel
theorem dX9_means_120 : decode cX9_means 120 = .ok (.lsub, 1) := by decide +kernel
theorem dX9_means_121 : decode cX9_means 121 = .ok (.iload 7, 2) := by decide +kernel
theorem dX9_means_123 : decode cX9_means 123 = .ok (.iload 20, 2) := by decide +kernel
theorem dX9_means_125 : decode cX9_means 125 = .ok (.isub, 1) := by decide +kernel
theorem dX9_means_126 : decode cX9_means 126 = .ok (.invokestatic 333, 3) := by decide +kernel
theorem dX9_means_129 : decode cX9_means 129 = .ok (.lmul, 1) := by decide +kernel
theorem dX9_means_130 : decode cX9_means 130 = .ok (.lload 8, 2) := by decide +kernel
theorem dX9_means_132 : decode cX9_means 132 = .ok (.invokevirtual 330, 3) := by decide +kernel
theorem dX9_means_135 : decode cX9_means 135 = .ok (.aload_n 0, 1) := by decide +kernel
theorem dX9_means_136 : decode cX9_means 136 = .ok (.getfield 323, 3) := by decide +kernel
theorem dX9_means_139 : decode cX9_means 139 = .ok (.lstore 21, 2) := by decide +kernel
theorem dX9_means_141 : decode cX9_means 141 = .ok (.aload_n 0, 1) := by decide +kernel
theorem dX9_means_142 : decode cX9_means 142 = .ok (.getfield 327, 3) := by decide +kernel
theorem dX9_means_145 : decode cX9_means 145 = .ok (.lstore 23, 2) := by decide +kernel
theorem dX9_means_147 : decode cX9_means 147 = .ok (.aload_n 0, 1) := by decide +kernel
theorem dX9_means_148 : decode cX9_means 148 = .ok (.aload_n 0, 1) := by decide +kernel
theorem dX9_means_149 : decode cX9_means 149 = .ok (.getfield 68, 3) := by decide +kernel
theorem dX9_means_152 : decode cX9_means 152 = .ok (.iload 20, 2) := by decide +kernel
theorem dX9_means_154 : decode cX9_means 154 = .ok (.laload, 1) := by decide +kernel
theorem dX9_means_155 : decode cX9_means 155 = .ok (.aload_n 0, 1) := by decide +kernel
theorem dX9_means_156 : decode cX9_means 156 = .ok (.getfield 72, 3) := by decide +kernel
theorem dX9_means_159 : decode cX9_means 159 = .ok (.iload 20, 2) := by decide +kernel
theorem dX9_means_161 : decode cX9_means 161 = .ok (.laload, 1) := by decide +kernel
theorem dX9_means_162 : decode cX9_means 162 = .ok (.invokevirtual 330, 3) := by decide +kernel
theorem dX9_means_165 : decode cX9_means 165 = .ok (.aload_n 0, 1) := by decide +kernel
theorem dX9_means_166 : decode cX9_means 166 = .ok (.aload_n 0, 1) := by decide +kernel
theorem dX9_means_167 : decode cX9_means 167 = .ok (.getfield 68, 3) := by decide +kernel
theorem dX9_means_170 : decode cX9_means 170 = .ok (.iload 7, 2) := by decide +kernel
theorem dX9_means_172 : decode cX9_means 172 = .ok (.iload 20, 2) := by decide +kernel
theorem dX9_means_174 : decode cX9_means 174 = .ok (.isub, 1) := by decide +kernel
theorem dX9_means_175 : decode cX9_means 175 = .ok (.laload, 1) := by decide +kernel
theorem dX9_means_176 : decode cX9_means 176 = .ok (.aload_n 0, 1) := by decide +kernel
theorem dX9_means_177 : decode cX9_means 177 = .ok (.getfield 72, 3) := by decide +kernel
theorem dX9_means_180 : decode cX9_means 180 = .ok (.iload 7, 2) := by decide +kernel
theorem dX9_means_182 : decode cX9_means 182 = .ok (.iload 20, 2) := by decide +kernel
theorem dX9_means_184 : decode cX9_means 184 = .ok (.isub, 1) := by decide +kernel
theorem dX9_means_185 : decode cX9_means 185 = .ok (.laload, 1) := by decide +kernel
theorem dX9_means_186 : decode cX9_means 186 = .ok (.invokevirtual 341, 3) := by decide +kernel
theorem dX9_means_189 : decode cX9_means 189 = .ok (.aload_n 0, 1) := by decide +kernel
theorem dX9_means_190 : decode cX9_means 190 = .ok (.lload 21, 2) := by decide +kernel
theorem dX9_means_192 : decode cX9_means 192 = .ok (.lload 23, 2) := by decide +kernel
theorem dX9_means_194 : decode cX9_means 194 = .ok (.invokevirtual 344, 3) := by decide +kernel
theorem dX9_means_197 : decode cX9_means 197 = .ok (.aload_n 0, 1) := by decide +kernel
theorem dX9_means_198 : decode cX9_means 198 = .ok (.lload 16, 2) := by decide +kernel
theorem dX9_means_200 : decode cX9_means 200 = .ok (.lload 18, 2) := by decide +kernel
theorem dX9_means_202 : decode cX9_means 202 = .ok (.invokevirtual 341, 3) := by decide +kernel
theorem dX9_means_205 : decode cX9_means 205 = .ok (.aload_n 0, 1) := by decide +kernel
theorem dX9_means_206 : decode cX9_means 206 = .ok (.getfield 323, 3) := by decide +kernel
theorem dX9_means_209 : decode cX9_means 209 = .ok (.lstore 16, 2) := by decide +kernel
theorem dX9_means_211 : decode cX9_means 211 = .ok (.aload_n 0, 1) := by decide +kernel
theorem dX9_means_212 : decode cX9_means 212 = .ok (.getfield 327, 3) := by decide +kernel
theorem dX9_means_215 : decode cX9_means 215 = .ok (.lstore 18, 2) := by decide +kernel
theorem dX9_means_217 : decode cX9_means 217 = .ok (.iinc 20 1, 3) := by decide +kernel
theorem dX9_means_220 : decode cX9_means 220 = .ok (.goto (-125), 3) := by decide +kernel
theorem dX9_means_223 : decode cX9_means 223 = .ok (.aload_n 0, 1) := by decide +kernel
theorem dX9_means_224 : decode cX9_means 224 = .ok (.lload 16, 2) := by decide +kernel
theorem dX9_means_226 : decode cX9_means 226 = .ok (.lload 18, 2) := by decide +kernel
theorem dX9_means_228 : decode cX9_means 228 = .ok (.invokevirtual 330, 3) := by decide +kernel
theorem dX9_means_231 : decode cX9_means 231 = .ok (.aload_n 0, 1) := by decide +kernel
theorem dX9_means_232 : decode cX9_means 232 = .ok (.lload 8, 2) := by decide +kernel
theorem dX9_means_234 : decode cX9_means 234 = .ok (.lload 8, 2) := by decide +kernel
theorem dX9_means_236 : decode cX9_means 236 = .ok (.lload 10, 2) := by decide +kernel
theorem dX9_means_238 : decode cX9_means 238 = .ok (.lsub, 1) := by decide +kernel
theorem dX9_means_239 : decode cX9_means 239 = .ok (.lload 12, 2) := by decide +kernel
theorem dX9_means_241 : decode cX9_means 241 = .ok (.lsub, 1) := by decide +kernel
theorem dX9_means_242 : decode cX9_means 242 = .ok (.invokevirtual 344, 3) := by decide +kernel
theorem dX9_means_245 : decode cX9_means 245 = .ok (.aload_n 0, 1) := by decide +kernel
theorem dX9_means_246 : decode cX9_means 246 = .ok (.getfield 68, 3) := by decide +kernel
theorem dX9_means_249 : decode cX9_means 249 = .ok (.iload 7, 2) := by decide +kernel
theorem dX9_means_251 : decode cX9_means 251 = .ok (.aload_n 0, 1) := by decide +kernel
theorem dX9_means_252 : decode cX9_means 252 = .ok (.getfield 323, 3) := by decide +kernel
theorem dX9_means_255 : decode cX9_means 255 = .ok (.lastore, 1) := by decide +kernel
theorem dX9_means_256 : decode cX9_means 256 = .ok (.aload_n 0, 1) := by decide +kernel
theorem dX9_means_257 : decode cX9_means 257 = .ok (.getfield 72, 3) := by decide +kernel
theorem dX9_means_260 : decode cX9_means 260 = .ok (.iload 7, 2) := by decide +kernel
theorem dX9_means_262 : decode cX9_means 262 = .ok (.aload_n 0, 1) := by decide +kernel
theorem dX9_means_263 : decode cX9_means 263 = .ok (.getfield 327, 3) := by decide +kernel
theorem dX9_means_266 : decode cX9_means 266 = .ok (.lastore, 1) := by decide +kernel
theorem dX9_means_267 : decode cX9_means 267 = .ok (.iinc 7 1, 3) := by decide +kernel
theorem dX9_means_270 : decode cX9_means 270 = .ok (.goto (-267), 3) := by decide +kernel
theorem dX9_means_273 : decode cX9_means 273 = .ok (.return_, 1) := by decide +kernel
theorem dX9_isMean_0 : decode cX9_isMean 0 = .ok (.iload_n 0, 1) := by decide +kernel
theorem dX9_isMean_1 : decode cX9_isMean 1 = .ok (.i2l, 1) := by decide +kernel
theorem dX9_isMean_2 : decode cX9_isMean 2 = .ok (.lconst 0, 1) := by decide +kernel
theorem dX9_isMean_3 : decode cX9_isMean 3 = .ok (.lconst 1, 1) := by decide +kernel
theorem dX9_isMean_4 : decode cX9_isMean 4 = .ok (.invokestatic 84, 3) := by decide +kernel
theorem dX9_isMean_7 : decode cX9_isMean 7 = .ok (.ifCond .eq 28, 3) := by decide +kernel
theorem dX9_isMean_10 : decode cX9_isMean 10 = .ok (.iload_n 1, 1) := by decide +kernel
theorem dX9_isMean_11 : decode cX9_isMean 11 = .ok (.i2l, 1) := by decide +kernel
theorem dX9_isMean_12 : decode cX9_isMean 12 = .ok (.lconst 0, 1) := by decide +kernel
theorem dX9_isMean_13 : decode cX9_isMean 13 = .ok (.iload_n 2, 1) := by decide +kernel
theorem dX9_isMean_14 : decode cX9_isMean 14 = .ok (.i2l, 1) := by decide +kernel
theorem dX9_isMean_15 : decode cX9_isMean 15 = .ok (.invokestatic 84, 3) := by decide +kernel
theorem dX9_isMean_18 : decode cX9_isMean 18 = .ok (.ifCond .eq 17, 3) := by decide +kernel
theorem dX9_isMean_21 : decode cX9_isMean 21 = .ok (.iload_n 3, 1) := by decide +kernel
theorem dX9_isMean_22 : decode cX9_isMean 22 = .ok (.i2l, 1) := by decide +kernel
theorem dX9_isMean_23 : decode cX9_isMean 23 = .ok (.lconst 0, 1) := by decide +kernel
theorem dX9_isMean_24 : decode cX9_isMean 24 = .ok (.lconst 1, 1) := by decide +kernel
theorem dX9_isMean_25 : decode cX9_isMean 25 = .ok (.invokestatic 84, 3) := by decide +kernel
theorem dX9_isMean_28 : decode cX9_isMean 28 = .ok (.ifCond .eq 7, 3) := by decide +kernel
theorem dX9_isMean_31 : decode cX9_isMean 31 = .ok (.iconst 1, 1) := by decide +kernel
theorem dX9_isMean_32 : decode cX9_isMean 32 = .ok (.goto 4, 3) := by decide +kernel
theorem dX9_isMean_35 : decode cX9_isMean 35 = .ok (.iconst 0, 1) := by decide +kernel
theorem dX9_isMean_36 : decode cX9_isMean 36 = .ok (.ireturn, 1) := by decide +kernel
theorem dX9_mean_0 : decode cX9_mean 0 = .ok (.iload_n 1, 1) := by decide +kernel
theorem dX9_mean_1 : decode cX9_mean 1 = .ok (.iload_n 2, 1) := by decide +kernel
theorem dX9_mean_2 : decode cX9_mean 2 = .ok (.bipush 8, 2) := by decide +kernel
theorem dX9_mean_4 : decode cX9_mean 4 = .ok (.iload_n 3, 1) := by decide +kernel
theorem dX9_mean_5 : decode cX9_mean 5 = .ok (.invokestatic 347, 3) := by decide +kernel
theorem dX9_mean_8 : decode cX9_mean 8 = .ok (.ifCond .ne 7, 3) := by decide +kernel
theorem dX9_mean_11 : decode cX9_mean 11 = .ok (.ldc2_w 351, 3) := by decide +kernel
theorem dX9_mean_14 : decode cX9_mean 14 = .ok (.lreturn, 1) := by decide +kernel
theorem dX9_mean_15 : decode cX9_mean 15 = .ok (.aload_n 0, 1) := by decide +kernel
theorem dX9_mean_16 : decode cX9_mean 16 = .ok (.iload_n 1, 1) := by decide +kernel
theorem dX9_mean_17 : decode cX9_mean 17 = .ok (.iload_n 2, 1) := by decide +kernel
theorem dX9_mean_18 : decode cX9_mean 18 = .ok (.lconst 1, 1) := by decide +kernel
theorem dX9_mean_19 : decode cX9_mean 19 = .ok (.ldc2_w 304, 3) := by decide +kernel
theorem dX9_mean_22 : decode cX9_mean 22 = .ok (.invokevirtual 353, 3) := by decide +kernel
theorem dX9_mean_25 : decode cX9_mean 25 = .ok (.iload_n 3, 1) := by decide +kernel
theorem dX9_mean_26 : decode cX9_mean 26 = .ok (.ifCond .ne 12, 3) := by decide +kernel
theorem dX9_mean_29 : decode cX9_mean 29 = .ok (.aload_n 0, 1) := by decide +kernel
theorem dX9_mean_30 : decode cX9_mean 30 = .ok (.getfield 68, 3) := by decide +kernel
theorem dX9_mean_33 : decode cX9_mean 33 = .ok (.iload_n 2, 1) := by decide +kernel
theorem dX9_mean_34 : decode cX9_mean 34 = .ok (.laload, 1) := by decide +kernel
theorem dX9_mean_35 : decode cX9_mean 35 = .ok (.goto 9, 3) := by decide +kernel
theorem dX9_mean_38 : decode cX9_mean 38 = .ok (.aload_n 0, 1) := by decide +kernel
theorem dX9_mean_39 : decode cX9_mean 39 = .ok (.getfield 72, 3) := by decide +kernel
theorem dX9_mean_42 : decode cX9_mean 42 = .ok (.iload_n 2, 1) := by decide +kernel
theorem dX9_mean_43 : decode cX9_mean 43 = .ok (.laload, 1) := by decide +kernel
theorem dX9_mean_44 : decode cX9_mean 44 = .ok (.lreturn, 1) := by decide +kernel
theorem dX9_leaning_0 : decode cX9_leaning 0 = .ok (.iload_n 1, 1) := by decide +kernel
theorem dX9_leaning_1 : decode cX9_leaning 1 = .ok (.iload_n 2, 1) := by decide +kernel
theorem dX9_leaning_2 : decode cX9_leaning 2 = .ok (.iconst 5, 1) := by decide +kernel
theorem dX9_leaning_3 : decode cX9_leaning 3 = .ok (.iload 5, 2) := by decide +kernel
theorem dX9_leaning_5 : decode cX9_leaning 5 = .ok (.invokestatic 347, 3) := by decide +kernel
theorem dX9_leaning_8 : decode cX9_leaning 8 = .ok (.ifCond .eq 31, 3) := by decide +kernel
theorem dX9_leaning_11 : decode cX9_leaning 11 = .ok (.iload_n 3, 1) := by decide +kernel
theorem dX9_leaning_12 : decode cX9_leaning 12 = .ok (.i2l, 1) := by decide +kernel
theorem dX9_leaning_13 : decode cX9_leaning 13 = .ok (.lconst 1, 1) := by decide +kernel
theorem dX9_leaning_14 : decode cX9_leaning 14 = .ok (.ldc2_w 296, 3) := by decide +kernel
theorem dX9_leaning_17 : decode cX9_leaning 17 = .ok (.invokestatic 84, 3) := by decide +kernel
theorem dX9_leaning_20 : decode cX9_leaning 20 = .ok (.ifCond .eq 19, 3) := by decide +kernel
theorem dX9_leaning_23 : decode cX9_leaning 23 = .ok (.iload 4, 2) := by decide +kernel
theorem dX9_leaning_25 : decode cX9_leaning 25 = .ok (.i2l, 1) := by decide +kernel
theorem dX9_leaning_26 : decode cX9_leaning 26 = .ok (.iload_n 3, 1) := by decide +kernel
theorem dX9_leaning_27 : decode cX9_leaning 27 = .ok (.iconst 1, 1) := by decide +kernel
theorem dX9_leaning_28 : decode cX9_leaning 28 = .ok (.iadd, 1) := by decide +kernel
theorem dX9_leaning_29 : decode cX9_leaning 29 = .ok (.i2l, 1) := by decide +kernel
theorem dX9_leaning_30 : decode cX9_leaning 30 = .ok (.ldc2_w 357, 3) := by decide +kernel
theorem dX9_leaning_33 : decode cX9_leaning 33 = .ok (.invokestatic 84, 3) := by decide +kernel
theorem dX9_leaning_36 : decode cX9_leaning 36 = .ok (.ifCond .ne 7, 3) := by decide +kernel
theorem dX9_leaning_39 : decode cX9_leaning 39 = .ok (.ldc2_w 351, 3) := by decide +kernel
theorem dX9_leaning_42 : decode cX9_leaning 42 = .ok (.lreturn, 1) := by decide +kernel
theorem dX9_leaning_43 : decode cX9_leaning 43 = .ok (.aload_n 0, 1) := by decide +kernel
theorem dX9_leaning_44 : decode cX9_leaning 44 = .ok (.iload_n 1, 1) := by decide +kernel
theorem dX9_leaning_45 : decode cX9_leaning 45 = .ok (.iload_n 2, 1) := by decide +kernel
theorem dX9_leaning_46 : decode cX9_leaning 46 = .ok (.iload_n 3, 1) := by decide +kernel
theorem dX9_leaning_47 : decode cX9_leaning 47 = .ok (.i2l, 1) := by decide +kernel
theorem dX9_leaning_48 : decode cX9_leaning 48 = .ok (.iload 4, 2) := by decide +kernel
theorem dX9_leaning_50 : decode cX9_leaning 50 = .ok (.i2l, 1) := by decide +kernel
theorem dX9_leaning_51 : decode cX9_leaning 51 = .ok (.invokevirtual 353, 3) := by decide +kernel
theorem dX9_leaning_54 : decode cX9_leaning 54 = .ok (.iload 5, 2) := by decide +kernel
theorem dX9_leaning_56 : decode cX9_leaning 56 = .ok (.ifCond .ne 12, 3) := by decide +kernel
theorem dX9_leaning_59 : decode cX9_leaning 59 = .ok (.aload_n 0, 1) := by decide +kernel
theorem dX9_leaning_60 : decode cX9_leaning 60 = .ok (.getfield 68, 3) := by decide +kernel
theorem dX9_leaning_63 : decode cX9_leaning 63 = .ok (.iload_n 2, 1) := by decide +kernel
theorem dX9_leaning_64 : decode cX9_leaning 64 = .ok (.laload, 1) := by decide +kernel
theorem dX9_leaning_65 : decode cX9_leaning 65 = .ok (.goto 9, 3) := by decide +kernel
theorem dX9_leaning_68 : decode cX9_leaning 68 = .ok (.aload_n 0, 1) := by decide +kernel
theorem dX9_leaning_69 : decode cX9_leaning 69 = .ok (.getfield 72, 3) := by decide +kernel
theorem dX9_leaning_72 : decode cX9_leaning 72 = .ok (.iload_n 2, 1) := by decide +kernel
theorem dX9_leaning_73 : decode cX9_leaning 73 = .ok (.laload, 1) := by decide +kernel
theorem dX9_leaning_74 : decode cX9_leaning 74 = .ok (.lreturn, 1) := by decide +kernel
theorem dX9_chances_0 : decode cX9_chances 0 = .ok (.iconst 0, 1) := by decide +kernel
theorem dX9_chances_1 : decode cX9_chances 1 = .ok (.istore 4, 2) := by decide +kernel
theorem dX9_chances_3 : decode cX9_chances 3 = .ok (.iload 4, 2) := by decide +kernel
theorem dX9_chances_5 : decode cX9_chances 5 = .ok (.iload_n 3, 1) := by decide +kernel
theorem dX9_chances_6 : decode cX9_chances 6 = .ok (.if_icmp .gt 92, 3) := by decide +kernel
theorem dX9_chances_9 : decode cX9_chances 9 = .ok (.iconst 0, 1) := by decide +kernel
theorem dX9_chances_10 : decode cX9_chances 10 = .ok (.istore 5, 2) := by decide +kernel
theorem dX9_chances_12 : decode cX9_chances 12 = .ok (.iload 5, 2) := by decide +kernel
theorem dX9_chances_14 : decode cX9_chances 14 = .ok (.iload_n 2, 1) := by decide +kernel
theorem dX9_chances_15 : decode cX9_chances 15 = .ok (.if_icmp .gt 77, 3) := by decide +kernel
theorem dX9_chances_18 : decode cX9_chances 18 = .ok (.iload 5, 2) := by decide +kernel
theorem dX9_chances_20 : decode cX9_chances 20 = .ok (.iconst 2, 1) := by decide +kernel
theorem dX9_chances_21 : decode cX9_chances 21 = .ok (.if_icmp .ge 22, 3) := by decide +kernel
theorem dX9_chances_24 : decode cX9_chances 24 = .ok (.aload_n 0, 1) := by decide +kernel
theorem dX9_chances_25 : decode cX9_chances 25 = .ok (.iload 4, 2) := by decide +kernel
theorem dX9_chances_27 : decode cX9_chances 27 = .ok (.iconst 1, 1) := by decide +kernel
theorem dX9_chances_28 : decode cX9_chances 28 = .ok (.if_icmp .ne 7, 3) := by decide +kernel
theorem dX9_chances_31 : decode cX9_chances 31 = .ok (.lconst 1, 1) := by decide +kernel
theorem dX9_chances_32 : decode cX9_chances 32 = .ok (.goto 4, 3) := by decide +kernel
theorem dX9_chances_35 : decode cX9_chances 35 = .ok (.lconst 0, 1) := by decide +kernel
theorem dX9_chances_36 : decode cX9_chances 36 = .ok (.lconst 1, 1) := by decide +kernel
theorem dX9_chances_37 : decode cX9_chances 37 = .ok (.invokevirtual 330, 3) := by decide +kernel
theorem dX9_chances_40 : decode cX9_chances 40 = .ok (.goto 12, 3) := by decide +kernel
theorem dX9_chances_43 : decode cX9_chances 43 = .ok (.aload_n 0, 1) := by decide +kernel
theorem dX9_chances_44 : decode cX9_chances 44 = .ok (.iload_n 1, 1) := by decide +kernel
theorem dX9_chances_45 : decode cX9_chances 45 = .ok (.iload 5, 2) := by decide +kernel
theorem dX9_chances_47 : decode cX9_chances 47 = .ok (.iload 4, 2) := by decide +kernel
theorem dX9_chances_49 : decode cX9_chances 49 = .ok (.invokevirtual 359, 3) := by decide +kernel
theorem dX9_chances_52 : decode cX9_chances 52 = .ok (.aload_n 0, 1) := by decide +kernel
theorem dX9_chances_53 : decode cX9_chances 53 = .ok (.getfield 75, 3) := by decide +kernel
theorem dX9_chances_56 : decode cX9_chances 56 = .ok (.bipush 13, 2) := by decide +kernel
theorem dX9_chances_58 : decode cX9_chances 58 = .ok (.iload 5, 2) := by decide +kernel
theorem dX9_chances_60 : decode cX9_chances 60 = .ok (.imul, 1) := by decide +kernel
theorem dX9_chances_61 : decode cX9_chances 61 = .ok (.iload 4, 2) := by decide +kernel
theorem dX9_chances_63 : decode cX9_chances 63 = .ok (.iadd, 1) := by decide +kernel
theorem dX9_chances_64 : decode cX9_chances 64 = .ok (.aload_n 0, 1) := by decide +kernel
theorem dX9_chances_65 : decode cX9_chances 65 = .ok (.getfield 323, 3) := by decide +kernel
theorem dX9_chances_68 : decode cX9_chances 68 = .ok (.lastore, 1) := by decide +kernel
theorem dX9_chances_69 : decode cX9_chances 69 = .ok (.aload_n 0, 1) := by decide +kernel
theorem dX9_chances_70 : decode cX9_chances 70 = .ok (.getfield 78, 3) := by decide +kernel
theorem dX9_chances_73 : decode cX9_chances 73 = .ok (.bipush 13, 2) := by decide +kernel
theorem dX9_chances_75 : decode cX9_chances 75 = .ok (.iload 5, 2) := by decide +kernel
theorem dX9_chances_77 : decode cX9_chances 77 = .ok (.imul, 1) := by decide +kernel
theorem dX9_chances_78 : decode cX9_chances 78 = .ok (.iload 4, 2) := by decide +kernel
theorem dX9_chances_80 : decode cX9_chances 80 = .ok (.iadd, 1) := by decide +kernel
theorem dX9_chances_81 : decode cX9_chances 81 = .ok (.aload_n 0, 1) := by decide +kernel
theorem dX9_chances_82 : decode cX9_chances 82 = .ok (.getfield 327, 3) := by decide +kernel
theorem dX9_chances_85 : decode cX9_chances 85 = .ok (.lastore, 1) := by decide +kernel
theorem dX9_chances_86 : decode cX9_chances 86 = .ok (.iinc 5 1, 3) := by decide +kernel
theorem dX9_chances_89 : decode cX9_chances 89 = .ok (.goto (-77), 3) := by decide +kernel
theorem dX9_chances_92 : decode cX9_chances 92 = .ok (.iinc 4 1, 3) := by decide +kernel
theorem dX9_chances_95 : decode cX9_chances 95 = .ok (.goto (-92), 3) := by decide +kernel
theorem dX9_chances_98 : decode cX9_chances 98 = .ok (.return_, 1) := by decide +kernel
theorem dX9_chanceOf_0 : decode cX9_chanceOf 0 = .ok (.lconst 0, 1) := by decide +kernel
theorem dX9_chanceOf_1 : decode cX9_chanceOf 1 = .ok (.lstore 4, 2) := by decide +kernel
theorem dX9_chanceOf_3 : decode cX9_chanceOf 3 = .ok (.lconst 1, 1) := by decide +kernel
theorem dX9_chanceOf_4 : decode cX9_chanceOf 4 = .ok (.lstore 6, 2) := by decide +kernel
theorem dX9_chanceOf_6 : decode cX9_chanceOf 6 = .ok (.iconst 0, 1) := by decide +kernel
theorem dX9_chanceOf_7 : decode cX9_chanceOf 7 = .ok (.istore 8, 2) := by decide +kernel
theorem dX9_chanceOf_9 : decode cX9_chanceOf 9 = .ok (.iload 8, 2) := by decide +kernel
theorem dX9_chanceOf_11 : decode cX9_chanceOf 11 = .ok (.iload_n 2, 1) := by decide +kernel
theorem dX9_chanceOf_12 : decode cX9_chanceOf 12 = .ok (.if_icmp .gt 171, 3) := by decide +kernel
theorem dX9_chanceOf_15 : decode cX9_chanceOf 15 = .ok (.iload_n 1, 1) := by decide +kernel
theorem dX9_chanceOf_16 : decode cX9_chanceOf 16 = .ok (.iconst 1, 1) := by decide +kernel
theorem dX9_chanceOf_17 : decode cX9_chanceOf 17 = .ok (.if_icmp .ne 12, 3) := by decide +kernel
theorem dX9_chanceOf_20 : decode cX9_chanceOf 20 = .ok (.iload 8, 2) := by decide +kernel
theorem dX9_chanceOf_22 : decode cX9_chanceOf 22 = .ok (.ifCond .ne 7, 3) := by decide +kernel
theorem dX9_chanceOf_25 : decode cX9_chanceOf 25 = .ok (.iconst 1, 1) := by decide +kernel
theorem dX9_chanceOf_26 : decode cX9_chanceOf 26 = .ok (.goto 4, 3) := by decide +kernel
end
section
theorem dX9_chanceOf_29 : decode cX9_chanceOf 29 = .ok (.iconst 0, 1) := by decide +kernel
theorem dX9_chanceOf_30 : decode cX9_chanceOf 30 = .ok (.istore 9, 2) := by decide +kernel
theorem dX9_chanceOf_32 : decode cX9_chanceOf 32 = .ok (.iconst 1, 1) := by decide +kernel
theorem dX9_chanceOf_33 : decode cX9_chanceOf 33 = .ok (.istore 10, 2) := by decide +kernel
theorem dX9_chanceOf_35 : decode cX9_chanceOf 35 = .ok (.iload 10, 2) := by decide +kernel
theorem dX9_chanceOf_37 : decode cX9_chanceOf 37 = .ok (.iload_n 3, 1) := by decide +kernel
theorem dX9_chanceOf_38 : decode cX9_chanceOf 38 = .ok (.iload 9, 2) := by decide +kernel
theorem dX9_chanceOf_40 : decode cX9_chanceOf 40 = .ok (.iadd, 1) := by decide +kernel
theorem dX9_chanceOf_41 : decode cX9_chanceOf 41 = .ok (.if_icmp .ge 136, 3) := by decide +kernel
theorem dX9_chanceOf_44 : decode cX9_chanceOf 44 = .ok (.iload_n 3, 1) := by decide +kernel
theorem dX9_chanceOf_45 : decode cX9_chanceOf 45 = .ok (.iconst 1, 1) := by decide +kernel
theorem dX9_chanceOf_46 : decode cX9_chanceOf 46 = .ok (.isub, 1) := by decide +kernel
theorem dX9_chanceOf_47 : decode cX9_chanceOf 47 = .ok (.iload 9, 2) := by decide +kernel
theorem dX9_chanceOf_49 : decode cX9_chanceOf 49 = .ok (.iadd, 1) := by decide +kernel
theorem dX9_chanceOf_50 : decode cX9_chanceOf 50 = .ok (.iload 10, 2) := by decide +kernel
theorem dX9_chanceOf_52 : decode cX9_chanceOf 52 = .ok (.isub, 1) := by decide +kernel
theorem dX9_chanceOf_53 : decode cX9_chanceOf 53 = .ok (.istore 11, 2) := by decide +kernel
theorem dX9_chanceOf_55 : decode cX9_chanceOf 55 = .ok (.iload 11, 2) := by decide +kernel
theorem dX9_chanceOf_57 : decode cX9_chanceOf 57 = .ok (.iconst 1, 1) := by decide +kernel
theorem dX9_chanceOf_58 : decode cX9_chanceOf 58 = .ok (.if_icmp .lt 113, 3) := by decide +kernel
theorem dX9_chanceOf_61 : decode cX9_chanceOf 61 = .ok (.iload 11, 2) := by decide +kernel
theorem dX9_chanceOf_63 : decode cX9_chanceOf 63 = .ok (.iload_n 3, 1) := by decide +kernel
theorem dX9_chanceOf_64 : decode cX9_chanceOf 64 = .ok (.if_icmp .lt 6, 3) := by decide +kernel
theorem dX9_chanceOf_67 : decode cX9_chanceOf 67 = .ok (.goto 104, 3) := by decide +kernel
theorem dX9_chanceOf_70 : decode cX9_chanceOf 70 = .ok (.aload_n 0, 1) := by decide +kernel
theorem dX9_chanceOf_71 : decode cX9_chanceOf 71 = .ok (.aload_n 0, 1) := by decide +kernel
theorem dX9_chanceOf_72 : decode cX9_chanceOf 72 = .ok (.getfield 75, 3) := by decide +kernel
theorem dX9_chanceOf_75 : decode cX9_chanceOf 75 = .ok (.bipush 13, 2) := by decide +kernel
theorem dX9_chanceOf_77 : decode cX9_chanceOf 77 = .ok (.iload 8, 2) := by decide +kernel
theorem dX9_chanceOf_79 : decode cX9_chanceOf 79 = .ok (.imul, 1) := by decide +kernel
theorem dX9_chanceOf_80 : decode cX9_chanceOf 80 = .ok (.iload 10, 2) := by decide +kernel
theorem dX9_chanceOf_82 : decode cX9_chanceOf 82 = .ok (.iadd, 1) := by decide +kernel
theorem dX9_chanceOf_83 : decode cX9_chanceOf 83 = .ok (.laload, 1) := by decide +kernel
theorem dX9_chanceOf_84 : decode cX9_chanceOf 84 = .ok (.aload_n 0, 1) := by decide +kernel
theorem dX9_chanceOf_85 : decode cX9_chanceOf 85 = .ok (.getfield 78, 3) := by decide +kernel
theorem dX9_chanceOf_88 : decode cX9_chanceOf 88 = .ok (.bipush 13, 2) := by decide +kernel
theorem dX9_chanceOf_90 : decode cX9_chanceOf 90 = .ok (.iload 8, 2) := by decide +kernel
theorem dX9_chanceOf_92 : decode cX9_chanceOf 92 = .ok (.imul, 1) := by decide +kernel
theorem dX9_chanceOf_93 : decode cX9_chanceOf 93 = .ok (.iload 10, 2) := by decide +kernel
theorem dX9_chanceOf_95 : decode cX9_chanceOf 95 = .ok (.iadd, 1) := by decide +kernel
theorem dX9_chanceOf_96 : decode cX9_chanceOf 96 = .ok (.laload, 1) := by decide +kernel
theorem dX9_chanceOf_97 : decode cX9_chanceOf 97 = .ok (.invokevirtual 330, 3) := by decide +kernel
theorem dX9_chanceOf_100 : decode cX9_chanceOf 100 = .ok (.aload_n 0, 1) := by decide +kernel
theorem dX9_chanceOf_101 : decode cX9_chanceOf 101 = .ok (.aload_n 0, 1) := by decide +kernel
theorem dX9_chanceOf_102 : decode cX9_chanceOf 102 = .ok (.getfield 75, 3) := by decide +kernel
theorem dX9_chanceOf_105 : decode cX9_chanceOf 105 = .ok (.bipush 13, 2) := by decide +kernel
theorem dX9_chanceOf_107 : decode cX9_chanceOf 107 = .ok (.iload_n 2, 1) := by decide +kernel
theorem dX9_chanceOf_108 : decode cX9_chanceOf 108 = .ok (.iload 8, 2) := by decide +kernel
theorem dX9_chanceOf_110 : decode cX9_chanceOf 110 = .ok (.isub, 1) := by decide +kernel
theorem dX9_chanceOf_111 : decode cX9_chanceOf 111 = .ok (.imul, 1) := by decide +kernel
theorem dX9_chanceOf_112 : decode cX9_chanceOf 112 = .ok (.iload 11, 2) := by decide +kernel
theorem dX9_chanceOf_114 : decode cX9_chanceOf 114 = .ok (.iadd, 1) := by decide +kernel
theorem dX9_chanceOf_115 : decode cX9_chanceOf 115 = .ok (.laload, 1) := by decide +kernel
theorem dX9_chanceOf_116 : decode cX9_chanceOf 116 = .ok (.aload_n 0, 1) := by decide +kernel
theorem dX9_chanceOf_117 : decode cX9_chanceOf 117 = .ok (.getfield 78, 3) := by decide +kernel
theorem dX9_chanceOf_120 : decode cX9_chanceOf 120 = .ok (.bipush 13, 2) := by decide +kernel
theorem dX9_chanceOf_122 : decode cX9_chanceOf 122 = .ok (.iload_n 2, 1) := by decide +kernel
theorem dX9_chanceOf_123 : decode cX9_chanceOf 123 = .ok (.iload 8, 2) := by decide +kernel
theorem dX9_chanceOf_125 : decode cX9_chanceOf 125 = .ok (.isub, 1) := by decide +kernel
theorem dX9_chanceOf_126 : decode cX9_chanceOf 126 = .ok (.imul, 1) := by decide +kernel
theorem dX9_chanceOf_127 : decode cX9_chanceOf 127 = .ok (.iload 11, 2) := by decide +kernel
theorem dX9_chanceOf_129 : decode cX9_chanceOf 129 = .ok (.iadd, 1) := by decide +kernel
theorem dX9_chanceOf_130 : decode cX9_chanceOf 130 = .ok (.laload, 1) := by decide +kernel
theorem dX9_chanceOf_131 : decode cX9_chanceOf 131 = .ok (.invokevirtual 344, 3) := by decide +kernel
theorem dX9_chanceOf_134 : decode cX9_chanceOf 134 = .ok (.aload_n 0, 1) := by decide +kernel
theorem dX9_chanceOf_135 : decode cX9_chanceOf 135 = .ok (.iload_n 2, 1) := by decide +kernel
theorem dX9_chanceOf_136 : decode cX9_chanceOf 136 = .ok (.iload 8, 2) := by decide +kernel
theorem dX9_chanceOf_138 : decode cX9_chanceOf 138 = .ok (.invokestatic 337, 3) := by decide +kernel
theorem dX9_chanceOf_141 : decode cX9_chanceOf 141 = .ok (.ldc2_w 304, 3) := by decide +kernel
theorem dX9_chanceOf_144 : decode cX9_chanceOf 144 = .ok (.iload_n 2, 1) := by decide +kernel
theorem dX9_chanceOf_145 : decode cX9_chanceOf 145 = .ok (.invokestatic 333, 3) := by decide +kernel
theorem dX9_chanceOf_148 : decode cX9_chanceOf 148 = .ok (.invokevirtual 344, 3) := by decide +kernel
theorem dX9_chanceOf_151 : decode cX9_chanceOf 151 = .ok (.aload_n 0, 1) := by decide +kernel
theorem dX9_chanceOf_152 : decode cX9_chanceOf 152 = .ok (.lload 4, 2) := by decide +kernel
theorem dX9_chanceOf_154 : decode cX9_chanceOf 154 = .ok (.lload 6, 2) := by decide +kernel
theorem dX9_chanceOf_156 : decode cX9_chanceOf 156 = .ok (.invokevirtual 341, 3) := by decide +kernel
theorem dX9_chanceOf_159 : decode cX9_chanceOf 159 = .ok (.aload_n 0, 1) := by decide +kernel
theorem dX9_chanceOf_160 : decode cX9_chanceOf 160 = .ok (.getfield 323, 3) := by decide +kernel
theorem dX9_chanceOf_163 : decode cX9_chanceOf 163 = .ok (.lstore 4, 2) := by decide +kernel
theorem dX9_chanceOf_165 : decode cX9_chanceOf 165 = .ok (.aload_n 0, 1) := by decide +kernel
theorem dX9_chanceOf_166 : decode cX9_chanceOf 166 = .ok (.getfield 327, 3) := by decide +kernel
theorem dX9_chanceOf_169 : decode cX9_chanceOf 169 = .ok (.lstore 6, 2) := by decide +kernel
theorem dX9_chanceOf_171 : decode cX9_chanceOf 171 = .ok (.iinc 10 1, 3) := by decide +kernel
theorem dX9_chanceOf_174 : decode cX9_chanceOf 174 = .ok (.goto (-139), 3) := by decide +kernel
theorem dX9_chanceOf_177 : decode cX9_chanceOf 177 = .ok (.iinc 8 1, 3) := by decide +kernel
theorem dX9_chanceOf_180 : decode cX9_chanceOf 180 = .ok (.goto (-171), 3) := by decide +kernel
theorem dX9_chanceOf_183 : decode cX9_chanceOf 183 = .ok (.aload_n 0, 1) := by decide +kernel
theorem dX9_chanceOf_184 : decode cX9_chanceOf 184 = .ok (.lload 4, 2) := by decide +kernel
theorem dX9_chanceOf_186 : decode cX9_chanceOf 186 = .ok (.lload 6, 2) := by decide +kernel
theorem dX9_chanceOf_188 : decode cX9_chanceOf 188 = .ok (.invokevirtual 330, 3) := by decide +kernel
theorem dX9_chanceOf_191 : decode cX9_chanceOf 191 = .ok (.return_, 1) := by decide +kernel
theorem dX9_chance_0 : decode cX9_chance 0 = .ok (.iload_n 1, 1) := by decide +kernel
theorem dX9_chance_1 : decode cX9_chance 1 = .ok (.iload_n 2, 1) := by decide +kernel
theorem dX9_chance_2 : decode cX9_chance 2 = .ok (.iconst 3, 1) := by decide +kernel
theorem dX9_chance_3 : decode cX9_chance 3 = .ok (.iload 4, 2) := by decide +kernel
theorem dX9_chance_5 : decode cX9_chance 5 = .ok (.invokestatic 347, 3) := by decide +kernel
theorem dX9_chance_8 : decode cX9_chance 8 = .ok (.ifCond .eq 15, 3) := by decide +kernel
theorem dX9_chance_11 : decode cX9_chance 11 = .ok (.iload_n 3, 1) := by decide +kernel
theorem dX9_chance_12 : decode cX9_chance 12 = .ok (.i2l, 1) := by decide +kernel
theorem dX9_chance_13 : decode cX9_chance 13 = .ok (.lconst 1, 1) := by decide +kernel
theorem dX9_chance_14 : decode cX9_chance 14 = .ok (.ldc2_w 362, 3) := by decide +kernel
theorem dX9_chance_17 : decode cX9_chance 17 = .ok (.invokestatic 84, 3) := by decide +kernel
theorem dX9_chance_20 : decode cX9_chance 20 = .ok (.ifCond .ne 7, 3) := by decide +kernel
theorem dX9_chance_23 : decode cX9_chance 23 = .ok (.ldc2_w 351, 3) := by decide +kernel
theorem dX9_chance_26 : decode cX9_chance 26 = .ok (.lreturn, 1) := by decide +kernel
theorem dX9_chance_27 : decode cX9_chance 27 = .ok (.aload_n 0, 1) := by decide +kernel
theorem dX9_chance_28 : decode cX9_chance 28 = .ok (.iload_n 1, 1) := by decide +kernel
theorem dX9_chance_29 : decode cX9_chance 29 = .ok (.iload_n 2, 1) := by decide +kernel
theorem dX9_chance_30 : decode cX9_chance 30 = .ok (.iload_n 3, 1) := by decide +kernel
theorem dX9_chance_31 : decode cX9_chance 31 = .ok (.invokevirtual 364, 3) := by decide +kernel
theorem dX9_chance_34 : decode cX9_chance 34 = .ok (.iload 4, 2) := by decide +kernel
theorem dX9_chance_36 : decode cX9_chance 36 = .ok (.ifCond .ne 17, 3) := by decide +kernel
theorem dX9_chance_39 : decode cX9_chance 39 = .ok (.aload_n 0, 1) := by decide +kernel
theorem dX9_chance_40 : decode cX9_chance 40 = .ok (.getfield 75, 3) := by decide +kernel
theorem dX9_chance_43 : decode cX9_chance 43 = .ok (.bipush 13, 2) := by decide +kernel
theorem dX9_chance_45 : decode cX9_chance 45 = .ok (.iload_n 2, 1) := by decide +kernel
theorem dX9_chance_46 : decode cX9_chance 46 = .ok (.imul, 1) := by decide +kernel
theorem dX9_chance_47 : decode cX9_chance 47 = .ok (.iload_n 3, 1) := by decide +kernel
theorem dX9_chance_48 : decode cX9_chance 48 = .ok (.iadd, 1) := by decide +kernel
theorem dX9_chance_49 : decode cX9_chance 49 = .ok (.laload, 1) := by decide +kernel
theorem dX9_chance_50 : decode cX9_chance 50 = .ok (.goto 14, 3) := by decide +kernel
theorem dX9_chance_53 : decode cX9_chance 53 = .ok (.aload_n 0, 1) := by decide +kernel
theorem dX9_chance_54 : decode cX9_chance 54 = .ok (.getfield 78, 3) := by decide +kernel
theorem dX9_chance_57 : decode cX9_chance 57 = .ok (.bipush 13, 2) := by decide +kernel
theorem dX9_chance_59 : decode cX9_chance 59 = .ok (.iload_n 2, 1) := by decide +kernel
theorem dX9_chance_60 : decode cX9_chance 60 = .ok (.imul, 1) := by decide +kernel
theorem dX9_chance_61 : decode cX9_chance 61 = .ok (.iload_n 3, 1) := by decide +kernel
theorem dX9_chance_62 : decode cX9_chance 62 = .ok (.iadd, 1) := by decide +kernel
theorem dX9_chance_63 : decode cX9_chance 63 = .ok (.laload, 1) := by decide +kernel
theorem dX9_chance_64 : decode cX9_chance 64 = .ok (.lreturn, 1) := by decide +kernel
theorem dX9_best_0 : decode cX9_best 0 = .ok (.iload_n 1, 1) := by decide +kernel
theorem dX9_best_1 : decode cX9_best 1 = .ok (.i2l, 1) := by decide +kernel
theorem dX9_best_2 : decode cX9_best 2 = .ok (.lconst 0, 1) := by decide +kernel
theorem dX9_best_3 : decode cX9_best 3 = .ok (.lconst 1, 1) := by decide +kernel
theorem dX9_best_4 : decode cX9_best 4 = .ok (.invokestatic 84, 3) := by decide +kernel
theorem dX9_best_7 : decode cX9_best 7 = .ok (.ifCond .ne 6, 3) := by decide +kernel
theorem dX9_best_10 : decode cX9_best 10 = .ok (.bipush (-2), 2) := by decide +kernel
theorem dX9_best_12 : decode cX9_best 12 = .ok (.ireturn, 1) := by decide +kernel
theorem dX9_best_13 : decode cX9_best 13 = .ok (.aload_n 0, 1) := by decide +kernel
theorem dX9_best_14 : decode cX9_best 14 = .ok (.iload_n 1, 1) := by decide +kernel
theorem dX9_best_15 : decode cX9_best 15 = .ok (.bipush 8, 2) := by decide +kernel
theorem dX9_best_17 : decode cX9_best 17 = .ok (.lconst 1, 1) := by decide +kernel
theorem dX9_best_18 : decode cX9_best 18 = .ok (.ldc2_w 304, 3) := by decide +kernel
theorem dX9_best_21 : decode cX9_best 21 = .ok (.invokevirtual 353, 3) := by decide +kernel
theorem dX9_best_24 : decode cX9_best 24 = .ok (.iconst 1, 1) := by decide +kernel
theorem dX9_best_25 : decode cX9_best 25 = .ok (.istore_n 2, 1) := by decide +kernel
theorem dX9_best_26 : decode cX9_best 26 = .ok (.iconst 2, 1) := by decide +kernel
theorem dX9_best_27 : decode cX9_best 27 = .ok (.istore_n 3, 1) := by decide +kernel
theorem dX9_best_28 : decode cX9_best 28 = .ok (.iload_n 3, 1) := by decide +kernel
theorem dX9_best_29 : decode cX9_best 29 = .ok (.bipush 9, 2) := by decide +kernel
theorem dX9_best_31 : decode cX9_best 31 = .ok (.if_icmp .ge 51, 3) := by decide +kernel
theorem dX9_best_34 : decode cX9_best 34 = .ok (.iload_n 3, 1) := by decide +kernel
theorem dX9_best_35 : decode cX9_best 35 = .ok (.i2l, 1) := by decide +kernel
theorem dX9_best_36 : decode cX9_best 36 = .ok (.aload_n 0, 1) := by decide +kernel
theorem dX9_best_37 : decode cX9_best 37 = .ok (.getfield 72, 3) := by decide +kernel
theorem dX9_best_40 : decode cX9_best 40 = .ok (.iload_n 3, 1) := by decide +kernel
theorem dX9_best_41 : decode cX9_best 41 = .ok (.laload, 1) := by decide +kernel
theorem dX9_best_42 : decode cX9_best 42 = .ok (.lmul, 1) := by decide +kernel
theorem dX9_best_43 : decode cX9_best 43 = .ok (.aload_n 0, 1) := by decide +kernel
theorem dX9_best_44 : decode cX9_best 44 = .ok (.getfield 68, 3) := by decide +kernel
theorem dX9_best_47 : decode cX9_best 47 = .ok (.iload_n 2, 1) := by decide +kernel
theorem dX9_best_48 : decode cX9_best 48 = .ok (.laload, 1) := by decide +kernel
theorem dX9_best_49 : decode cX9_best 49 = .ok (.lmul, 1) := by decide +kernel
theorem dX9_best_50 : decode cX9_best 50 = .ok (.iload_n 2, 1) := by decide +kernel
theorem dX9_best_51 : decode cX9_best 51 = .ok (.i2l, 1) := by decide +kernel
theorem dX9_best_52 : decode cX9_best 52 = .ok (.aload_n 0, 1) := by decide +kernel
theorem dX9_best_53 : decode cX9_best 53 = .ok (.getfield 72, 3) := by decide +kernel
theorem dX9_best_56 : decode cX9_best 56 = .ok (.iload_n 2, 1) := by decide +kernel
theorem dX9_best_57 : decode cX9_best 57 = .ok (.laload, 1) := by decide +kernel
theorem dX9_best_58 : decode cX9_best 58 = .ok (.lmul, 1) := by decide +kernel
theorem dX9_best_59 : decode cX9_best 59 = .ok (.aload_n 0, 1) := by decide +kernel
theorem dX9_best_60 : decode cX9_best 60 = .ok (.getfield 68, 3) := by decide +kernel
theorem dX9_best_63 : decode cX9_best 63 = .ok (.iload_n 3, 1) := by decide +kernel
theorem dX9_best_64 : decode cX9_best 64 = .ok (.laload, 1) := by decide +kernel
theorem dX9_best_65 : decode cX9_best 65 = .ok (.lmul, 1) := by decide +kernel
theorem dX9_best_66 : decode cX9_best 66 = .ok (.lcmp, 1) := by decide +kernel
theorem dX9_best_67 : decode cX9_best 67 = .ok (.ifCond .le 7, 3) := by decide +kernel
theorem dX9_best_70 : decode cX9_best 70 = .ok (.iload_n 3, 1) := by decide +kernel
theorem dX9_best_71 : decode cX9_best 71 = .ok (.goto 4, 3) := by decide +kernel
theorem dX9_best_74 : decode cX9_best 74 = .ok (.iload_n 2, 1) := by decide +kernel
theorem dX9_best_75 : decode cX9_best 75 = .ok (.istore_n 2, 1) := by decide +kernel
theorem dX9_best_76 : decode cX9_best 76 = .ok (.iinc 3 1, 3) := by decide +kernel
theorem dX9_best_79 : decode cX9_best 79 = .ok (.goto (-51), 3) := by decide +kernel
theorem dX9_best_82 : decode cX9_best 82 = .ok (.iload_n 2, 1) := by decide +kernel
theorem dX9_best_83 : decode cX9_best 83 = .ok (.ireturn, 1) := by decide +kernel
theorem dX9_keeps_0 : decode cX9_keeps 0 = .ok (.iconst 0, 1) := by decide +kernel
theorem dX9_keeps_1 : decode cX9_keeps 1 = .ok (.istore_n 1, 1) := by decide +kernel
theorem dX9_keeps_2 : decode cX9_keeps 2 = .ok (.iload_n 1, 1) := by decide +kernel
theorem dX9_keeps_3 : decode cX9_keeps 3 = .ok (.bipush 57, 2) := by decide +kernel
theorem dX9_keeps_5 : decode cX9_keeps 5 = .ok (.if_icmp .ge 29, 3) := by decide +kernel
theorem dX9_keeps_8 : decode cX9_keeps 8 = .ok (.aload_n 0, 1) := by decide +kernel
theorem dX9_keeps_9 : decode cX9_keeps 9 = .ok (.getfield 16, 3) := by decide +kernel
theorem dX9_keeps_12 : decode cX9_keeps 12 = .ok (.bipush 57, 2) := by decide +kernel
theorem dX9_keeps_14 : decode cX9_keeps 14 = .ok (.aload_n 0, 1) := by decide +kernel
theorem dX9_keeps_15 : decode cX9_keeps 15 = .ok (.getfield 194, 3) := by decide +kernel
theorem dX9_keeps_18 : decode cX9_keeps 18 = .ok (.imul, 1) := by decide +kernel
theorem dX9_keeps_19 : decode cX9_keeps 19 = .ok (.iload_n 1, 1) := by decide +kernel
theorem dX9_keeps_20 : decode cX9_keeps 20 = .ok (.iadd, 1) := by decide +kernel
theorem dX9_keeps_21 : decode cX9_keeps 21 = .ok (.aload_n 0, 1) := by decide +kernel
theorem dX9_keeps_22 : decode cX9_keeps 22 = .ok (.getfield 9, 3) := by decide +kernel
theorem dX9_keeps_25 : decode cX9_keeps 25 = .ok (.iload_n 1, 1) := by decide +kernel
theorem dX9_keeps_26 : decode cX9_keeps 26 = .ok (.iaload, 1) := by decide +kernel
theorem dX9_keeps_27 : decode cX9_keeps 27 = .ok (.iastore, 1) := by decide +kernel
theorem dX9_keeps_28 : decode cX9_keeps 28 = .ok (.iinc 1 1, 3) := by decide +kernel
theorem dX9_keeps_31 : decode cX9_keeps 31 = .ok (.goto (-29), 3) := by decide +kernel
theorem dX9_keeps_34 : decode cX9_keeps 34 = .ok (.aload_n 0, 1) := by decide +kernel
theorem dX9_keeps_35 : decode cX9_keeps 35 = .ok (.dup, 1) := by decide +kernel
theorem dX9_keeps_36 : decode cX9_keeps 36 = .ok (.getfield 194, 3) := by decide +kernel
theorem dX9_keeps_39 : decode cX9_keeps 39 = .ok (.iconst 1, 1) := by decide +kernel
theorem dX9_keeps_40 : decode cX9_keeps 40 = .ok (.iadd, 1) := by decide +kernel
theorem dX9_keeps_41 : decode cX9_keeps 41 = .ok (.putfield 194, 3) := by decide +kernel
theorem dX9_keeps_44 : decode cX9_keeps 44 = .ok (.return_, 1) := by decide +kernel
theorem dX9_goesBack_0 : decode cX9_goesBack 0 = .ok (.aload_n 0, 1) := by decide +kernel
theorem dX9_goesBack_1 : decode cX9_goesBack 1 = .ok (.iload_n 1, 1) := by decide +kernel
theorem dX9_goesBack_2 : decode cX9_goesBack 2 = .ok (.putfield 194, 3) := by decide +kernel
theorem dX9_goesBack_5 : decode cX9_goesBack 5 = .ok (.iconst 0, 1) := by decide +kernel
theorem dX9_goesBack_6 : decode cX9_goesBack 6 = .ok (.istore_n 2, 1) := by decide +kernel
theorem dX9_goesBack_7 : decode cX9_goesBack 7 = .ok (.iload_n 2, 1) := by decide +kernel
theorem dX9_goesBack_8 : decode cX9_goesBack 8 = .ok (.bipush 57, 2) := by decide +kernel
theorem dX9_goesBack_10 : decode cX9_goesBack 10 = .ok (.if_icmp .ge 26, 3) := by decide +kernel
theorem dX9_goesBack_13 : decode cX9_goesBack 13 = .ok (.aload_n 0, 1) := by decide +kernel
theorem dX9_goesBack_14 : decode cX9_goesBack 14 = .ok (.getfield 9, 3) := by decide +kernel
theorem dX9_goesBack_17 : decode cX9_goesBack 17 = .ok (.iload_n 2, 1) := by decide +kernel
theorem dX9_goesBack_18 : decode cX9_goesBack 18 = .ok (.aload_n 0, 1) := by decide +kernel
theorem dX9_goesBack_19 : decode cX9_goesBack 19 = .ok (.getfield 16, 3) := by decide +kernel
theorem dX9_goesBack_22 : decode cX9_goesBack 22 = .ok (.bipush 57, 2) := by decide +kernel
theorem dX9_goesBack_24 : decode cX9_goesBack 24 = .ok (.iload_n 1, 1) := by decide +kernel
theorem dX9_goesBack_25 : decode cX9_goesBack 25 = .ok (.imul, 1) := by decide +kernel
theorem dX9_goesBack_26 : decode cX9_goesBack 26 = .ok (.iload_n 2, 1) := by decide +kernel
theorem dX9_goesBack_27 : decode cX9_goesBack 27 = .ok (.iadd, 1) := by decide +kernel
theorem dX9_goesBack_28 : decode cX9_goesBack 28 = .ok (.iaload, 1) := by decide +kernel
theorem dX9_goesBack_29 : decode cX9_goesBack 29 = .ok (.iastore, 1) := by decide +kernel
theorem dX9_goesBack_30 : decode cX9_goesBack 30 = .ok (.iinc 2 1, 3) := by decide +kernel
theorem dX9_goesBack_33 : decode cX9_goesBack 33 = .ok (.goto (-26), 3) := by decide +kernel
theorem dX9_goesBack_36 : decode cX9_goesBack 36 = .ok (.return_, 1) := by decide +kernel
theorem dX9_allNow_0 : decode cX9_allNow 0 = .ok (.aload_n 0, 1) := by decide +kernel
theorem dX9_allNow_1 : decode cX9_allNow 1 = .ok (.invokevirtual 298, 3) := by decide +kernel
theorem dX9_allNow_4 : decode cX9_allNow 4 = .ok (.aload_n 0, 1) := by decide +kernel
theorem dX9_allNow_5 : decode cX9_allNow 5 = .ok (.getfield 236, 3) := by decide +kernel
theorem dX9_allNow_8 : decode cX9_allNow 8 = .ok (.ireturn, 1) := by decide +kernel
theorem dX9_add_0 : decode cX9_add 0 = .ok (.aload_n 0, 1) := by decide +kernel
theorem dX9_add_1 : decode cX9_add 1 = .ok (.invokevirtual 289, 3) := by decide +kernel
theorem dX9_add_4 : decode cX9_add 4 = .ok (.ifCond .eq 42, 3) := by decide +kernel
theorem dX9_add_7 : decode cX9_add 7 = .ok (.iload_n 1, 1) := by decide +kernel
theorem dX9_add_8 : decode cX9_add 8 = .ok (.i2l, 1) := by decide +kernel
theorem dX9_add_9 : decode cX9_add 9 = .ok (.lconst 0, 1) := by decide +kernel
theorem dX9_add_10 : decode cX9_add 10 = .ok (.ldc2_w 367, 3) := by decide +kernel
theorem dX9_add_13 : decode cX9_add 13 = .ok (.invokestatic 84, 3) := by decide +kernel
theorem dX9_add_16 : decode cX9_add 16 = .ok (.ifCond .eq 30, 3) := by decide +kernel
theorem dX9_add_19 : decode cX9_add 19 = .ok (.iload_n 3, 1) := by decide +kernel
theorem dX9_add_20 : decode cX9_add 20 = .ok (.i2l, 1) := by decide +kernel
theorem dX9_add_21 : decode cX9_add 21 = .ok (.lconst 1, 1) := by decide +kernel
theorem dX9_add_22 : decode cX9_add 22 = .ok (.ldc2_w 362, 3) := by decide +kernel
theorem dX9_add_25 : decode cX9_add 25 = .ok (.invokestatic 84, 3) := by decide +kernel
theorem dX9_add_28 : decode cX9_add 28 = .ok (.ifCond .eq 18, 3) := by decide +kernel
theorem dX9_add_31 : decode cX9_add 31 = .ok (.iload_n 2, 1) := by decide +kernel
theorem dX9_add_32 : decode cX9_add 32 = .ok (.i2l, 1) := by decide +kernel
theorem dX9_add_33 : decode cX9_add 33 = .ok (.lconst 0, 1) := by decide +kernel
theorem dX9_add_34 : decode cX9_add 34 = .ok (.iconst 1, 1) := by decide +kernel
theorem dX9_add_35 : decode cX9_add 35 = .ok (.iload_n 3, 1) := by decide +kernel
theorem dX9_add_36 : decode cX9_add 36 = .ok (.ishl, 1) := by decide +kernel
theorem dX9_add_37 : decode cX9_add 37 = .ok (.iconst 1, 1) := by decide +kernel
theorem dX9_add_38 : decode cX9_add 38 = .ok (.isub, 1) := by decide +kernel
theorem dX9_add_39 : decode cX9_add 39 = .ok (.i2l, 1) := by decide +kernel
theorem dX9_add_40 : decode cX9_add 40 = .ok (.invokestatic 84, 3) := by decide +kernel
theorem dX9_add_43 : decode cX9_add 43 = .ok (.ifCond .ne 6, 3) := by decide +kernel
theorem dX9_add_46 : decode cX9_add 46 = .ok (.bipush (-2), 2) := by decide +kernel
theorem dX9_add_48 : decode cX9_add 48 = .ok (.ireturn, 1) := by decide +kernel
theorem dX9_add_49 : decode cX9_add 49 = .ok (.aload_n 0, 1) := by decide +kernel
theorem dX9_add_50 : decode cX9_add 50 = .ok (.getfield 9, 3) := by decide +kernel
theorem dX9_add_53 : decode cX9_add 53 = .ok (.iconst 4, 1) := by decide +kernel
theorem dX9_add_54 : decode cX9_add 54 = .ok (.iaload, 1) := by decide +kernel
theorem dX9_add_55 : decode cX9_add 55 = .ok (.bipush 10, 2) := by decide +kernel
theorem dX9_add_57 : decode cX9_add 57 = .ok (.if_icmp .eq 12, 3) := by decide +kernel
theorem dX9_add_60 : decode cX9_add 60 = .ok (.aload_n 0, 1) := by decide +kernel
theorem dX9_add_61 : decode cX9_add 61 = .ok (.getfield 194, 3) := by decide +kernel
theorem dX9_add_64 : decode cX9_add 64 = .ok (.bipush 20, 2) := by decide +kernel
theorem dX9_add_66 : decode cX9_add 66 = .ok (.if_icmp .ne 6, 3) := by decide +kernel
theorem dX9_add_69 : decode cX9_add 69 = .ok (.bipush (-5), 2) := by decide +kernel
theorem dX9_add_71 : decode cX9_add 71 = .ok (.ireturn, 1) := by decide +kernel
theorem dX9_add_72 : decode cX9_add 72 = .ok (.aload_n 0, 1) := by decide +kernel
theorem dX9_add_73 : decode cX9_add 73 = .ok (.invokevirtual 369, 3) := by decide +kernel
theorem dX9_add_76 : decode cX9_add 76 = .ok (.aload_n 0, 1) := by decide +kernel
theorem dX9_add_77 : decode cX9_add 77 = .ok (.getfield 9, 3) := by decide +kernel
theorem dX9_add_80 : decode cX9_add 80 = .ok (.iconst 4, 1) := by decide +kernel
theorem dX9_add_81 : decode cX9_add 81 = .ok (.iaload, 1) := by decide +kernel
theorem dX9_add_82 : decode cX9_add 82 = .ok (.istore 4, 2) := by decide +kernel
theorem dX9_add_84 : decode cX9_add 84 = .ok (.aload_n 0, 1) := by decide +kernel
theorem dX9_add_85 : decode cX9_add 85 = .ok (.getfield 9, 3) := by decide +kernel
theorem dX9_add_88 : decode cX9_add 88 = .ok (.bipush 7, 2) := by decide +kernel
theorem dX9_add_90 : decode cX9_add 90 = .ok (.iload 4, 2) := by decide +kernel
theorem dX9_add_92 : decode cX9_add 92 = .ok (.iadd, 1) := by decide +kernel
theorem dX9_add_93 : decode cX9_add 93 = .ok (.iload_n 1, 1) := by decide +kernel
theorem dX9_add_94 : decode cX9_add 94 = .ok (.iastore, 1) := by decide +kernel
theorem dX9_add_95 : decode cX9_add 95 = .ok (.aload_n 0, 1) := by decide +kernel
theorem dX9_add_96 : decode cX9_add 96 = .ok (.getfield 9, 3) := by decide +kernel
theorem dX9_add_99 : decode cX9_add 99 = .ok (.bipush 17, 2) := by decide +kernel
theorem dX9_add_101 : decode cX9_add 101 = .ok (.iload 4, 2) := by decide +kernel
theorem dX9_add_103 : decode cX9_add 103 = .ok (.iadd, 1) := by decide +kernel
theorem dX9_add_104 : decode cX9_add 104 = .ok (.iload_n 3, 1) := by decide +kernel
theorem dX9_add_105 : decode cX9_add 105 = .ok (.iastore, 1) := by decide +kernel
theorem dX9_add_106 : decode cX9_add 106 = .ok (.aload_n 0, 1) := by decide +kernel
theorem dX9_add_107 : decode cX9_add 107 = .ok (.getfield 9, 3) := by decide +kernel
theorem dX9_add_110 : decode cX9_add 110 = .ok (.bipush 27, 2) := by decide +kernel
theorem dX9_add_112 : decode cX9_add 112 = .ok (.iload 4, 2) := by decide +kernel
theorem dX9_add_114 : decode cX9_add 114 = .ok (.iadd, 1) := by decide +kernel
theorem dX9_add_115 : decode cX9_add 115 = .ok (.iload_n 2, 1) := by decide +kernel
theorem dX9_add_116 : decode cX9_add 116 = .ok (.iastore, 1) := by decide +kernel
theorem dX9_add_117 : decode cX9_add 117 = .ok (.aload_n 0, 1) := by decide +kernel
theorem dX9_add_118 : decode cX9_add 118 = .ok (.getfield 9, 3) := by decide +kernel
theorem dX9_add_121 : decode cX9_add 121 = .ok (.iconst 4, 1) := by decide +kernel
theorem dX9_add_122 : decode cX9_add 122 = .ok (.dup2, 1) := by decide +kernel
theorem dX9_add_123 : decode cX9_add 123 = .ok (.iaload, 1) := by decide +kernel
theorem dX9_add_124 : decode cX9_add 124 = .ok (.iconst 1, 1) := by decide +kernel
theorem dX9_add_125 : decode cX9_add 125 = .ok (.iadd, 1) := by decide +kernel
theorem dX9_add_126 : decode cX9_add 126 = .ok (.iastore, 1) := by decide +kernel
theorem dX9_add_127 : decode cX9_add 127 = .ok (.aload_n 0, 1) := by decide +kernel
theorem dX9_add_128 : decode cX9_add 128 = .ok (.invokevirtual 372, 3) := by decide +kernel
theorem dX9_add_131 : decode cX9_add 131 = .ok (.ireturn, 1) := by decide +kernel
theorem dX9_disturb_0 : decode cX9_disturb 0 = .ok (.aload_n 0, 1) := by decide +kernel
theorem dX9_disturb_1 : decode cX9_disturb 1 = .ok (.invokevirtual 289, 3) := by decide +kernel
theorem dX9_disturb_4 : decode cX9_disturb 4 = .ok (.ifCond .eq 27, 3) := by decide +kernel
theorem dX9_disturb_7 : decode cX9_disturb 7 = .ok (.iload_n 1, 1) := by decide +kernel
theorem dX9_disturb_8 : decode cX9_disturb 8 = .ok (.i2l, 1) := by decide +kernel
theorem dX9_disturb_9 : decode cX9_disturb 9 = .ok (.lconst 0, 1) := by decide +kernel
theorem dX9_disturb_10 : decode cX9_disturb 10 = .ok (.ldc2_w 367, 3) := by decide +kernel
theorem dX9_disturb_13 : decode cX9_disturb 13 = .ok (.invokestatic 84, 3) := by decide +kernel
theorem dX9_disturb_16 : decode cX9_disturb 16 = .ok (.ifCond .eq 15, 3) := by decide +kernel
theorem dX9_disturb_19 : decode cX9_disturb 19 = .ok (.iload_n 2, 1) := by decide +kernel
theorem dX9_disturb_20 : decode cX9_disturb 20 = .ok (.i2l, 1) := by decide +kernel
theorem dX9_disturb_21 : decode cX9_disturb 21 = .ok (.lconst 0, 1) := by decide +kernel
theorem dX9_disturb_22 : decode cX9_disturb 22 = .ok (.ldc2_w 304, 3) := by decide +kernel
theorem dX9_disturb_25 : decode cX9_disturb 25 = .ok (.invokestatic 84, 3) := by decide +kernel
theorem dX9_disturb_28 : decode cX9_disturb 28 = .ok (.ifCond .ne 6, 3) := by decide +kernel
theorem dX9_disturb_31 : decode cX9_disturb 31 = .ok (.bipush (-2), 2) := by decide +kernel
theorem dX9_disturb_33 : decode cX9_disturb 33 = .ok (.ireturn, 1) := by decide +kernel
theorem dX9_disturb_34 : decode cX9_disturb 34 = .ok (.aload_n 0, 1) := by decide +kernel
theorem dX9_disturb_35 : decode cX9_disturb 35 = .ok (.iload_n 1, 1) := by decide +kernel
theorem dX9_disturb_36 : decode cX9_disturb 36 = .ok (.invokevirtual 166, 3) := by decide +kernel
theorem dX9_disturb_39 : decode cX9_disturb 39 = .ok (.ifCond .ne 23, 3) := by decide +kernel
theorem dX9_disturb_42 : decode cX9_disturb 42 = .ok (.aload_n 0, 1) := by decide +kernel
theorem dX9_disturb_43 : decode cX9_disturb 43 = .ok (.getfield 9, 3) := by decide +kernel
theorem dX9_disturb_46 : decode cX9_disturb 46 = .ok (.iconst 5, 1) := by decide +kernel
theorem dX9_disturb_47 : decode cX9_disturb 47 = .ok (.iaload, 1) := by decide +kernel
theorem dX9_disturb_48 : decode cX9_disturb 48 = .ok (.bipush 10, 2) := by decide +kernel
theorem dX9_disturb_50 : decode cX9_disturb 50 = .ok (.if_icmp .eq 12, 3) := by decide +kernel
theorem dX9_disturb_53 : decode cX9_disturb 53 = .ok (.aload_n 0, 1) := by decide +kernel
theorem dX9_disturb_54 : decode cX9_disturb 54 = .ok (.getfield 194, 3) := by decide +kernel
theorem dX9_disturb_57 : decode cX9_disturb 57 = .ok (.bipush 20, 2) := by decide +kernel
theorem dX9_disturb_59 : decode cX9_disturb 59 = .ok (.if_icmp .ne 6, 3) := by decide +kernel
theorem dX9_disturb_62 : decode cX9_disturb 62 = .ok (.bipush (-5), 2) := by decide +kernel
theorem dX9_disturb_64 : decode cX9_disturb 64 = .ok (.ireturn, 1) := by decide +kernel
theorem dX9_disturb_65 : decode cX9_disturb 65 = .ok (.aload_n 0, 1) := by decide +kernel
theorem dX9_disturb_66 : decode cX9_disturb 66 = .ok (.invokevirtual 369, 3) := by decide +kernel
theorem dX9_disturb_69 : decode cX9_disturb 69 = .ok (.aload_n 0, 1) := by decide +kernel
theorem dX9_disturb_70 : decode cX9_disturb 70 = .ok (.getfield 9, 3) := by decide +kernel
theorem dX9_disturb_73 : decode cX9_disturb 73 = .ok (.bipush 37, 2) := by decide +kernel
theorem dX9_disturb_75 : decode cX9_disturb 75 = .ok (.aload_n 0, 1) := by decide +kernel
theorem dX9_disturb_76 : decode cX9_disturb 76 = .ok (.getfield 9, 3) := by decide +kernel
theorem dX9_disturb_79 : decode cX9_disturb 79 = .ok (.iconst 5, 1) := by decide +kernel
theorem dX9_disturb_80 : decode cX9_disturb 80 = .ok (.iaload, 1) := by decide +kernel
theorem dX9_disturb_81 : decode cX9_disturb 81 = .ok (.iadd, 1) := by decide +kernel
theorem dX9_disturb_82 : decode cX9_disturb 82 = .ok (.iload_n 1, 1) := by decide +kernel
theorem dX9_disturb_83 : decode cX9_disturb 83 = .ok (.iastore, 1) := by decide +kernel
theorem dX9_disturb_84 : decode cX9_disturb 84 = .ok (.aload_n 0, 1) := by decide +kernel
theorem dX9_disturb_85 : decode cX9_disturb 85 = .ok (.getfield 9, 3) := by decide +kernel
theorem dX9_disturb_88 : decode cX9_disturb 88 = .ok (.bipush 47, 2) := by decide +kernel
theorem dX9_disturb_90 : decode cX9_disturb 90 = .ok (.aload_n 0, 1) := by decide +kernel
theorem dX9_disturb_91 : decode cX9_disturb 91 = .ok (.getfield 9, 3) := by decide +kernel
theorem dX9_disturb_94 : decode cX9_disturb 94 = .ok (.iconst 5, 1) := by decide +kernel
theorem dX9_disturb_95 : decode cX9_disturb 95 = .ok (.iaload, 1) := by decide +kernel
theorem dX9_disturb_96 : decode cX9_disturb 96 = .ok (.iadd, 1) := by decide +kernel
theorem dX9_disturb_97 : decode cX9_disturb 97 = .ok (.iload_n 2, 1) := by decide +kernel
theorem dX9_disturb_98 : decode cX9_disturb 98 = .ok (.iastore, 1) := by decide +kernel
theorem dX9_disturb_99 : decode cX9_disturb 99 = .ok (.aload_n 0, 1) := by decide +kernel
theorem dX9_disturb_100 : decode cX9_disturb 100 = .ok (.getfield 9, 3) := by decide +kernel
theorem dX9_disturb_103 : decode cX9_disturb 103 = .ok (.iconst 5, 1) := by decide +kernel
theorem dX9_disturb_104 : decode cX9_disturb 104 = .ok (.dup2, 1) := by decide +kernel
theorem dX9_disturb_105 : decode cX9_disturb 105 = .ok (.iaload, 1) := by decide +kernel
theorem dX9_disturb_106 : decode cX9_disturb 106 = .ok (.iconst 1, 1) := by decide +kernel
theorem dX9_disturb_107 : decode cX9_disturb 107 = .ok (.iadd, 1) := by decide +kernel
theorem dX9_disturb_108 : decode cX9_disturb 108 = .ok (.iastore, 1) := by decide +kernel
theorem dX9_disturb_109 : decode cX9_disturb 109 = .ok (.aload_n 0, 1) := by decide +kernel
theorem dX9_disturb_110 : decode cX9_disturb 110 = .ok (.invokevirtual 372, 3) := by decide +kernel
theorem dX9_disturb_113 : decode cX9_disturb 113 = .ok (.ireturn, 1) := by decide +kernel
theorem dX9_rule_0 : decode cX9_rule 0 = .ok (.aload_n 0, 1) := by decide +kernel
theorem dX9_rule_1 : decode cX9_rule 1 = .ok (.invokevirtual 289, 3) := by decide +kernel
theorem dX9_rule_4 : decode cX9_rule 4 = .ok (.ifCond .eq 15, 3) := by decide +kernel
theorem dX9_rule_7 : decode cX9_rule 7 = .ok (.iload_n 1, 1) := by decide +kernel
theorem dX9_rule_8 : decode cX9_rule 8 = .ok (.i2l, 1) := by decide +kernel
theorem dX9_rule_9 : decode cX9_rule 9 = .ok (.lconst 0, 1) := by decide +kernel
theorem dX9_rule_10 : decode cX9_rule 10 = .ok (.ldc2_w 312, 3) := by decide +kernel
theorem dX9_rule_13 : decode cX9_rule 13 = .ok (.invokestatic 84, 3) := by decide +kernel
theorem dX9_rule_16 : decode cX9_rule 16 = .ok (.ifCond .ne 6, 3) := by decide +kernel
theorem dX9_rule_19 : decode cX9_rule 19 = .ok (.bipush (-2), 2) := by decide +kernel
theorem dX9_rule_21 : decode cX9_rule 21 = .ok (.ireturn, 1) := by decide +kernel
theorem dX9_rule_22 : decode cX9_rule 22 = .ok (.aload_n 0, 1) := by decide +kernel
theorem dX9_rule_23 : decode cX9_rule 23 = .ok (.getfield 9, 3) := by decide +kernel
theorem dX9_rule_26 : decode cX9_rule 26 = .ok (.iconst 0, 1) := by decide +kernel
theorem dX9_rule_27 : decode cX9_rule 27 = .ok (.iaload, 1) := by decide +kernel
theorem dX9_rule_28 : decode cX9_rule 28 = .ok (.iload_n 1, 1) := by decide +kernel
theorem dX9_rule_29 : decode cX9_rule 29 = .ok (.if_icmp .eq 12, 3) := by decide +kernel
theorem dX9_rule_32 : decode cX9_rule 32 = .ok (.aload_n 0, 1) := by decide +kernel
theorem dX9_rule_33 : decode cX9_rule 33 = .ok (.getfield 194, 3) := by decide +kernel
theorem dX9_rule_36 : decode cX9_rule 36 = .ok (.bipush 20, 2) := by decide +kernel
theorem dX9_rule_38 : decode cX9_rule 38 = .ok (.if_icmp .ne 6, 3) := by decide +kernel
theorem dX9_rule_41 : decode cX9_rule 41 = .ok (.bipush (-5), 2) := by decide +kernel
theorem dX9_rule_43 : decode cX9_rule 43 = .ok (.ireturn, 1) := by decide +kernel
theorem dX9_rule_44 : decode cX9_rule 44 = .ok (.aload_n 0, 1) := by decide +kernel
theorem dX9_rule_45 : decode cX9_rule 45 = .ok (.invokevirtual 369, 3) := by decide +kernel
theorem dX9_rule_48 : decode cX9_rule 48 = .ok (.aload_n 0, 1) := by decide +kernel
theorem dX9_rule_49 : decode cX9_rule 49 = .ok (.getfield 9, 3) := by decide +kernel
theorem dX9_rule_52 : decode cX9_rule 52 = .ok (.iconst 0, 1) := by decide +kernel
theorem dX9_rule_53 : decode cX9_rule 53 = .ok (.iload_n 1, 1) := by decide +kernel
theorem dX9_rule_54 : decode cX9_rule 54 = .ok (.iastore, 1) := by decide +kernel
theorem dX9_rule_55 : decode cX9_rule 55 = .ok (.aload_n 0, 1) := by decide +kernel
theorem dX9_rule_56 : decode cX9_rule 56 = .ok (.invokevirtual 372, 3) := by decide +kernel
theorem dX9_rule_59 : decode cX9_rule 59 = .ok (.ireturn, 1) := by decide +kernel
theorem dX9_undo_0 : decode cX9_undo 0 = .ok (.aload_n 0, 1) := by decide +kernel
theorem dX9_undo_1 : decode cX9_undo 1 = .ok (.invokevirtual 289, 3) := by decide +kernel
theorem dX9_undo_4 : decode cX9_undo 4 = .ok (.ifCond .ne 6, 3) := by decide +kernel
theorem dX9_undo_7 : decode cX9_undo 7 = .ok (.bipush (-2), 2) := by decide +kernel
theorem dX9_undo_9 : decode cX9_undo 9 = .ok (.ireturn, 1) := by decide +kernel
theorem dX9_undo_10 : decode cX9_undo 10 = .ok (.aload_n 0, 1) := by decide +kernel
theorem dX9_undo_11 : decode cX9_undo 11 = .ok (.getfield 194, 3) := by decide +kernel
theorem dX9_undo_14 : decode cX9_undo 14 = .ok (.ifCond .ne 6, 3) := by decide +kernel
theorem dX9_undo_17 : decode cX9_undo 17 = .ok (.bipush (-5), 2) := by decide +kernel
theorem dX9_undo_19 : decode cX9_undo 19 = .ok (.ireturn, 1) := by decide +kernel
theorem dX9_undo_20 : decode cX9_undo 20 = .ok (.aload_n 0, 1) := by decide +kernel
theorem dX9_undo_21 : decode cX9_undo 21 = .ok (.aload_n 0, 1) := by decide +kernel
theorem dX9_undo_22 : decode cX9_undo 22 = .ok (.getfield 194, 3) := by decide +kernel
theorem dX9_undo_25 : decode cX9_undo 25 = .ok (.iconst 1, 1) := by decide +kernel
theorem dX9_undo_26 : decode cX9_undo 26 = .ok (.isub, 1) := by decide +kernel
theorem dX9_undo_27 : decode cX9_undo 27 = .ok (.invokevirtual 375, 3) := by decide +kernel
theorem dX9_undo_30 : decode cX9_undo 30 = .ok (.aload_n 0, 1) := by decide +kernel
theorem dX9_undo_31 : decode cX9_undo 31 = .ok (.getfield 194, 3) := by decide +kernel
theorem dX9_undo_34 : decode cX9_undo 34 = .ok (.ireturn, 1) := by decide +kernel
theorem dX9_anew_0 : decode cX9_anew 0 = .ok (.aload_n 0, 1) := by decide +kernel
theorem dX9_anew_1 : decode cX9_anew 1 = .ok (.invokevirtual 289, 3) := by decide +kernel
theorem dX9_anew_4 : decode cX9_anew 4 = .ok (.ifCond .ne 6, 3) := by decide +kernel
theorem dX9_anew_7 : decode cX9_anew 7 = .ok (.bipush (-2), 2) := by decide +kernel
theorem dX9_anew_9 : decode cX9_anew 9 = .ok (.ireturn, 1) := by decide +kernel
theorem dX9_anew_10 : decode cX9_anew 10 = .ok (.aload_n 0, 1) := by decide +kernel
theorem dX9_anew_11 : decode cX9_anew 11 = .ok (.getfield 194, 3) := by decide +kernel
theorem dX9_anew_14 : decode cX9_anew 14 = .ok (.istore_n 1, 1) := by decide +kernel
theorem dX9_anew_15 : decode cX9_anew 15 = .ok (.iload_n 1, 1) := by decide +kernel
theorem dX9_anew_16 : decode cX9_anew 16 = .ok (.ifCond .le 8, 3) := by decide +kernel
theorem dX9_anew_19 : decode cX9_anew 19 = .ok (.aload_n 0, 1) := by decide +kernel
theorem dX9_anew_20 : decode cX9_anew 20 = .ok (.iconst 0, 1) := by decide +kernel
theorem dX9_anew_21 : decode cX9_anew 21 = .ok (.invokevirtual 375, 3) := by decide +kernel
theorem dX9_anew_24 : decode cX9_anew 24 = .ok (.iload_n 1, 1) := by decide +kernel
theorem dX9_anew_25 : decode cX9_anew 25 = .ok (.ireturn, 1) := by decide +kernel
theorem dJ6_bitCount_0f7a4_0 : decode cJ6_bitCount_0f7a4 0 = .ok (.iload_n 0, 1) := by decide +kernel
theorem dJ6_bitCount_0f7a4_1 : decode cJ6_bitCount_0f7a4 1 = .ok (.iload_n 0, 1) := by decide +kernel
theorem dJ6_bitCount_0f7a4_2 : decode cJ6_bitCount_0f7a4 2 = .ok (.iconst 1, 1) := by decide +kernel
theorem dJ6_bitCount_0f7a4_3 : decode cJ6_bitCount_0f7a4 3 = .ok (.iushr, 1) := by decide +kernel
theorem dJ6_bitCount_0f7a4_4 : decode cJ6_bitCount_0f7a4 4 = .ok (.ldc_w 265, 3) := by decide +kernel
theorem dJ6_bitCount_0f7a4_7 : decode cJ6_bitCount_0f7a4 7 = .ok (.iand, 1) := by decide +kernel
theorem dJ6_bitCount_0f7a4_8 : decode cJ6_bitCount_0f7a4 8 = .ok (.isub, 1) := by decide +kernel
theorem dJ6_bitCount_0f7a4_9 : decode cJ6_bitCount_0f7a4 9 = .ok (.istore_n 0, 1) := by decide +kernel
theorem dJ6_bitCount_0f7a4_10 : decode cJ6_bitCount_0f7a4 10 = .ok (.iload_n 0, 1) := by decide +kernel
theorem dJ6_bitCount_0f7a4_11 : decode cJ6_bitCount_0f7a4 11 = .ok (.ldc_w 266, 3) := by decide +kernel
theorem dJ6_bitCount_0f7a4_14 : decode cJ6_bitCount_0f7a4 14 = .ok (.iand, 1) := by decide +kernel
theorem dJ6_bitCount_0f7a4_15 : decode cJ6_bitCount_0f7a4 15 = .ok (.iload_n 0, 1) := by decide +kernel
theorem dJ6_bitCount_0f7a4_16 : decode cJ6_bitCount_0f7a4 16 = .ok (.iconst 2, 1) := by decide +kernel
theorem dJ6_bitCount_0f7a4_17 : decode cJ6_bitCount_0f7a4 17 = .ok (.iushr, 1) := by decide +kernel
theorem dJ6_bitCount_0f7a4_18 : decode cJ6_bitCount_0f7a4 18 = .ok (.ldc_w 266, 3) := by decide +kernel
theorem dJ6_bitCount_0f7a4_21 : decode cJ6_bitCount_0f7a4 21 = .ok (.iand, 1) := by decide +kernel
theorem dJ6_bitCount_0f7a4_22 : decode cJ6_bitCount_0f7a4 22 = .ok (.iadd, 1) := by decide +kernel
theorem dJ6_bitCount_0f7a4_23 : decode cJ6_bitCount_0f7a4 23 = .ok (.istore_n 0, 1) := by decide +kernel
theorem dJ6_bitCount_0f7a4_24 : decode cJ6_bitCount_0f7a4 24 = .ok (.iload_n 0, 1) := by decide +kernel
theorem dJ6_bitCount_0f7a4_25 : decode cJ6_bitCount_0f7a4 25 = .ok (.iload_n 0, 1) := by decide +kernel
theorem dJ6_bitCount_0f7a4_26 : decode cJ6_bitCount_0f7a4 26 = .ok (.iconst 4, 1) := by decide +kernel
theorem dJ6_bitCount_0f7a4_27 : decode cJ6_bitCount_0f7a4 27 = .ok (.iushr, 1) := by decide +kernel
theorem dJ6_bitCount_0f7a4_28 : decode cJ6_bitCount_0f7a4 28 = .ok (.iadd, 1) := by decide +kernel
theorem dJ6_bitCount_0f7a4_29 : decode cJ6_bitCount_0f7a4 29 = .ok (.ldc_w 267, 3) := by decide +kernel
theorem dJ6_bitCount_0f7a4_32 : decode cJ6_bitCount_0f7a4 32 = .ok (.iand, 1) := by decide +kernel
theorem dJ6_bitCount_0f7a4_33 : decode cJ6_bitCount_0f7a4 33 = .ok (.istore_n 0, 1) := by decide +kernel
theorem dJ6_bitCount_0f7a4_34 : decode cJ6_bitCount_0f7a4 34 = .ok (.iload_n 0, 1) := by decide +kernel
theorem dJ6_bitCount_0f7a4_35 : decode cJ6_bitCount_0f7a4 35 = .ok (.iload_n 0, 1) := by decide +kernel
theorem dJ6_bitCount_0f7a4_36 : decode cJ6_bitCount_0f7a4 36 = .ok (.bipush 8, 2) := by decide +kernel
theorem dJ6_bitCount_0f7a4_38 : decode cJ6_bitCount_0f7a4 38 = .ok (.iushr, 1) := by decide +kernel
theorem dJ6_bitCount_0f7a4_39 : decode cJ6_bitCount_0f7a4 39 = .ok (.iadd, 1) := by decide +kernel
theorem dJ6_bitCount_0f7a4_40 : decode cJ6_bitCount_0f7a4 40 = .ok (.istore_n 0, 1) := by decide +kernel
theorem dJ6_bitCount_0f7a4_41 : decode cJ6_bitCount_0f7a4 41 = .ok (.iload_n 0, 1) := by decide +kernel
theorem dJ6_bitCount_0f7a4_42 : decode cJ6_bitCount_0f7a4 42 = .ok (.iload_n 0, 1) := by decide +kernel
theorem dJ6_bitCount_0f7a4_43 : decode cJ6_bitCount_0f7a4 43 = .ok (.bipush 16, 2) := by decide +kernel
theorem dJ6_bitCount_0f7a4_45 : decode cJ6_bitCount_0f7a4 45 = .ok (.iushr, 1) := by decide +kernel
theorem dJ6_bitCount_0f7a4_46 : decode cJ6_bitCount_0f7a4 46 = .ok (.iadd, 1) := by decide +kernel
theorem dJ6_bitCount_0f7a4_47 : decode cJ6_bitCount_0f7a4 47 = .ok (.istore_n 0, 1) := by decide +kernel
theorem dJ6_bitCount_0f7a4_48 : decode cJ6_bitCount_0f7a4 48 = .ok (.iload_n 0, 1) := by decide +kernel
theorem dJ6_bitCount_0f7a4_49 : decode cJ6_bitCount_0f7a4 49 = .ok (.bipush 63, 2) := by decide +kernel
theorem dJ6_bitCount_0f7a4_51 : decode cJ6_bitCount_0f7a4 51 = .ok (.iand, 1) := by decide +kernel
theorem dJ6_bitCount_0f7a4_52 : decode cJ6_bitCount_0f7a4 52 = .ok (.ireturn, 1) := by decide +kernel
theorem dJ9_max_7cf53_0 : decode cJ9_max_7cf53 0 = .ok (.iload_n 0, 1) := by decide +kernel
theorem dJ9_max_7cf53_1 : decode cJ9_max_7cf53 1 = .ok (.iload_n 1, 1) := by decide +kernel
theorem dJ9_max_7cf53_2 : decode cJ9_max_7cf53 2 = .ok (.if_icmp .lt 7, 3) := by decide +kernel
theorem dJ9_max_7cf53_5 : decode cJ9_max_7cf53 5 = .ok (.iload_n 0, 1) := by decide +kernel
theorem dJ9_max_7cf53_6 : decode cJ9_max_7cf53 6 = .ok (.goto 4, 3) := by decide +kernel
theorem dJ9_max_7cf53_9 : decode cJ9_max_7cf53 9 = .ok (.iload_n 1, 1) := by decide +kernel
theorem dJ9_max_7cf53_10 : decode cJ9_max_7cf53 10 = .ok (.ireturn, 1) := by decide +kernel
theorem dJ9_max_f86c9_0 : decode cJ9_max_f86c9 0 = .ok (.lload_n 0, 1) := by decide +kernel
theorem dJ9_max_f86c9_1 : decode cJ9_max_f86c9 1 = .ok (.lload_n 2, 1) := by decide +kernel
theorem dJ9_max_f86c9_2 : decode cJ9_max_f86c9 2 = .ok (.lcmp, 1) := by decide +kernel
theorem dJ9_max_f86c9_3 : decode cJ9_max_f86c9 3 = .ok (.ifCond .lt 7, 3) := by decide +kernel
theorem dJ9_max_f86c9_6 : decode cJ9_max_f86c9 6 = .ok (.lload_n 0, 1) := by decide +kernel
theorem dJ9_max_f86c9_7 : decode cJ9_max_f86c9 7 = .ok (.goto 4, 3) := by decide +kernel
theorem dJ9_max_f86c9_10 : decode cJ9_max_f86c9 10 = .ok (.lload_n 2, 1) := by decide +kernel
theorem dJ9_max_f86c9_11 : decode cJ9_max_f86c9 11 = .ok (.lreturn, 1) := by decide +kernel
theorem dJ9_min_7cf53_0 : decode cJ9_min_7cf53 0 = .ok (.iload_n 0, 1) := by decide +kernel
theorem dJ9_min_7cf53_1 : decode cJ9_min_7cf53 1 = .ok (.iload_n 1, 1) := by decide +kernel
theorem dJ9_min_7cf53_2 : decode cJ9_min_7cf53 2 = .ok (.if_icmp .gt 7, 3) := by decide +kernel
theorem dJ9_min_7cf53_5 : decode cJ9_min_7cf53 5 = .ok (.iload_n 0, 1) := by decide +kernel
theorem dJ9_min_7cf53_6 : decode cJ9_min_7cf53 6 = .ok (.goto 4, 3) := by decide +kernel
theorem dJ9_min_7cf53_9 : decode cJ9_min_7cf53 9 = .ok (.iload_n 1, 1) := by decide +kernel
theorem dJ9_min_7cf53_10 : decode cJ9_min_7cf53 10 = .ok (.ireturn, 1) := by decide +kernel
theorem dJ0_length_8abf5_0 : decode cJ0_length_8abf5 0 = .ok (.aload_n 0, 1) := by decide +kernel
theorem dJ0_length_8abf5_1 : decode cJ0_length_8abf5 1 = .ok (.getfield 9, 3) := by decide +kernel
theorem dJ0_length_8abf5_4 : decode cJ0_length_8abf5 4 = .ok (.arraylength, 1) := by decide +kernel
theorem dJ0_length_8abf5_5 : decode cJ0_length_8abf5 5 = .ok (.aload_n 0, 1) := by decide +kernel
theorem dJ0_length_8abf5_6 : decode cJ0_length_8abf5 6 = .ok (.invokevirtual 335, 3) := by decide +kernel
theorem dJ0_length_8abf5_9 : decode cJ0_length_8abf5 9 = .ok (.ishr, 1) := by decide +kernel
theorem dJ0_length_8abf5_10 : decode cJ0_length_8abf5 10 = .ok (.ireturn, 1) := by decide +kernel
theorem dJ0_charAt_5068e_0 : decode cJ0_charAt_5068e 0 = .ok (.aload_n 0, 1) := by decide +kernel
theorem dJ0_charAt_5068e_1 : decode cJ0_charAt_5068e 1 = .ok (.invokevirtual 492, 3) := by decide +kernel
theorem dJ0_charAt_5068e_4 : decode cJ0_charAt_5068e 4 = .ok (.ifCond .eq 12, 3) := by decide +kernel
theorem dJ0_charAt_5068e_7 : decode cJ0_charAt_5068e 7 = .ok (.aload_n 0, 1) := by decide +kernel
theorem dJ0_charAt_5068e_8 : decode cJ0_charAt_5068e 8 = .ok (.getfield 9, 3) := by decide +kernel
theorem dJ0_charAt_5068e_11 : decode cJ0_charAt_5068e 11 = .ok (.iload_n 1, 1) := by decide +kernel
theorem dJ0_charAt_5068e_12 : decode cJ0_charAt_5068e 12 = .ok (.invokestatic 495, 3) := by decide +kernel
theorem dJ0_charAt_5068e_15 : decode cJ0_charAt_5068e 15 = .ok (.ireturn, 1) := by decide +kernel
theorem dJ0_charAt_5068e_16 : decode cJ0_charAt_5068e 16 = .ok (.aload_n 0, 1) := by decide +kernel
theorem dJ0_charAt_5068e_17 : decode cJ0_charAt_5068e 17 = .ok (.getfield 9, 3) := by decide +kernel
theorem dJ0_charAt_5068e_20 : decode cJ0_charAt_5068e 20 = .ok (.iload_n 1, 1) := by decide +kernel
theorem dJ0_charAt_5068e_21 : decode cJ0_charAt_5068e 21 = .ok (.invokestatic 498, 3) := by decide +kernel
theorem dJ0_charAt_5068e_24 : decode cJ0_charAt_5068e 24 = .ok (.ireturn, 1) := by decide +kernel
theorem dJ0_coder_7d493_0 : decode cJ0_coder_7d493 0 = .ok (.getstatic 38, 3) := by decide +kernel
theorem dJ0_coder_7d493_3 : decode cJ0_coder_7d493 3 = .ok (.ifCond .eq 10, 3) := by decide +kernel
theorem dJ0_coder_7d493_6 : decode cJ0_coder_7d493 6 = .ok (.aload_n 0, 1) := by decide +kernel
theorem dJ0_coder_7d493_7 : decode cJ0_coder_7d493 7 = .ok (.getfield 15, 3) := by decide +kernel
theorem dJ0_coder_7d493_10 : decode cJ0_coder_7d493 10 = .ok (.goto 4, 3) := by decide +kernel
theorem dJ0_coder_7d493_13 : decode cJ0_coder_7d493 13 = .ok (.iconst 1, 1) := by decide +kernel
theorem dJ0_coder_7d493_14 : decode cJ0_coder_7d493 14 = .ok (.ireturn, 1) := by decide +kernel
theorem dJ0_isLatin1_aae02_0 : decode cJ0_isLatin1_aae02 0 = .ok (.getstatic 38, 3) := by decide +kernel
theorem dJ0_isLatin1_aae02_3 : decode cJ0_isLatin1_aae02 3 = .ok (.ifCond .eq 14, 3) := by decide +kernel
theorem dJ0_isLatin1_aae02_6 : decode cJ0_isLatin1_aae02 6 = .ok (.aload_n 0, 1) := by decide +kernel
theorem dJ0_isLatin1_aae02_7 : decode cJ0_isLatin1_aae02 7 = .ok (.getfield 15, 3) := by decide +kernel
theorem dJ0_isLatin1_aae02_10 : decode cJ0_isLatin1_aae02 10 = .ok (.ifCond .ne 7, 3) := by decide +kernel
theorem dJ0_isLatin1_aae02_13 : decode cJ0_isLatin1_aae02 13 = .ok (.iconst 1, 1) := by decide +kernel
theorem dJ0_isLatin1_aae02_14 : decode cJ0_isLatin1_aae02 14 = .ok (.goto 4, 3) := by decide +kernel
theorem dJ0_isLatin1_aae02_17 : decode cJ0_isLatin1_aae02 17 = .ok (.iconst 0, 1) := by decide +kernel
theorem dJ0_isLatin1_aae02_18 : decode cJ0_isLatin1_aae02 18 = .ok (.ireturn, 1) := by decide +kernel
theorem dJ0_checkIndex_df160_0 : decode cJ0_checkIndex_df160 0 = .ok (.iload_n 0, 1) := by decide +kernel
theorem dJ0_checkIndex_df160_1 : decode cJ0_checkIndex_df160 1 = .ok (.iload_n 1, 1) := by decide +kernel
theorem dJ0_checkIndex_df160_2 : decode cJ0_checkIndex_df160 2 = .ok (.getstatic 1053, 3) := by decide +kernel
theorem dJ0_checkIndex_df160_5 : decode cJ0_checkIndex_df160 5 = .ok (.invokestatic 1059, 3) := by decide +kernel
theorem dJ0_checkIndex_df160_8 : decode cJ0_checkIndex_df160 8 = .ok (.pop, 1) := by decide +kernel
theorem dJ0_checkIndex_df160_9 : decode cJ0_checkIndex_df160 9 = .ok (.return_, 1) := by decide +kernel
theorem dJ1_charAt_3b067_0 : decode cJ1_charAt_3b067 0 = .ok (.iload_n 1, 1) := by decide +kernel
theorem dJ1_charAt_3b067_1 : decode cJ1_charAt_3b067 1 = .ok (.aload_n 0, 1) := by decide +kernel
theorem dJ1_charAt_3b067_2 : decode cJ1_charAt_3b067 2 = .ok (.arraylength, 1) := by decide +kernel
theorem dJ1_charAt_3b067_3 : decode cJ1_charAt_3b067 3 = .ok (.invokestatic 9, 3) := by decide +kernel
theorem dJ1_charAt_3b067_6 : decode cJ1_charAt_3b067 6 = .ok (.aload_n 0, 1) := by decide +kernel
theorem dJ1_charAt_3b067_7 : decode cJ1_charAt_3b067 7 = .ok (.iload_n 1, 1) := by decide +kernel
theorem dJ1_charAt_3b067_8 : decode cJ1_charAt_3b067 8 = .ok (.baload, 1) := by decide +kernel
theorem dJ1_charAt_3b067_9 : decode cJ1_charAt_3b067 9 = .ok (.sipush 255, 3) := by decide +kernel
theorem dJ1_charAt_3b067_12 : decode cJ1_charAt_3b067 12 = .ok (.iand, 1) := by decide +kernel
theorem dJ1_charAt_3b067_13 : decode cJ1_charAt_3b067 13 = .ok (.i2c, 1) := by decide +kernel
theorem dJ1_charAt_3b067_14 : decode cJ1_charAt_3b067 14 = .ok (.ireturn, 1) := by decide +kernel
theorem dJ2_getChar_3b067_0 : decode cJ2_getChar_3b067 0 = .ok (.getstatic 44, 3) := by decide +kernel
theorem dJ2_getChar_3b067_3 : decode cJ2_getChar_3b067 3 = .ok (.ifCond .ne 25, 3) := by decide +kernel
theorem dJ2_getChar_3b067_6 : decode cJ2_getChar_3b067 6 = .ok (.iload_n 1, 1) := by decide +kernel
theorem dJ2_getChar_3b067_7 : decode cJ2_getChar_3b067 7 = .ok (.ifCond .lt 11, 3) := by decide +kernel
theorem dJ2_getChar_3b067_10 : decode cJ2_getChar_3b067 10 = .ok (.iload_n 1, 1) := by decide +kernel
theorem dJ2_getChar_3b067_11 : decode cJ2_getChar_3b067 11 = .ok (.aload_n 0, 1) := by decide +kernel
theorem dJ2_getChar_3b067_12 : decode cJ2_getChar_3b067 12 = .ok (.invokestatic 48, 3) := by decide +kernel
theorem dJ2_getChar_3b067_15 : decode cJ2_getChar_3b067 15 = .ok (.if_icmp .lt 13, 3) := by decide +kernel
theorem dJ2_getChar_3b067_18 : decode cJ2_getChar_3b067 18 = .ok (.new 52, 3) := by decide +kernel
theorem dJ2_getChar_3b067_21 : decode cJ2_getChar_3b067 21 = .ok (.dup, 1) := by decide +kernel
theorem dJ2_getChar_3b067_22 : decode cJ2_getChar_3b067 22 = .ok (.ldc 54, 2) := by decide +kernel
theorem dJ2_getChar_3b067_24 : decode cJ2_getChar_3b067 24 = .ok (.invokespecial 56, 3) := by decide +kernel
theorem dJ2_getChar_3b067_27 : decode cJ2_getChar_3b067 27 = .ok (.athrow, 1) := by decide +kernel
theorem dJ2_getChar_3b067_28 : decode cJ2_getChar_3b067 28 = .ok (.iload_n 1, 1) := by decide +kernel
theorem dJ2_getChar_3b067_29 : decode cJ2_getChar_3b067 29 = .ok (.iconst 1, 1) := by decide +kernel
theorem dJ2_getChar_3b067_30 : decode cJ2_getChar_3b067 30 = .ok (.ishl, 1) := by decide +kernel
theorem dJ2_getChar_3b067_31 : decode cJ2_getChar_3b067 31 = .ok (.istore_n 1, 1) := by decide +kernel
theorem dJ2_getChar_3b067_32 : decode cJ2_getChar_3b067 32 = .ok (.aload_n 0, 1) := by decide +kernel
theorem dJ2_getChar_3b067_33 : decode cJ2_getChar_3b067 33 = .ok (.iload_n 1, 1) := by decide +kernel
theorem dJ2_getChar_3b067_34 : decode cJ2_getChar_3b067 34 = .ok (.iinc 1 1, 3) := by decide +kernel
theorem dJ2_getChar_3b067_37 : decode cJ2_getChar_3b067 37 = .ok (.baload, 1) := by decide +kernel
theorem dJ2_getChar_3b067_38 : decode cJ2_getChar_3b067 38 = .ok (.sipush 255, 3) := by decide +kernel
theorem dJ2_getChar_3b067_41 : decode cJ2_getChar_3b067 41 = .ok (.iand, 1) := by decide +kernel
theorem dJ2_getChar_3b067_42 : decode cJ2_getChar_3b067 42 = .ok (.getstatic 59, 3) := by decide +kernel
theorem dJ2_getChar_3b067_45 : decode cJ2_getChar_3b067 45 = .ok (.ishl, 1) := by decide +kernel
theorem dJ2_getChar_3b067_46 : decode cJ2_getChar_3b067 46 = .ok (.aload_n 0, 1) := by decide +kernel
theorem dJ2_getChar_3b067_47 : decode cJ2_getChar_3b067 47 = .ok (.iload_n 1, 1) := by decide +kernel
theorem dJ2_getChar_3b067_48 : decode cJ2_getChar_3b067 48 = .ok (.baload, 1) := by decide +kernel
theorem dJ2_getChar_3b067_49 : decode cJ2_getChar_3b067 49 = .ok (.sipush 255, 3) := by decide +kernel
theorem dJ2_getChar_3b067_52 : decode cJ2_getChar_3b067 52 = .ok (.iand, 1) := by decide +kernel
theorem dJ2_getChar_3b067_53 : decode cJ2_getChar_3b067 53 = .ok (.getstatic 63, 3) := by decide +kernel
theorem dJ2_getChar_3b067_56 : decode cJ2_getChar_3b067 56 = .ok (.ishl, 1) := by decide +kernel
theorem dJ2_getChar_3b067_57 : decode cJ2_getChar_3b067 57 = .ok (.ior, 1) := by decide +kernel
theorem dJ2_getChar_3b067_58 : decode cJ2_getChar_3b067 58 = .ok (.i2c, 1) := by decide +kernel
theorem dJ2_getChar_3b067_59 : decode cJ2_getChar_3b067 59 = .ok (.ireturn, 1) := by decide +kernel
theorem dJ2_length_9d52b_0 : decode cJ2_length_9d52b 0 = .ok (.aload_n 0, 1) := by decide +kernel
theorem dJ2_length_9d52b_1 : decode cJ2_length_9d52b 1 = .ok (.arraylength, 1) := by decide +kernel
theorem dJ2_length_9d52b_2 : decode cJ2_length_9d52b 2 = .ok (.iconst 1, 1) := by decide +kernel
theorem dJ2_length_9d52b_3 : decode cJ2_length_9d52b 3 = .ok (.ishr, 1) := by decide +kernel
theorem dJ2_length_9d52b_4 : decode cJ2_length_9d52b 4 = .ok (.ireturn, 1) := by decide +kernel
theorem dJ2_charAt_3b067_0 : decode cJ2_charAt_3b067 0 = .ok (.iload_n 1, 1) := by decide +kernel
theorem dJ2_charAt_3b067_1 : decode cJ2_charAt_3b067 1 = .ok (.aload_n 0, 1) := by decide +kernel
theorem dJ2_charAt_3b067_2 : decode cJ2_charAt_3b067 2 = .ok (.invokestatic 67, 3) := by decide +kernel
theorem dJ2_charAt_3b067_5 : decode cJ2_charAt_3b067 5 = .ok (.aload_n 0, 1) := by decide +kernel
theorem dJ2_charAt_3b067_6 : decode cJ2_charAt_3b067 6 = .ok (.iload_n 1, 1) := by decide +kernel
theorem dJ2_charAt_3b067_7 : decode cJ2_charAt_3b067 7 = .ok (.invokestatic 71, 3) := by decide +kernel
theorem dJ2_charAt_3b067_10 : decode cJ2_charAt_3b067 10 = .ok (.ireturn, 1) := by decide +kernel
theorem dJ2_checkIndex_2214a_0 : decode cJ2_checkIndex_2214a 0 = .ok (.iload_n 0, 1) := by decide +kernel
theorem dJ2_checkIndex_2214a_1 : decode cJ2_checkIndex_2214a 1 = .ok (.aload_n 1, 1) := by decide +kernel
theorem dJ2_checkIndex_2214a_2 : decode cJ2_checkIndex_2214a 2 = .ok (.invokestatic 48, 3) := by decide +kernel
theorem dJ2_checkIndex_2214a_5 : decode cJ2_checkIndex_2214a 5 = .ok (.invokestatic 414, 3) := by decide +kernel
theorem dJ2_checkIndex_2214a_8 : decode cJ2_checkIndex_2214a 8 = .ok (.return_, 1) := by decide +kernel
theorem dJ7_fill_d0a16_0 : decode cJ7_fill_d0a16 0 = .ok (.iconst 0, 1) := by decide +kernel
theorem dJ7_fill_d0a16_1 : decode cJ7_fill_d0a16 1 = .ok (.istore_n 3, 1) := by decide +kernel
theorem dJ7_fill_d0a16_2 : decode cJ7_fill_d0a16 2 = .ok (.aload_n 0, 1) := by decide +kernel
theorem dJ7_fill_d0a16_3 : decode cJ7_fill_d0a16 3 = .ok (.arraylength, 1) := by decide +kernel
theorem dJ7_fill_d0a16_4 : decode cJ7_fill_d0a16 4 = .ok (.istore 4, 2) := by decide +kernel
theorem dJ7_fill_d0a16_6 : decode cJ7_fill_d0a16 6 = .ok (.iload_n 3, 1) := by decide +kernel
theorem dJ7_fill_d0a16_7 : decode cJ7_fill_d0a16 7 = .ok (.iload 4, 2) := by decide +kernel
theorem dJ7_fill_d0a16_9 : decode cJ7_fill_d0a16 9 = .ok (.if_icmp .ge 13, 3) := by decide +kernel
theorem dJ7_fill_d0a16_12 : decode cJ7_fill_d0a16 12 = .ok (.aload_n 0, 1) := by decide +kernel
theorem dJ7_fill_d0a16_13 : decode cJ7_fill_d0a16 13 = .ok (.iload_n 3, 1) := by decide +kernel
theorem dJ7_fill_d0a16_14 : decode cJ7_fill_d0a16 14 = .ok (.lload_n 1, 1) := by decide +kernel
theorem dJ7_fill_d0a16_15 : decode cJ7_fill_d0a16 15 = .ok (.lastore, 1) := by decide +kernel
theorem dJ7_fill_d0a16_16 : decode cJ7_fill_d0a16 16 = .ok (.iinc 3 1, 3) := by decide +kernel
theorem dJ7_fill_d0a16_19 : decode cJ7_fill_d0a16 19 = .ok (.goto (-13), 3) := by decide +kernel
theorem dJ7_fill_d0a16_22 : decode cJ7_fill_d0a16 22 = .ok (.return_, 1) := by decide +kernel
theorem dJ7_fill_53178_0 : decode cJ7_fill_53178 0 = .ok (.iconst 0, 1) := by decide +kernel
theorem dJ7_fill_53178_1 : decode cJ7_fill_53178 1 = .ok (.istore_n 2, 1) := by decide +kernel
theorem dJ7_fill_53178_2 : decode cJ7_fill_53178 2 = .ok (.aload_n 0, 1) := by decide +kernel
theorem dJ7_fill_53178_3 : decode cJ7_fill_53178 3 = .ok (.arraylength, 1) := by decide +kernel
theorem dJ7_fill_53178_4 : decode cJ7_fill_53178 4 = .ok (.istore_n 3, 1) := by decide +kernel
theorem dJ7_fill_53178_5 : decode cJ7_fill_53178 5 = .ok (.iload_n 2, 1) := by decide +kernel
theorem dJ7_fill_53178_6 : decode cJ7_fill_53178 6 = .ok (.iload_n 3, 1) := by decide +kernel
theorem dJ7_fill_53178_7 : decode cJ7_fill_53178 7 = .ok (.if_icmp .ge 13, 3) := by decide +kernel
theorem dJ7_fill_53178_10 : decode cJ7_fill_53178 10 = .ok (.aload_n 0, 1) := by decide +kernel
theorem dJ7_fill_53178_11 : decode cJ7_fill_53178 11 = .ok (.iload_n 2, 1) := by decide +kernel
theorem dJ7_fill_53178_12 : decode cJ7_fill_53178 12 = .ok (.iload_n 1, 1) := by decide +kernel
theorem dJ7_fill_53178_13 : decode cJ7_fill_53178 13 = .ok (.iastore, 1) := by decide +kernel
theorem dJ7_fill_53178_14 : decode cJ7_fill_53178 14 = .ok (.iinc 2 1, 3) := by decide +kernel
theorem dJ7_fill_53178_17 : decode cJ7_fill_53178 17 = .ok (.goto (-12), 3) := by decide +kernel
theorem dJ7_fill_53178_20 : decode cJ7_fill_53178 20 = .ok (.return_, 1) := by decide +kernel
theorem dJ3_checkIndex_8e157_0 : decode cJ3_checkIndex_8e157 0 = .ok (.iload_n 0, 1) := by decide +kernel
theorem dJ3_checkIndex_8e157_1 : decode cJ3_checkIndex_8e157 1 = .ok (.ifCond .lt 8, 3) := by decide +kernel
theorem dJ3_checkIndex_8e157_4 : decode cJ3_checkIndex_8e157 4 = .ok (.iload_n 0, 1) := by decide +kernel
theorem dJ3_checkIndex_8e157_5 : decode cJ3_checkIndex_8e157 5 = .ok (.iload_n 1, 1) := by decide +kernel
theorem dJ3_checkIndex_8e157_6 : decode cJ3_checkIndex_8e157 6 = .ok (.if_icmp .lt 10, 3) := by decide +kernel
theorem dJ3_checkIndex_8e157_9 : decode cJ3_checkIndex_8e157 9 = .ok (.aload_n 2, 1) := by decide +kernel
theorem dJ3_checkIndex_8e157_10 : decode cJ3_checkIndex_8e157 10 = .ok (.iload_n 0, 1) := by decide +kernel
theorem dJ3_checkIndex_8e157_11 : decode cJ3_checkIndex_8e157 11 = .ok (.iload_n 1, 1) := by decide +kernel
theorem dJ3_checkIndex_8e157_12 : decode cJ3_checkIndex_8e157 12 = .ok (.invokestatic 95, 3) := by decide +kernel
theorem dJ3_checkIndex_8e157_15 : decode cJ3_checkIndex_8e157 15 = .ok (.athrow, 1) := by decide +kernel
theorem dJ3_checkIndex_8e157_16 : decode cJ3_checkIndex_8e157 16 = .ok (.iload_n 0, 1) := by decide +kernel
theorem dJ3_checkIndex_8e157_17 : decode cJ3_checkIndex_8e157 17 = .ok (.ireturn, 1) := by decide +kernel
theorem dL_law_0 : decode cL_law 0 = .ok (.new 7, 3) := by decide +kernel
theorem dL_law_3 : decode cL_law 3 = .ok (.dup, 1) := by decide +kernel
theorem dL_law_4 : decode cL_law 4 = .ok (.invokespecial 9, 3) := by decide +kernel
theorem dL_law_7 : decode cL_law 7 = .ok (.astore_n 1, 1) := by decide +kernel
theorem dL_law_8 : decode cL_law 8 = .ok (.new 10, 3) := by decide +kernel
theorem dL_law_11 : decode cL_law 11 = .ok (.dup, 1) := by decide +kernel
theorem dL_law_12 : decode cL_law 12 = .ok (.invokespecial 12, 3) := by decide +kernel
theorem dL_law_15 : decode cL_law 15 = .ok (.astore_n 2, 1) := by decide +kernel
theorem dL_law_16 : decode cL_law 16 = .ok (.iconst 0, 1) := by decide +kernel
theorem dL_law_17 : decode cL_law 17 = .ok (.istore_n 3, 1) := by decide +kernel
theorem dL_law_18 : decode cL_law 18 = .ok (.iload_n 3, 1) := by decide +kernel
theorem dL_law_19 : decode cL_law 19 = .ok (.aload_n 0, 1) := by decide +kernel
theorem dL_law_20 : decode cL_law 20 = .ok (.arraylength, 1) := by decide +kernel
theorem dL_law_21 : decode cL_law 21 = .ok (.bipush 6, 2) := by decide +kernel
theorem dL_law_23 : decode cL_law 23 = .ok (.isub, 1) := by decide +kernel
theorem dL_law_24 : decode cL_law 24 = .ok (.if_icmp .gt 1098, 3) := by decide +kernel
theorem dL_law_27 : decode cL_law 27 = .ok (.aload_n 0, 1) := by decide +kernel
theorem dL_law_28 : decode cL_law 28 = .ok (.iload_n 3, 1) := by decide +kernel
theorem dL_law_29 : decode cL_law 29 = .ok (.iaload, 1) := by decide +kernel
theorem dL_law_30 : decode cL_law 30 = .ok (.bipush 63, 2) := by decide +kernel
theorem dL_law_32 : decode cL_law 32 = .ok (.iand, 1) := by decide +kernel
theorem dL_law_33 : decode cL_law 33 = .ok (.tableswitch 1083 0 34 #[155, 218, 241, 254, 277, 300, 333, 366, 399, 422, 445, 468, 491, 504, 517, 540, 553, 566, 579, 592, 625, 648, 681, 704, 737, 760, 773, 817, 881, 935, 958, 1001, 1034, 1057, 1070], 155) := by decide +kernel
theorem dL_law_188 : decode cL_law 188 = .ok (.aload_n 1, 1) := by decide +kernel
theorem dL_law_189 : decode cL_law 189 = .ok (.aload_n 0, 1) := by decide +kernel
theorem dL_law_190 : decode cL_law 190 = .ok (.iload_n 3, 1) := by decide +kernel
theorem dL_law_191 : decode cL_law 191 = .ok (.iconst 1, 1) := by decide +kernel
theorem dL_law_192 : decode cL_law 192 = .ok (.iadd, 1) := by decide +kernel
theorem dL_law_193 : decode cL_law 193 = .ok (.iaload, 1) := by decide +kernel
theorem dL_law_194 : decode cL_law 194 = .ok (.aload_n 0, 1) := by decide +kernel
theorem dL_law_195 : decode cL_law 195 = .ok (.iload_n 3, 1) := by decide +kernel
theorem dL_law_196 : decode cL_law 196 = .ok (.iconst 2, 1) := by decide +kernel
theorem dL_law_197 : decode cL_law 197 = .ok (.iadd, 1) := by decide +kernel
theorem dL_law_198 : decode cL_law 198 = .ok (.iaload, 1) := by decide +kernel
theorem dL_law_199 : decode cL_law 199 = .ok (.aload_n 0, 1) := by decide +kernel
theorem dL_law_200 : decode cL_law 200 = .ok (.iload_n 3, 1) := by decide +kernel
theorem dL_law_201 : decode cL_law 201 = .ok (.iconst 3, 1) := by decide +kernel
theorem dL_law_202 : decode cL_law 202 = .ok (.iadd, 1) := by decide +kernel
theorem dL_law_203 : decode cL_law 203 = .ok (.iaload, 1) := by decide +kernel
theorem dL_law_204 : decode cL_law 204 = .ok (.aload_n 0, 1) := by decide +kernel
theorem dL_law_205 : decode cL_law 205 = .ok (.iload_n 3, 1) := by decide +kernel
theorem dL_law_206 : decode cL_law 206 = .ok (.iconst 4, 1) := by decide +kernel
theorem dL_law_207 : decode cL_law 207 = .ok (.iadd, 1) := by decide +kernel
theorem dL_law_208 : decode cL_law 208 = .ok (.iaload, 1) := by decide +kernel
theorem dL_law_209 : decode cL_law 209 = .ok (.aload_n 0, 1) := by decide +kernel
theorem dL_law_210 : decode cL_law 210 = .ok (.iload_n 3, 1) := by decide +kernel
theorem dL_law_211 : decode cL_law 211 = .ok (.iconst 5, 1) := by decide +kernel
theorem dL_law_212 : decode cL_law 212 = .ok (.iadd, 1) := by decide +kernel
theorem dL_law_213 : decode cL_law 213 = .ok (.iaload, 1) := by decide +kernel
theorem dL_law_214 : decode cL_law 214 = .ok (.invokevirtual 13, 3) := by decide +kernel
theorem dL_law_217 : decode cL_law 217 = .ok (.aload_n 2, 1) := by decide +kernel
theorem dL_law_218 : decode cL_law 218 = .ok (.aload_n 0, 1) := by decide +kernel
theorem dL_law_219 : decode cL_law 219 = .ok (.iload_n 3, 1) := by decide +kernel
theorem dL_law_220 : decode cL_law 220 = .ok (.iconst 1, 1) := by decide +kernel
theorem dL_law_221 : decode cL_law 221 = .ok (.iadd, 1) := by decide +kernel
theorem dL_law_222 : decode cL_law 222 = .ok (.iaload, 1) := by decide +kernel
theorem dL_law_223 : decode cL_law 223 = .ok (.aload_n 0, 1) := by decide +kernel
theorem dL_law_224 : decode cL_law 224 = .ok (.iload_n 3, 1) := by decide +kernel
theorem dL_law_225 : decode cL_law 225 = .ok (.iconst 2, 1) := by decide +kernel
theorem dL_law_226 : decode cL_law 226 = .ok (.iadd, 1) := by decide +kernel
theorem dL_law_227 : decode cL_law 227 = .ok (.iaload, 1) := by decide +kernel
theorem dL_law_228 : decode cL_law 228 = .ok (.aload_n 0, 1) := by decide +kernel
theorem dL_law_229 : decode cL_law 229 = .ok (.iload_n 3, 1) := by decide +kernel
theorem dL_law_230 : decode cL_law 230 = .ok (.iconst 3, 1) := by decide +kernel
theorem dL_law_231 : decode cL_law 231 = .ok (.iadd, 1) := by decide +kernel
theorem dL_law_232 : decode cL_law 232 = .ok (.iaload, 1) := by decide +kernel
theorem dL_law_233 : decode cL_law 233 = .ok (.aload_n 0, 1) := by decide +kernel
theorem dL_law_234 : decode cL_law 234 = .ok (.iload_n 3, 1) := by decide +kernel
theorem dL_law_235 : decode cL_law 235 = .ok (.iconst 4, 1) := by decide +kernel
theorem dL_law_236 : decode cL_law 236 = .ok (.iadd, 1) := by decide +kernel
theorem dL_law_237 : decode cL_law 237 = .ok (.iaload, 1) := by decide +kernel
theorem dL_law_238 : decode cL_law 238 = .ok (.aload_n 0, 1) := by decide +kernel
theorem dL_law_239 : decode cL_law 239 = .ok (.iload_n 3, 1) := by decide +kernel
theorem dL_law_240 : decode cL_law 240 = .ok (.iconst 5, 1) := by decide +kernel
theorem dL_law_241 : decode cL_law 241 = .ok (.iadd, 1) := by decide +kernel
theorem dL_law_242 : decode cL_law 242 = .ok (.iaload, 1) := by decide +kernel
theorem dL_law_243 : decode cL_law 243 = .ok (.invokevirtual 17, 3) := by decide +kernel
theorem dL_law_246 : decode cL_law 246 = .ok (.if_icmp .eq 870, 3) := by decide +kernel
theorem dL_law_249 : decode cL_law 249 = .ok (.iconst 0, 1) := by decide +kernel
theorem dL_law_250 : decode cL_law 250 = .ok (.ireturn, 1) := by decide +kernel
theorem dL_law_251 : decode cL_law 251 = .ok (.aload_n 1, 1) := by decide +kernel
theorem dL_law_252 : decode cL_law 252 = .ok (.aload_n 0, 1) := by decide +kernel
theorem dL_law_253 : decode cL_law 253 = .ok (.iload_n 3, 1) := by decide +kernel
theorem dL_law_254 : decode cL_law 254 = .ok (.iconst 1, 1) := by decide +kernel
theorem dL_law_255 : decode cL_law 255 = .ok (.iadd, 1) := by decide +kernel
theorem dL_law_256 : decode cL_law 256 = .ok (.iaload, 1) := by decide +kernel
theorem dL_law_257 : decode cL_law 257 = .ok (.invokevirtual 18, 3) := by decide +kernel
theorem dL_law_260 : decode cL_law 260 = .ok (.aload_n 2, 1) := by decide +kernel
theorem dL_law_261 : decode cL_law 261 = .ok (.aload_n 0, 1) := by decide +kernel
theorem dL_law_262 : decode cL_law 262 = .ok (.iload_n 3, 1) := by decide +kernel
theorem dL_law_263 : decode cL_law 263 = .ok (.iconst 1, 1) := by decide +kernel
theorem dL_law_264 : decode cL_law 264 = .ok (.iadd, 1) := by decide +kernel
theorem dL_law_265 : decode cL_law 265 = .ok (.iaload, 1) := by decide +kernel
theorem dL_law_266 : decode cL_law 266 = .ok (.invokevirtual 22, 3) := by decide +kernel
theorem dL_law_269 : decode cL_law 269 = .ok (.if_icmp .eq 847, 3) := by decide +kernel
theorem dL_law_272 : decode cL_law 272 = .ok (.iconst 0, 1) := by decide +kernel
theorem dL_law_273 : decode cL_law 273 = .ok (.ireturn, 1) := by decide +kernel
theorem dL_law_274 : decode cL_law 274 = .ok (.aload_n 1, 1) := by decide +kernel
theorem dL_law_275 : decode cL_law 275 = .ok (.invokevirtual 23, 3) := by decide +kernel
theorem dL_law_278 : decode cL_law 278 = .ok (.aload_n 2, 1) := by decide +kernel
theorem dL_law_279 : decode cL_law 279 = .ok (.invokevirtual 27, 3) := by decide +kernel
theorem dL_law_282 : decode cL_law 282 = .ok (.if_icmp .eq 834, 3) := by decide +kernel
theorem dL_law_285 : decode cL_law 285 = .ok (.iconst 0, 1) := by decide +kernel
theorem dL_law_286 : decode cL_law 286 = .ok (.ireturn, 1) := by decide +kernel
theorem dL_law_287 : decode cL_law 287 = .ok (.aload_n 1, 1) := by decide +kernel
theorem dL_law_288 : decode cL_law 288 = .ok (.aload_n 0, 1) := by decide +kernel
theorem dL_law_289 : decode cL_law 289 = .ok (.iload_n 3, 1) := by decide +kernel
theorem dL_law_290 : decode cL_law 290 = .ok (.iconst 1, 1) := by decide +kernel
theorem dL_law_291 : decode cL_law 291 = .ok (.iadd, 1) := by decide +kernel
theorem dL_law_292 : decode cL_law 292 = .ok (.iaload, 1) := by decide +kernel
theorem dL_law_293 : decode cL_law 293 = .ok (.invokevirtual 28, 3) := by decide +kernel
theorem dL_law_296 : decode cL_law 296 = .ok (.aload_n 2, 1) := by decide +kernel
theorem dL_law_297 : decode cL_law 297 = .ok (.aload_n 0, 1) := by decide +kernel
theorem dL_law_298 : decode cL_law 298 = .ok (.iload_n 3, 1) := by decide +kernel
theorem dL_law_299 : decode cL_law 299 = .ok (.iconst 1, 1) := by decide +kernel
theorem dL_law_300 : decode cL_law 300 = .ok (.iadd, 1) := by decide +kernel
theorem dL_law_301 : decode cL_law 301 = .ok (.iaload, 1) := by decide +kernel
theorem dL_law_302 : decode cL_law 302 = .ok (.invokevirtual 31, 3) := by decide +kernel
theorem dL_law_305 : decode cL_law 305 = .ok (.if_icmp .eq 811, 3) := by decide +kernel
theorem dL_law_308 : decode cL_law 308 = .ok (.iconst 0, 1) := by decide +kernel
theorem dL_law_309 : decode cL_law 309 = .ok (.ireturn, 1) := by decide +kernel
theorem dL_law_310 : decode cL_law 310 = .ok (.aload_n 1, 1) := by decide +kernel
theorem dL_law_311 : decode cL_law 311 = .ok (.aload_n 0, 1) := by decide +kernel
theorem dL_law_312 : decode cL_law 312 = .ok (.iload_n 3, 1) := by decide +kernel
theorem dL_law_313 : decode cL_law 313 = .ok (.iconst 1, 1) := by decide +kernel
theorem dL_law_314 : decode cL_law 314 = .ok (.iadd, 1) := by decide +kernel
theorem dL_law_315 : decode cL_law 315 = .ok (.iaload, 1) := by decide +kernel
theorem dL_law_316 : decode cL_law 316 = .ok (.invokevirtual 32, 3) := by decide +kernel
theorem dL_law_319 : decode cL_law 319 = .ok (.aload_n 2, 1) := by decide +kernel
theorem dL_law_320 : decode cL_law 320 = .ok (.aload_n 0, 1) := by decide +kernel
theorem dL_law_321 : decode cL_law 321 = .ok (.iload_n 3, 1) := by decide +kernel
theorem dL_law_322 : decode cL_law 322 = .ok (.iconst 1, 1) := by decide +kernel
theorem dL_law_323 : decode cL_law 323 = .ok (.iadd, 1) := by decide +kernel
theorem dL_law_324 : decode cL_law 324 = .ok (.iaload, 1) := by decide +kernel
theorem dL_law_325 : decode cL_law 325 = .ok (.invokevirtual 35, 3) := by decide +kernel
theorem dL_law_328 : decode cL_law 328 = .ok (.if_icmp .eq 788, 3) := by decide +kernel
theorem dL_law_331 : decode cL_law 331 = .ok (.iconst 0, 1) := by decide +kernel
theorem dL_law_332 : decode cL_law 332 = .ok (.ireturn, 1) := by decide +kernel
theorem dL_law_333 : decode cL_law 333 = .ok (.aload_n 1, 1) := by decide +kernel
theorem dL_law_334 : decode cL_law 334 = .ok (.aload_n 0, 1) := by decide +kernel
theorem dL_law_335 : decode cL_law 335 = .ok (.iload_n 3, 1) := by decide +kernel
theorem dL_law_336 : decode cL_law 336 = .ok (.iconst 1, 1) := by decide +kernel
theorem dL_law_337 : decode cL_law 337 = .ok (.iadd, 1) := by decide +kernel
theorem dL_law_338 : decode cL_law 338 = .ok (.iaload, 1) := by decide +kernel
theorem dL_law_339 : decode cL_law 339 = .ok (.aload_n 0, 1) := by decide +kernel
theorem dL_law_340 : decode cL_law 340 = .ok (.iload_n 3, 1) := by decide +kernel
theorem dL_law_341 : decode cL_law 341 = .ok (.iconst 2, 1) := by decide +kernel
theorem dL_law_342 : decode cL_law 342 = .ok (.iadd, 1) := by decide +kernel
theorem dL_law_343 : decode cL_law 343 = .ok (.iaload, 1) := by decide +kernel
theorem dL_law_344 : decode cL_law 344 = .ok (.invokevirtual 36, 3) := by decide +kernel
theorem dL_law_347 : decode cL_law 347 = .ok (.aload_n 2, 1) := by decide +kernel
theorem dL_law_348 : decode cL_law 348 = .ok (.aload_n 0, 1) := by decide +kernel
theorem dL_law_349 : decode cL_law 349 = .ok (.iload_n 3, 1) := by decide +kernel
theorem dL_law_350 : decode cL_law 350 = .ok (.iconst 1, 1) := by decide +kernel
theorem dL_law_351 : decode cL_law 351 = .ok (.iadd, 1) := by decide +kernel
theorem dL_law_352 : decode cL_law 352 = .ok (.iaload, 1) := by decide +kernel
theorem dL_law_353 : decode cL_law 353 = .ok (.aload_n 0, 1) := by decide +kernel
theorem dL_law_354 : decode cL_law 354 = .ok (.iload_n 3, 1) := by decide +kernel
theorem dL_law_355 : decode cL_law 355 = .ok (.iconst 2, 1) := by decide +kernel
theorem dL_law_356 : decode cL_law 356 = .ok (.iadd, 1) := by decide +kernel
theorem dL_law_357 : decode cL_law 357 = .ok (.iaload, 1) := by decide +kernel
theorem dL_law_358 : decode cL_law 358 = .ok (.invokevirtual 40, 3) := by decide +kernel
theorem dL_law_361 : decode cL_law 361 = .ok (.if_icmp .eq 755, 3) := by decide +kernel
theorem dL_law_364 : decode cL_law 364 = .ok (.iconst 0, 1) := by decide +kernel
theorem dL_law_365 : decode cL_law 365 = .ok (.ireturn, 1) := by decide +kernel
theorem dL_law_366 : decode cL_law 366 = .ok (.aload_n 1, 1) := by decide +kernel
theorem dL_law_367 : decode cL_law 367 = .ok (.aload_n 0, 1) := by decide +kernel
theorem dL_law_368 : decode cL_law 368 = .ok (.iload_n 3, 1) := by decide +kernel
theorem dL_law_369 : decode cL_law 369 = .ok (.iconst 1, 1) := by decide +kernel
theorem dL_law_370 : decode cL_law 370 = .ok (.iadd, 1) := by decide +kernel
theorem dL_law_371 : decode cL_law 371 = .ok (.iaload, 1) := by decide +kernel
theorem dL_law_372 : decode cL_law 372 = .ok (.aload_n 0, 1) := by decide +kernel
theorem dL_law_373 : decode cL_law 373 = .ok (.iload_n 3, 1) := by decide +kernel
theorem dL_law_374 : decode cL_law 374 = .ok (.iconst 2, 1) := by decide +kernel
theorem dL_law_375 : decode cL_law 375 = .ok (.iadd, 1) := by decide +kernel
theorem dL_law_376 : decode cL_law 376 = .ok (.iaload, 1) := by decide +kernel
theorem dL_law_377 : decode cL_law 377 = .ok (.invokevirtual 41, 3) := by decide +kernel
theorem dL_law_380 : decode cL_law 380 = .ok (.aload_n 2, 1) := by decide +kernel
theorem dL_law_381 : decode cL_law 381 = .ok (.aload_n 0, 1) := by decide +kernel
theorem dL_law_382 : decode cL_law 382 = .ok (.iload_n 3, 1) := by decide +kernel
theorem dL_law_383 : decode cL_law 383 = .ok (.iconst 1, 1) := by decide +kernel
theorem dL_law_384 : decode cL_law 384 = .ok (.iadd, 1) := by decide +kernel
theorem dL_law_385 : decode cL_law 385 = .ok (.iaload, 1) := by decide +kernel
theorem dL_law_386 : decode cL_law 386 = .ok (.aload_n 0, 1) := by decide +kernel
theorem dL_law_387 : decode cL_law 387 = .ok (.iload_n 3, 1) := by decide +kernel
theorem dL_law_388 : decode cL_law 388 = .ok (.iconst 2, 1) := by decide +kernel
theorem dL_law_389 : decode cL_law 389 = .ok (.iadd, 1) := by decide +kernel
theorem dL_law_390 : decode cL_law 390 = .ok (.iaload, 1) := by decide +kernel
theorem dL_law_391 : decode cL_law 391 = .ok (.invokevirtual 44, 3) := by decide +kernel
theorem dL_law_394 : decode cL_law 394 = .ok (.if_icmp .eq 722, 3) := by decide +kernel
theorem dL_law_397 : decode cL_law 397 = .ok (.iconst 0, 1) := by decide +kernel
theorem dL_law_398 : decode cL_law 398 = .ok (.ireturn, 1) := by decide +kernel
theorem dL_law_399 : decode cL_law 399 = .ok (.aload_n 1, 1) := by decide +kernel
theorem dL_law_400 : decode cL_law 400 = .ok (.aload_n 0, 1) := by decide +kernel
theorem dL_law_401 : decode cL_law 401 = .ok (.iload_n 3, 1) := by decide +kernel
theorem dL_law_402 : decode cL_law 402 = .ok (.iconst 1, 1) := by decide +kernel
theorem dL_law_403 : decode cL_law 403 = .ok (.iadd, 1) := by decide +kernel
theorem dL_law_404 : decode cL_law 404 = .ok (.iaload, 1) := by decide +kernel
theorem dL_law_405 : decode cL_law 405 = .ok (.aload_n 0, 1) := by decide +kernel
theorem dL_law_406 : decode cL_law 406 = .ok (.iload_n 3, 1) := by decide +kernel
theorem dL_law_407 : decode cL_law 407 = .ok (.iconst 2, 1) := by decide +kernel
theorem dL_law_408 : decode cL_law 408 = .ok (.iadd, 1) := by decide +kernel
theorem dL_law_409 : decode cL_law 409 = .ok (.iaload, 1) := by decide +kernel
theorem dL_law_410 : decode cL_law 410 = .ok (.invokevirtual 45, 3) := by decide +kernel
theorem dL_law_413 : decode cL_law 413 = .ok (.aload_n 2, 1) := by decide +kernel
theorem dL_law_414 : decode cL_law 414 = .ok (.aload_n 0, 1) := by decide +kernel
theorem dL_law_415 : decode cL_law 415 = .ok (.iload_n 3, 1) := by decide +kernel
theorem dL_law_416 : decode cL_law 416 = .ok (.iconst 1, 1) := by decide +kernel
theorem dL_law_417 : decode cL_law 417 = .ok (.iadd, 1) := by decide +kernel
theorem dL_law_418 : decode cL_law 418 = .ok (.iaload, 1) := by decide +kernel
theorem dL_law_419 : decode cL_law 419 = .ok (.aload_n 0, 1) := by decide +kernel
theorem dL_law_420 : decode cL_law 420 = .ok (.iload_n 3, 1) := by decide +kernel
theorem dL_law_421 : decode cL_law 421 = .ok (.iconst 2, 1) := by decide +kernel
theorem dL_law_422 : decode cL_law 422 = .ok (.iadd, 1) := by decide +kernel
theorem dL_law_423 : decode cL_law 423 = .ok (.iaload, 1) := by decide +kernel
theorem dL_law_424 : decode cL_law 424 = .ok (.invokevirtual 48, 3) := by decide +kernel
theorem dL_law_427 : decode cL_law 427 = .ok (.if_icmp .eq 689, 3) := by decide +kernel
theorem dL_law_430 : decode cL_law 430 = .ok (.iconst 0, 1) := by decide +kernel
theorem dL_law_431 : decode cL_law 431 = .ok (.ireturn, 1) := by decide +kernel
theorem dL_law_432 : decode cL_law 432 = .ok (.aload_n 1, 1) := by decide +kernel
theorem dL_law_433 : decode cL_law 433 = .ok (.aload_n 0, 1) := by decide +kernel
theorem dL_law_434 : decode cL_law 434 = .ok (.iload_n 3, 1) := by decide +kernel
theorem dL_law_435 : decode cL_law 435 = .ok (.iconst 1, 1) := by decide +kernel
theorem dL_law_436 : decode cL_law 436 = .ok (.iadd, 1) := by decide +kernel
theorem dL_law_437 : decode cL_law 437 = .ok (.iaload, 1) := by decide +kernel
theorem dL_law_438 : decode cL_law 438 = .ok (.invokevirtual 49, 3) := by decide +kernel
theorem dL_law_441 : decode cL_law 441 = .ok (.aload_n 2, 1) := by decide +kernel
theorem dL_law_442 : decode cL_law 442 = .ok (.aload_n 0, 1) := by decide +kernel
theorem dL_law_443 : decode cL_law 443 = .ok (.iload_n 3, 1) := by decide +kernel
theorem dL_law_444 : decode cL_law 444 = .ok (.iconst 1, 1) := by decide +kernel
theorem dL_law_445 : decode cL_law 445 = .ok (.iadd, 1) := by decide +kernel
theorem dL_law_446 : decode cL_law 446 = .ok (.iaload, 1) := by decide +kernel
theorem dL_law_447 : decode cL_law 447 = .ok (.invokevirtual 52, 3) := by decide +kernel
theorem dL_law_450 : decode cL_law 450 = .ok (.if_icmp .eq 666, 3) := by decide +kernel
theorem dL_law_453 : decode cL_law 453 = .ok (.iconst 0, 1) := by decide +kernel
theorem dL_law_454 : decode cL_law 454 = .ok (.ireturn, 1) := by decide +kernel
theorem dL_law_455 : decode cL_law 455 = .ok (.aload_n 1, 1) := by decide +kernel
theorem dL_law_456 : decode cL_law 456 = .ok (.aload_n 0, 1) := by decide +kernel
theorem dL_law_457 : decode cL_law 457 = .ok (.iload_n 3, 1) := by decide +kernel
theorem dL_law_458 : decode cL_law 458 = .ok (.iconst 1, 1) := by decide +kernel
theorem dL_law_459 : decode cL_law 459 = .ok (.iadd, 1) := by decide +kernel
theorem dL_law_460 : decode cL_law 460 = .ok (.iaload, 1) := by decide +kernel
theorem dL_law_461 : decode cL_law 461 = .ok (.invokevirtual 53, 3) := by decide +kernel
theorem dL_law_464 : decode cL_law 464 = .ok (.aload_n 2, 1) := by decide +kernel
theorem dL_law_465 : decode cL_law 465 = .ok (.aload_n 0, 1) := by decide +kernel
theorem dL_law_466 : decode cL_law 466 = .ok (.iload_n 3, 1) := by decide +kernel
theorem dL_law_467 : decode cL_law 467 = .ok (.iconst 1, 1) := by decide +kernel
theorem dL_law_468 : decode cL_law 468 = .ok (.iadd, 1) := by decide +kernel
theorem dL_law_469 : decode cL_law 469 = .ok (.iaload, 1) := by decide +kernel
theorem dL_law_470 : decode cL_law 470 = .ok (.invokevirtual 56, 3) := by decide +kernel
theorem dL_law_473 : decode cL_law 473 = .ok (.if_icmp .eq 643, 3) := by decide +kernel
theorem dL_law_476 : decode cL_law 476 = .ok (.iconst 0, 1) := by decide +kernel
theorem dL_law_477 : decode cL_law 477 = .ok (.ireturn, 1) := by decide +kernel
theorem dL_law_478 : decode cL_law 478 = .ok (.aload_n 1, 1) := by decide +kernel
theorem dL_law_479 : decode cL_law 479 = .ok (.aload_n 0, 1) := by decide +kernel
theorem dL_law_480 : decode cL_law 480 = .ok (.iload_n 3, 1) := by decide +kernel
theorem dL_law_481 : decode cL_law 481 = .ok (.iconst 1, 1) := by decide +kernel
theorem dL_law_482 : decode cL_law 482 = .ok (.iadd, 1) := by decide +kernel
theorem dL_law_483 : decode cL_law 483 = .ok (.iaload, 1) := by decide +kernel
theorem dL_law_484 : decode cL_law 484 = .ok (.invokevirtual 57, 3) := by decide +kernel
theorem dL_law_487 : decode cL_law 487 = .ok (.aload_n 2, 1) := by decide +kernel
theorem dL_law_488 : decode cL_law 488 = .ok (.aload_n 0, 1) := by decide +kernel
theorem dL_law_489 : decode cL_law 489 = .ok (.iload_n 3, 1) := by decide +kernel
theorem dL_law_490 : decode cL_law 490 = .ok (.iconst 1, 1) := by decide +kernel
theorem dL_law_491 : decode cL_law 491 = .ok (.iadd, 1) := by decide +kernel
theorem dL_law_492 : decode cL_law 492 = .ok (.iaload, 1) := by decide +kernel
theorem dL_law_493 : decode cL_law 493 = .ok (.invokevirtual 60, 3) := by decide +kernel
theorem dL_law_496 : decode cL_law 496 = .ok (.if_icmp .eq 620, 3) := by decide +kernel
theorem dL_law_499 : decode cL_law 499 = .ok (.iconst 0, 1) := by decide +kernel
theorem dL_law_500 : decode cL_law 500 = .ok (.ireturn, 1) := by decide +kernel
theorem dL_law_501 : decode cL_law 501 = .ok (.aload_n 1, 1) := by decide +kernel
theorem dL_law_502 : decode cL_law 502 = .ok (.aload_n 0, 1) := by decide +kernel
theorem dL_law_503 : decode cL_law 503 = .ok (.iload_n 3, 1) := by decide +kernel
theorem dL_law_504 : decode cL_law 504 = .ok (.iconst 1, 1) := by decide +kernel
theorem dL_law_505 : decode cL_law 505 = .ok (.iadd, 1) := by decide +kernel
theorem dL_law_506 : decode cL_law 506 = .ok (.iaload, 1) := by decide +kernel
theorem dL_law_507 : decode cL_law 507 = .ok (.invokevirtual 61, 3) := by decide +kernel
theorem dL_law_510 : decode cL_law 510 = .ok (.aload_n 2, 1) := by decide +kernel
theorem dL_law_511 : decode cL_law 511 = .ok (.aload_n 0, 1) := by decide +kernel
theorem dL_law_512 : decode cL_law 512 = .ok (.iload_n 3, 1) := by decide +kernel
theorem dL_law_513 : decode cL_law 513 = .ok (.iconst 1, 1) := by decide +kernel
theorem dL_law_514 : decode cL_law 514 = .ok (.iadd, 1) := by decide +kernel
theorem dL_law_515 : decode cL_law 515 = .ok (.iaload, 1) := by decide +kernel
theorem dL_law_516 : decode cL_law 516 = .ok (.invokevirtual 64, 3) := by decide +kernel
theorem dL_law_519 : decode cL_law 519 = .ok (.if_icmp .eq 597, 3) := by decide +kernel
theorem dL_law_522 : decode cL_law 522 = .ok (.iconst 0, 1) := by decide +kernel
theorem dL_law_523 : decode cL_law 523 = .ok (.ireturn, 1) := by decide +kernel
theorem dL_law_524 : decode cL_law 524 = .ok (.aload_n 1, 1) := by decide +kernel
theorem dL_law_525 : decode cL_law 525 = .ok (.invokevirtual 65, 3) := by decide +kernel
theorem dL_law_528 : decode cL_law 528 = .ok (.aload_n 2, 1) := by decide +kernel
theorem dL_law_529 : decode cL_law 529 = .ok (.invokevirtual 68, 3) := by decide +kernel
theorem dL_law_532 : decode cL_law 532 = .ok (.if_icmp .eq 584, 3) := by decide +kernel
theorem dL_law_535 : decode cL_law 535 = .ok (.iconst 0, 1) := by decide +kernel
theorem dL_law_536 : decode cL_law 536 = .ok (.ireturn, 1) := by decide +kernel
theorem dL_law_537 : decode cL_law 537 = .ok (.aload_n 1, 1) := by decide +kernel
theorem dL_law_538 : decode cL_law 538 = .ok (.invokevirtual 69, 3) := by decide +kernel
theorem dL_law_541 : decode cL_law 541 = .ok (.aload_n 2, 1) := by decide +kernel
theorem dL_law_542 : decode cL_law 542 = .ok (.invokevirtual 72, 3) := by decide +kernel
theorem dL_law_545 : decode cL_law 545 = .ok (.if_icmp .eq 571, 3) := by decide +kernel
theorem dL_law_548 : decode cL_law 548 = .ok (.iconst 0, 1) := by decide +kernel
theorem dL_law_549 : decode cL_law 549 = .ok (.ireturn, 1) := by decide +kernel
theorem dL_law_550 : decode cL_law 550 = .ok (.aload_n 1, 1) := by decide +kernel
theorem dL_law_551 : decode cL_law 551 = .ok (.aload_n 0, 1) := by decide +kernel
theorem dL_law_552 : decode cL_law 552 = .ok (.iload_n 3, 1) := by decide +kernel
theorem dL_law_553 : decode cL_law 553 = .ok (.iconst 1, 1) := by decide +kernel
theorem dL_law_554 : decode cL_law 554 = .ok (.iadd, 1) := by decide +kernel
theorem dL_law_555 : decode cL_law 555 = .ok (.iaload, 1) := by decide +kernel
theorem dL_law_556 : decode cL_law 556 = .ok (.invokevirtual 73, 3) := by decide +kernel
theorem dL_law_559 : decode cL_law 559 = .ok (.aload_n 2, 1) := by decide +kernel
theorem dL_law_560 : decode cL_law 560 = .ok (.aload_n 0, 1) := by decide +kernel
theorem dL_law_561 : decode cL_law 561 = .ok (.iload_n 3, 1) := by decide +kernel
theorem dL_law_562 : decode cL_law 562 = .ok (.iconst 1, 1) := by decide +kernel
theorem dL_law_563 : decode cL_law 563 = .ok (.iadd, 1) := by decide +kernel
theorem dL_law_564 : decode cL_law 564 = .ok (.iaload, 1) := by decide +kernel
theorem dL_law_565 : decode cL_law 565 = .ok (.invokevirtual 76, 3) := by decide +kernel
theorem dL_law_568 : decode cL_law 568 = .ok (.if_icmp .eq 548, 3) := by decide +kernel
theorem dL_law_571 : decode cL_law 571 = .ok (.iconst 0, 1) := by decide +kernel
theorem dL_law_572 : decode cL_law 572 = .ok (.ireturn, 1) := by decide +kernel
theorem dL_law_573 : decode cL_law 573 = .ok (.aload_n 1, 1) := by decide +kernel
theorem dL_law_574 : decode cL_law 574 = .ok (.invokevirtual 77, 3) := by decide +kernel
theorem dL_law_577 : decode cL_law 577 = .ok (.aload_n 2, 1) := by decide +kernel
theorem dL_law_578 : decode cL_law 578 = .ok (.invokevirtual 80, 3) := by decide +kernel
theorem dL_law_581 : decode cL_law 581 = .ok (.if_icmp .eq 535, 3) := by decide +kernel
theorem dL_law_584 : decode cL_law 584 = .ok (.iconst 0, 1) := by decide +kernel
theorem dL_law_585 : decode cL_law 585 = .ok (.ireturn, 1) := by decide +kernel
theorem dL_law_586 : decode cL_law 586 = .ok (.aload_n 1, 1) := by decide +kernel
theorem dL_law_587 : decode cL_law 587 = .ok (.invokevirtual 81, 3) := by decide +kernel
theorem dL_law_590 : decode cL_law 590 = .ok (.aload_n 2, 1) := by decide +kernel
theorem dL_law_591 : decode cL_law 591 = .ok (.invokevirtual 84, 3) := by decide +kernel
theorem dL_law_594 : decode cL_law 594 = .ok (.if_icmp .eq 522, 3) := by decide +kernel
theorem dL_law_597 : decode cL_law 597 = .ok (.iconst 0, 1) := by decide +kernel
theorem dL_law_598 : decode cL_law 598 = .ok (.ireturn, 1) := by decide +kernel
theorem dL_law_599 : decode cL_law 599 = .ok (.aload_n 1, 1) := by decide +kernel
theorem dL_law_600 : decode cL_law 600 = .ok (.invokevirtual 85, 3) := by decide +kernel
theorem dL_law_603 : decode cL_law 603 = .ok (.aload_n 2, 1) := by decide +kernel
theorem dL_law_604 : decode cL_law 604 = .ok (.invokevirtual 88, 3) := by decide +kernel
theorem dL_law_607 : decode cL_law 607 = .ok (.if_icmp .eq 509, 3) := by decide +kernel
theorem dL_law_610 : decode cL_law 610 = .ok (.iconst 0, 1) := by decide +kernel
theorem dL_law_611 : decode cL_law 611 = .ok (.ireturn, 1) := by decide +kernel
theorem dL_law_612 : decode cL_law 612 = .ok (.aload_n 1, 1) := by decide +kernel
theorem dL_law_613 : decode cL_law 613 = .ok (.invokevirtual 89, 3) := by decide +kernel
theorem dL_law_616 : decode cL_law 616 = .ok (.aload_n 2, 1) := by decide +kernel
theorem dL_law_617 : decode cL_law 617 = .ok (.invokevirtual 92, 3) := by decide +kernel
theorem dL_law_620 : decode cL_law 620 = .ok (.if_icmp .eq 496, 3) := by decide +kernel
theorem dL_law_623 : decode cL_law 623 = .ok (.iconst 0, 1) := by decide +kernel
theorem dL_law_624 : decode cL_law 624 = .ok (.ireturn, 1) := by decide +kernel
theorem dL_law_625 : decode cL_law 625 = .ok (.aload_n 1, 1) := by decide +kernel
theorem dL_law_626 : decode cL_law 626 = .ok (.aload_n 0, 1) := by decide +kernel
theorem dL_law_627 : decode cL_law 627 = .ok (.iload_n 3, 1) := by decide +kernel
theorem dL_law_628 : decode cL_law 628 = .ok (.iconst 1, 1) := by decide +kernel
theorem dL_law_629 : decode cL_law 629 = .ok (.iadd, 1) := by decide +kernel
theorem dL_law_630 : decode cL_law 630 = .ok (.iaload, 1) := by decide +kernel
theorem dL_law_631 : decode cL_law 631 = .ok (.aload_n 0, 1) := by decide +kernel
theorem dL_law_632 : decode cL_law 632 = .ok (.iload_n 3, 1) := by decide +kernel
theorem dL_law_633 : decode cL_law 633 = .ok (.iconst 2, 1) := by decide +kernel
theorem dL_law_634 : decode cL_law 634 = .ok (.iadd, 1) := by decide +kernel
theorem dL_law_635 : decode cL_law 635 = .ok (.iaload, 1) := by decide +kernel
theorem dL_law_636 : decode cL_law 636 = .ok (.invokevirtual 93, 3) := by decide +kernel
theorem dL_law_639 : decode cL_law 639 = .ok (.aload_n 2, 1) := by decide +kernel
theorem dL_law_640 : decode cL_law 640 = .ok (.aload_n 0, 1) := by decide +kernel
theorem dL_law_641 : decode cL_law 641 = .ok (.iload_n 3, 1) := by decide +kernel
theorem dL_law_642 : decode cL_law 642 = .ok (.iconst 1, 1) := by decide +kernel
theorem dL_law_643 : decode cL_law 643 = .ok (.iadd, 1) := by decide +kernel
theorem dL_law_644 : decode cL_law 644 = .ok (.iaload, 1) := by decide +kernel
theorem dL_law_645 : decode cL_law 645 = .ok (.aload_n 0, 1) := by decide +kernel
theorem dL_law_646 : decode cL_law 646 = .ok (.iload_n 3, 1) := by decide +kernel
theorem dL_law_647 : decode cL_law 647 = .ok (.iconst 2, 1) := by decide +kernel
theorem dL_law_648 : decode cL_law 648 = .ok (.iadd, 1) := by decide +kernel
theorem dL_law_649 : decode cL_law 649 = .ok (.iaload, 1) := by decide +kernel
theorem dL_law_650 : decode cL_law 650 = .ok (.invokevirtual 96, 3) := by decide +kernel
theorem dL_law_653 : decode cL_law 653 = .ok (.if_icmp .eq 463, 3) := by decide +kernel
theorem dL_law_656 : decode cL_law 656 = .ok (.iconst 0, 1) := by decide +kernel
theorem dL_law_657 : decode cL_law 657 = .ok (.ireturn, 1) := by decide +kernel
theorem dL_law_658 : decode cL_law 658 = .ok (.aload_n 1, 1) := by decide +kernel
theorem dL_law_659 : decode cL_law 659 = .ok (.aload_n 0, 1) := by decide +kernel
theorem dL_law_660 : decode cL_law 660 = .ok (.iload_n 3, 1) := by decide +kernel
theorem dL_law_661 : decode cL_law 661 = .ok (.iconst 1, 1) := by decide +kernel
theorem dL_law_662 : decode cL_law 662 = .ok (.iadd, 1) := by decide +kernel
theorem dL_law_663 : decode cL_law 663 = .ok (.iaload, 1) := by decide +kernel
theorem dL_law_664 : decode cL_law 664 = .ok (.invokevirtual 97, 3) := by decide +kernel
theorem dL_law_667 : decode cL_law 667 = .ok (.aload_n 2, 1) := by decide +kernel
theorem dL_law_668 : decode cL_law 668 = .ok (.aload_n 0, 1) := by decide +kernel
theorem dL_law_669 : decode cL_law 669 = .ok (.iload_n 3, 1) := by decide +kernel
theorem dL_law_670 : decode cL_law 670 = .ok (.iconst 1, 1) := by decide +kernel
theorem dL_law_671 : decode cL_law 671 = .ok (.iadd, 1) := by decide +kernel
theorem dL_law_672 : decode cL_law 672 = .ok (.iaload, 1) := by decide +kernel
theorem dL_law_673 : decode cL_law 673 = .ok (.invokevirtual 100, 3) := by decide +kernel
theorem dL_law_676 : decode cL_law 676 = .ok (.if_icmp .eq 440, 3) := by decide +kernel
theorem dL_law_679 : decode cL_law 679 = .ok (.iconst 0, 1) := by decide +kernel
theorem dL_law_680 : decode cL_law 680 = .ok (.ireturn, 1) := by decide +kernel
theorem dL_law_681 : decode cL_law 681 = .ok (.aload_n 1, 1) := by decide +kernel
theorem dL_law_682 : decode cL_law 682 = .ok (.aload_n 0, 1) := by decide +kernel
theorem dL_law_683 : decode cL_law 683 = .ok (.iload_n 3, 1) := by decide +kernel
theorem dL_law_684 : decode cL_law 684 = .ok (.iconst 1, 1) := by decide +kernel
theorem dL_law_685 : decode cL_law 685 = .ok (.iadd, 1) := by decide +kernel
theorem dL_law_686 : decode cL_law 686 = .ok (.iaload, 1) := by decide +kernel
theorem dL_law_687 : decode cL_law 687 = .ok (.aload_n 0, 1) := by decide +kernel
theorem dL_law_688 : decode cL_law 688 = .ok (.iload_n 3, 1) := by decide +kernel
theorem dL_law_689 : decode cL_law 689 = .ok (.iconst 2, 1) := by decide +kernel
theorem dL_law_690 : decode cL_law 690 = .ok (.iadd, 1) := by decide +kernel
theorem dL_law_691 : decode cL_law 691 = .ok (.iaload, 1) := by decide +kernel
theorem dL_law_692 : decode cL_law 692 = .ok (.invokevirtual 101, 3) := by decide +kernel
theorem dL_law_695 : decode cL_law 695 = .ok (.aload_n 2, 1) := by decide +kernel
theorem dL_law_696 : decode cL_law 696 = .ok (.aload_n 0, 1) := by decide +kernel
theorem dL_law_697 : decode cL_law 697 = .ok (.iload_n 3, 1) := by decide +kernel
theorem dL_law_698 : decode cL_law 698 = .ok (.iconst 1, 1) := by decide +kernel
theorem dL_law_699 : decode cL_law 699 = .ok (.iadd, 1) := by decide +kernel
theorem dL_law_700 : decode cL_law 700 = .ok (.iaload, 1) := by decide +kernel
theorem dL_law_701 : decode cL_law 701 = .ok (.aload_n 0, 1) := by decide +kernel
theorem dL_law_702 : decode cL_law 702 = .ok (.iload_n 3, 1) := by decide +kernel
theorem dL_law_703 : decode cL_law 703 = .ok (.iconst 2, 1) := by decide +kernel
theorem dL_law_704 : decode cL_law 704 = .ok (.iadd, 1) := by decide +kernel
theorem dL_law_705 : decode cL_law 705 = .ok (.iaload, 1) := by decide +kernel
theorem dL_law_706 : decode cL_law 706 = .ok (.invokevirtual 104, 3) := by decide +kernel
theorem dL_law_709 : decode cL_law 709 = .ok (.if_icmp .eq 407, 3) := by decide +kernel
theorem dL_law_712 : decode cL_law 712 = .ok (.iconst 0, 1) := by decide +kernel
theorem dL_law_713 : decode cL_law 713 = .ok (.ireturn, 1) := by decide +kernel
theorem dL_law_714 : decode cL_law 714 = .ok (.aload_n 1, 1) := by decide +kernel
theorem dL_law_715 : decode cL_law 715 = .ok (.aload_n 0, 1) := by decide +kernel
theorem dL_law_716 : decode cL_law 716 = .ok (.iload_n 3, 1) := by decide +kernel
theorem dL_law_717 : decode cL_law 717 = .ok (.iconst 1, 1) := by decide +kernel
theorem dL_law_718 : decode cL_law 718 = .ok (.iadd, 1) := by decide +kernel
theorem dL_law_719 : decode cL_law 719 = .ok (.iaload, 1) := by decide +kernel
theorem dL_law_720 : decode cL_law 720 = .ok (.invokevirtual 105, 3) := by decide +kernel
theorem dL_law_723 : decode cL_law 723 = .ok (.aload_n 2, 1) := by decide +kernel
theorem dL_law_724 : decode cL_law 724 = .ok (.aload_n 0, 1) := by decide +kernel
theorem dL_law_725 : decode cL_law 725 = .ok (.iload_n 3, 1) := by decide +kernel
theorem dL_law_726 : decode cL_law 726 = .ok (.iconst 1, 1) := by decide +kernel
theorem dL_law_727 : decode cL_law 727 = .ok (.iadd, 1) := by decide +kernel
theorem dL_law_728 : decode cL_law 728 = .ok (.iaload, 1) := by decide +kernel
theorem dL_law_729 : decode cL_law 729 = .ok (.invokevirtual 108, 3) := by decide +kernel
theorem dL_law_732 : decode cL_law 732 = .ok (.if_icmp .eq 384, 3) := by decide +kernel
theorem dL_law_735 : decode cL_law 735 = .ok (.iconst 0, 1) := by decide +kernel
theorem dL_law_736 : decode cL_law 736 = .ok (.ireturn, 1) := by decide +kernel
theorem dL_law_737 : decode cL_law 737 = .ok (.aload_n 1, 1) := by decide +kernel
theorem dL_law_738 : decode cL_law 738 = .ok (.aload_n 0, 1) := by decide +kernel
theorem dL_law_739 : decode cL_law 739 = .ok (.iload_n 3, 1) := by decide +kernel
theorem dL_law_740 : decode cL_law 740 = .ok (.iconst 1, 1) := by decide +kernel
theorem dL_law_741 : decode cL_law 741 = .ok (.iadd, 1) := by decide +kernel
theorem dL_law_742 : decode cL_law 742 = .ok (.iaload, 1) := by decide +kernel
theorem dL_law_743 : decode cL_law 743 = .ok (.aload_n 0, 1) := by decide +kernel
theorem dL_law_744 : decode cL_law 744 = .ok (.iload_n 3, 1) := by decide +kernel
theorem dL_law_745 : decode cL_law 745 = .ok (.iconst 2, 1) := by decide +kernel
theorem dL_law_746 : decode cL_law 746 = .ok (.iadd, 1) := by decide +kernel
theorem dL_law_747 : decode cL_law 747 = .ok (.iaload, 1) := by decide +kernel
theorem dL_law_748 : decode cL_law 748 = .ok (.invokevirtual 109, 3) := by decide +kernel
theorem dL_law_751 : decode cL_law 751 = .ok (.aload_n 2, 1) := by decide +kernel
theorem dL_law_752 : decode cL_law 752 = .ok (.aload_n 0, 1) := by decide +kernel
theorem dL_law_753 : decode cL_law 753 = .ok (.iload_n 3, 1) := by decide +kernel
theorem dL_law_754 : decode cL_law 754 = .ok (.iconst 1, 1) := by decide +kernel
theorem dL_law_755 : decode cL_law 755 = .ok (.iadd, 1) := by decide +kernel
theorem dL_law_756 : decode cL_law 756 = .ok (.iaload, 1) := by decide +kernel
theorem dL_law_757 : decode cL_law 757 = .ok (.aload_n 0, 1) := by decide +kernel
theorem dL_law_758 : decode cL_law 758 = .ok (.iload_n 3, 1) := by decide +kernel
theorem dL_law_759 : decode cL_law 759 = .ok (.iconst 2, 1) := by decide +kernel
theorem dL_law_760 : decode cL_law 760 = .ok (.iadd, 1) := by decide +kernel
theorem dL_law_761 : decode cL_law 761 = .ok (.iaload, 1) := by decide +kernel
theorem dL_law_762 : decode cL_law 762 = .ok (.invokevirtual 112, 3) := by decide +kernel
theorem dL_law_765 : decode cL_law 765 = .ok (.if_icmp .eq 351, 3) := by decide +kernel
theorem dL_law_768 : decode cL_law 768 = .ok (.iconst 0, 1) := by decide +kernel
theorem dL_law_769 : decode cL_law 769 = .ok (.ireturn, 1) := by decide +kernel
theorem dL_law_770 : decode cL_law 770 = .ok (.aload_n 1, 1) := by decide +kernel
theorem dL_law_771 : decode cL_law 771 = .ok (.aload_n 0, 1) := by decide +kernel
theorem dL_law_772 : decode cL_law 772 = .ok (.iload_n 3, 1) := by decide +kernel
theorem dL_law_773 : decode cL_law 773 = .ok (.iconst 1, 1) := by decide +kernel
theorem dL_law_774 : decode cL_law 774 = .ok (.iadd, 1) := by decide +kernel
theorem dL_law_775 : decode cL_law 775 = .ok (.iaload, 1) := by decide +kernel
theorem dL_law_776 : decode cL_law 776 = .ok (.invokevirtual 113, 3) := by decide +kernel
theorem dL_law_779 : decode cL_law 779 = .ok (.aload_n 2, 1) := by decide +kernel
theorem dL_law_780 : decode cL_law 780 = .ok (.aload_n 0, 1) := by decide +kernel
theorem dL_law_781 : decode cL_law 781 = .ok (.iload_n 3, 1) := by decide +kernel
theorem dL_law_782 : decode cL_law 782 = .ok (.iconst 1, 1) := by decide +kernel
theorem dL_law_783 : decode cL_law 783 = .ok (.iadd, 1) := by decide +kernel
theorem dL_law_784 : decode cL_law 784 = .ok (.iaload, 1) := by decide +kernel
theorem dL_law_785 : decode cL_law 785 = .ok (.invokevirtual 116, 3) := by decide +kernel
theorem dL_law_788 : decode cL_law 788 = .ok (.if_icmp .eq 328, 3) := by decide +kernel
theorem dL_law_791 : decode cL_law 791 = .ok (.iconst 0, 1) := by decide +kernel
theorem dL_law_792 : decode cL_law 792 = .ok (.ireturn, 1) := by decide +kernel
theorem dL_law_793 : decode cL_law 793 = .ok (.aload_n 1, 1) := by decide +kernel
theorem dL_law_794 : decode cL_law 794 = .ok (.invokevirtual 117, 3) := by decide +kernel
theorem dL_law_797 : decode cL_law 797 = .ok (.aload_n 2, 1) := by decide +kernel
theorem dL_law_798 : decode cL_law 798 = .ok (.invokevirtual 120, 3) := by decide +kernel
theorem dL_law_801 : decode cL_law 801 = .ok (.if_icmp .eq 315, 3) := by decide +kernel
theorem dL_law_804 : decode cL_law 804 = .ok (.iconst 0, 1) := by decide +kernel
theorem dL_law_805 : decode cL_law 805 = .ok (.ireturn, 1) := by decide +kernel
theorem dL_law_806 : decode cL_law 806 = .ok (.aload_n 1, 1) := by decide +kernel
theorem dL_law_807 : decode cL_law 807 = .ok (.aload_n 0, 1) := by decide +kernel
theorem dL_law_808 : decode cL_law 808 = .ok (.iload_n 3, 1) := by decide +kernel
theorem dL_law_809 : decode cL_law 809 = .ok (.iconst 1, 1) := by decide +kernel
theorem dL_law_810 : decode cL_law 810 = .ok (.iadd, 1) := by decide +kernel
theorem dL_law_811 : decode cL_law 811 = .ok (.iaload, 1) := by decide +kernel
theorem dL_law_812 : decode cL_law 812 = .ok (.aload_n 0, 1) := by decide +kernel
theorem dL_law_813 : decode cL_law 813 = .ok (.iload_n 3, 1) := by decide +kernel
theorem dL_law_814 : decode cL_law 814 = .ok (.iconst 2, 1) := by decide +kernel
theorem dL_law_815 : decode cL_law 815 = .ok (.iadd, 1) := by decide +kernel
theorem dL_law_816 : decode cL_law 816 = .ok (.iaload, 1) := by decide +kernel
theorem dL_law_817 : decode cL_law 817 = .ok (.aload_n 0, 1) := by decide +kernel
theorem dL_law_818 : decode cL_law 818 = .ok (.iload_n 3, 1) := by decide +kernel
theorem dL_law_819 : decode cL_law 819 = .ok (.iconst 3, 1) := by decide +kernel
theorem dL_law_820 : decode cL_law 820 = .ok (.iadd, 1) := by decide +kernel
theorem dL_law_821 : decode cL_law 821 = .ok (.iaload, 1) := by decide +kernel
theorem dL_law_822 : decode cL_law 822 = .ok (.invokevirtual 121, 3) := by decide +kernel
theorem dL_law_825 : decode cL_law 825 = .ok (.aload_n 2, 1) := by decide +kernel
theorem dL_law_826 : decode cL_law 826 = .ok (.aload_n 0, 1) := by decide +kernel
theorem dL_law_827 : decode cL_law 827 = .ok (.iload_n 3, 1) := by decide +kernel
theorem dL_law_828 : decode cL_law 828 = .ok (.iconst 1, 1) := by decide +kernel
theorem dL_law_829 : decode cL_law 829 = .ok (.iadd, 1) := by decide +kernel
theorem dL_law_830 : decode cL_law 830 = .ok (.iaload, 1) := by decide +kernel
theorem dL_law_831 : decode cL_law 831 = .ok (.aload_n 0, 1) := by decide +kernel
theorem dL_law_832 : decode cL_law 832 = .ok (.iload_n 3, 1) := by decide +kernel
theorem dL_law_833 : decode cL_law 833 = .ok (.iconst 2, 1) := by decide +kernel
theorem dL_law_834 : decode cL_law 834 = .ok (.iadd, 1) := by decide +kernel
theorem dL_law_835 : decode cL_law 835 = .ok (.iaload, 1) := by decide +kernel
theorem dL_law_836 : decode cL_law 836 = .ok (.aload_n 0, 1) := by decide +kernel
theorem dL_law_837 : decode cL_law 837 = .ok (.iload_n 3, 1) := by decide +kernel
theorem dL_law_838 : decode cL_law 838 = .ok (.iconst 3, 1) := by decide +kernel
theorem dL_law_839 : decode cL_law 839 = .ok (.iadd, 1) := by decide +kernel
theorem dL_law_840 : decode cL_law 840 = .ok (.iaload, 1) := by decide +kernel
theorem dL_law_841 : decode cL_law 841 = .ok (.invokevirtual 125, 3) := by decide +kernel
theorem dL_law_844 : decode cL_law 844 = .ok (.lcmp, 1) := by decide +kernel
theorem dL_law_845 : decode cL_law 845 = .ok (.ifCond .eq 271, 3) := by decide +kernel
theorem dL_law_848 : decode cL_law 848 = .ok (.iconst 0, 1) := by decide +kernel
theorem dL_law_849 : decode cL_law 849 = .ok (.ireturn, 1) := by decide +kernel
theorem dL_law_850 : decode cL_law 850 = .ok (.aload_n 1, 1) := by decide +kernel
theorem dL_law_851 : decode cL_law 851 = .ok (.aload_n 0, 1) := by decide +kernel
theorem dL_law_852 : decode cL_law 852 = .ok (.iload_n 3, 1) := by decide +kernel
theorem dL_law_853 : decode cL_law 853 = .ok (.iconst 1, 1) := by decide +kernel
theorem dL_law_854 : decode cL_law 854 = .ok (.iadd, 1) := by decide +kernel
theorem dL_law_855 : decode cL_law 855 = .ok (.iaload, 1) := by decide +kernel
theorem dL_law_856 : decode cL_law 856 = .ok (.aload_n 0, 1) := by decide +kernel
theorem dL_law_857 : decode cL_law 857 = .ok (.iload_n 3, 1) := by decide +kernel
theorem dL_law_858 : decode cL_law 858 = .ok (.iconst 2, 1) := by decide +kernel
theorem dL_law_859 : decode cL_law 859 = .ok (.iadd, 1) := by decide +kernel
theorem dL_law_860 : decode cL_law 860 = .ok (.iaload, 1) := by decide +kernel
theorem dL_law_861 : decode cL_law 861 = .ok (.aload_n 0, 1) := by decide +kernel
theorem dL_law_862 : decode cL_law 862 = .ok (.iload_n 3, 1) := by decide +kernel
theorem dL_law_863 : decode cL_law 863 = .ok (.iconst 3, 1) := by decide +kernel
theorem dL_law_864 : decode cL_law 864 = .ok (.iadd, 1) := by decide +kernel
theorem dL_law_865 : decode cL_law 865 = .ok (.iaload, 1) := by decide +kernel
theorem dL_law_866 : decode cL_law 866 = .ok (.aload_n 0, 1) := by decide +kernel
theorem dL_law_867 : decode cL_law 867 = .ok (.iload_n 3, 1) := by decide +kernel
theorem dL_law_868 : decode cL_law 868 = .ok (.iconst 4, 1) := by decide +kernel
theorem dL_law_869 : decode cL_law 869 = .ok (.iadd, 1) := by decide +kernel
theorem dL_law_870 : decode cL_law 870 = .ok (.iaload, 1) := by decide +kernel
theorem dL_law_871 : decode cL_law 871 = .ok (.aload_n 0, 1) := by decide +kernel
theorem dL_law_872 : decode cL_law 872 = .ok (.iload_n 3, 1) := by decide +kernel
theorem dL_law_873 : decode cL_law 873 = .ok (.iconst 5, 1) := by decide +kernel
theorem dL_law_874 : decode cL_law 874 = .ok (.iadd, 1) := by decide +kernel
theorem dL_law_875 : decode cL_law 875 = .ok (.iaload, 1) := by decide +kernel
theorem dL_law_876 : decode cL_law 876 = .ok (.invokevirtual 126, 3) := by decide +kernel
theorem dL_law_879 : decode cL_law 879 = .ok (.aload_n 2, 1) := by decide +kernel
theorem dL_law_880 : decode cL_law 880 = .ok (.aload_n 0, 1) := by decide +kernel
theorem dL_law_881 : decode cL_law 881 = .ok (.iload_n 3, 1) := by decide +kernel
theorem dL_law_882 : decode cL_law 882 = .ok (.iconst 1, 1) := by decide +kernel
theorem dL_law_883 : decode cL_law 883 = .ok (.iadd, 1) := by decide +kernel
theorem dL_law_884 : decode cL_law 884 = .ok (.iaload, 1) := by decide +kernel
theorem dL_law_885 : decode cL_law 885 = .ok (.aload_n 0, 1) := by decide +kernel
theorem dL_law_886 : decode cL_law 886 = .ok (.iload_n 3, 1) := by decide +kernel
theorem dL_law_887 : decode cL_law 887 = .ok (.iconst 2, 1) := by decide +kernel
theorem dL_law_888 : decode cL_law 888 = .ok (.iadd, 1) := by decide +kernel
theorem dL_law_889 : decode cL_law 889 = .ok (.iaload, 1) := by decide +kernel
theorem dL_law_890 : decode cL_law 890 = .ok (.aload_n 0, 1) := by decide +kernel
theorem dL_law_891 : decode cL_law 891 = .ok (.iload_n 3, 1) := by decide +kernel
theorem dL_law_892 : decode cL_law 892 = .ok (.iconst 3, 1) := by decide +kernel
theorem dL_law_893 : decode cL_law 893 = .ok (.iadd, 1) := by decide +kernel
theorem dL_law_894 : decode cL_law 894 = .ok (.iaload, 1) := by decide +kernel
theorem dL_law_895 : decode cL_law 895 = .ok (.aload_n 0, 1) := by decide +kernel
theorem dL_law_896 : decode cL_law 896 = .ok (.iload_n 3, 1) := by decide +kernel
theorem dL_law_897 : decode cL_law 897 = .ok (.iconst 4, 1) := by decide +kernel
theorem dL_law_898 : decode cL_law 898 = .ok (.iadd, 1) := by decide +kernel
theorem dL_law_899 : decode cL_law 899 = .ok (.iaload, 1) := by decide +kernel
theorem dL_law_900 : decode cL_law 900 = .ok (.aload_n 0, 1) := by decide +kernel
theorem dL_law_901 : decode cL_law 901 = .ok (.iload_n 3, 1) := by decide +kernel
theorem dL_law_902 : decode cL_law 902 = .ok (.iconst 5, 1) := by decide +kernel
theorem dL_law_903 : decode cL_law 903 = .ok (.iadd, 1) := by decide +kernel
theorem dL_law_904 : decode cL_law 904 = .ok (.iaload, 1) := by decide +kernel
theorem dL_law_905 : decode cL_law 905 = .ok (.invokevirtual 130, 3) := by decide +kernel
theorem dL_law_908 : decode cL_law 908 = .ok (.lcmp, 1) := by decide +kernel
theorem dL_law_909 : decode cL_law 909 = .ok (.ifCond .eq 207, 3) := by decide +kernel
theorem dL_law_912 : decode cL_law 912 = .ok (.iconst 0, 1) := by decide +kernel
theorem dL_law_913 : decode cL_law 913 = .ok (.ireturn, 1) := by decide +kernel
theorem dL_law_914 : decode cL_law 914 = .ok (.aload_n 1, 1) := by decide +kernel
theorem dL_law_915 : decode cL_law 915 = .ok (.aload_n 0, 1) := by decide +kernel
theorem dL_law_916 : decode cL_law 916 = .ok (.iload_n 3, 1) := by decide +kernel
theorem dL_law_917 : decode cL_law 917 = .ok (.iconst 1, 1) := by decide +kernel
theorem dL_law_918 : decode cL_law 918 = .ok (.iadd, 1) := by decide +kernel
theorem dL_law_919 : decode cL_law 919 = .ok (.iaload, 1) := by decide +kernel
theorem dL_law_920 : decode cL_law 920 = .ok (.aload_n 0, 1) := by decide +kernel
theorem dL_law_921 : decode cL_law 921 = .ok (.iload_n 3, 1) := by decide +kernel
theorem dL_law_922 : decode cL_law 922 = .ok (.iconst 2, 1) := by decide +kernel
theorem dL_law_923 : decode cL_law 923 = .ok (.iadd, 1) := by decide +kernel
theorem dL_law_924 : decode cL_law 924 = .ok (.iaload, 1) := by decide +kernel
theorem dL_law_925 : decode cL_law 925 = .ok (.aload_n 0, 1) := by decide +kernel
theorem dL_law_926 : decode cL_law 926 = .ok (.iload_n 3, 1) := by decide +kernel
theorem dL_law_927 : decode cL_law 927 = .ok (.iconst 3, 1) := by decide +kernel
theorem dL_law_928 : decode cL_law 928 = .ok (.iadd, 1) := by decide +kernel
theorem dL_law_929 : decode cL_law 929 = .ok (.iaload, 1) := by decide +kernel
theorem dL_law_930 : decode cL_law 930 = .ok (.aload_n 0, 1) := by decide +kernel
theorem dL_law_931 : decode cL_law 931 = .ok (.iload_n 3, 1) := by decide +kernel
theorem dL_law_932 : decode cL_law 932 = .ok (.iconst 4, 1) := by decide +kernel
theorem dL_law_933 : decode cL_law 933 = .ok (.iadd, 1) := by decide +kernel
theorem dL_law_934 : decode cL_law 934 = .ok (.iaload, 1) := by decide +kernel
theorem dL_law_935 : decode cL_law 935 = .ok (.invokevirtual 131, 3) := by decide +kernel
theorem dL_law_938 : decode cL_law 938 = .ok (.aload_n 2, 1) := by decide +kernel
theorem dL_law_939 : decode cL_law 939 = .ok (.aload_n 0, 1) := by decide +kernel
theorem dL_law_940 : decode cL_law 940 = .ok (.iload_n 3, 1) := by decide +kernel
theorem dL_law_941 : decode cL_law 941 = .ok (.iconst 1, 1) := by decide +kernel
theorem dL_law_942 : decode cL_law 942 = .ok (.iadd, 1) := by decide +kernel
theorem dL_law_943 : decode cL_law 943 = .ok (.iaload, 1) := by decide +kernel
theorem dL_law_944 : decode cL_law 944 = .ok (.aload_n 0, 1) := by decide +kernel
theorem dL_law_945 : decode cL_law 945 = .ok (.iload_n 3, 1) := by decide +kernel
theorem dL_law_946 : decode cL_law 946 = .ok (.iconst 2, 1) := by decide +kernel
theorem dL_law_947 : decode cL_law 947 = .ok (.iadd, 1) := by decide +kernel
theorem dL_law_948 : decode cL_law 948 = .ok (.iaload, 1) := by decide +kernel
theorem dL_law_949 : decode cL_law 949 = .ok (.aload_n 0, 1) := by decide +kernel
theorem dL_law_950 : decode cL_law 950 = .ok (.iload_n 3, 1) := by decide +kernel
theorem dL_law_951 : decode cL_law 951 = .ok (.iconst 3, 1) := by decide +kernel
theorem dL_law_952 : decode cL_law 952 = .ok (.iadd, 1) := by decide +kernel
theorem dL_law_953 : decode cL_law 953 = .ok (.iaload, 1) := by decide +kernel
theorem dL_law_954 : decode cL_law 954 = .ok (.aload_n 0, 1) := by decide +kernel
theorem dL_law_955 : decode cL_law 955 = .ok (.iload_n 3, 1) := by decide +kernel
theorem dL_law_956 : decode cL_law 956 = .ok (.iconst 4, 1) := by decide +kernel
theorem dL_law_957 : decode cL_law 957 = .ok (.iadd, 1) := by decide +kernel
theorem dL_law_958 : decode cL_law 958 = .ok (.iaload, 1) := by decide +kernel
theorem dL_law_959 : decode cL_law 959 = .ok (.invokevirtual 135, 3) := by decide +kernel
theorem dL_law_962 : decode cL_law 962 = .ok (.lcmp, 1) := by decide +kernel
theorem dL_law_963 : decode cL_law 963 = .ok (.ifCond .eq 153, 3) := by decide +kernel
theorem dL_law_966 : decode cL_law 966 = .ok (.iconst 0, 1) := by decide +kernel
theorem dL_law_967 : decode cL_law 967 = .ok (.ireturn, 1) := by decide +kernel
theorem dL_law_968 : decode cL_law 968 = .ok (.aload_n 1, 1) := by decide +kernel
theorem dL_law_969 : decode cL_law 969 = .ok (.aload_n 0, 1) := by decide +kernel
theorem dL_law_970 : decode cL_law 970 = .ok (.iload_n 3, 1) := by decide +kernel
theorem dL_law_971 : decode cL_law 971 = .ok (.iconst 1, 1) := by decide +kernel
theorem dL_law_972 : decode cL_law 972 = .ok (.iadd, 1) := by decide +kernel
theorem dL_law_973 : decode cL_law 973 = .ok (.iaload, 1) := by decide +kernel
theorem dL_law_974 : decode cL_law 974 = .ok (.invokevirtual 136, 3) := by decide +kernel
theorem dL_law_977 : decode cL_law 977 = .ok (.aload_n 2, 1) := by decide +kernel
theorem dL_law_978 : decode cL_law 978 = .ok (.aload_n 0, 1) := by decide +kernel
theorem dL_law_979 : decode cL_law 979 = .ok (.iload_n 3, 1) := by decide +kernel
theorem dL_law_980 : decode cL_law 980 = .ok (.iconst 1, 1) := by decide +kernel
theorem dL_law_981 : decode cL_law 981 = .ok (.iadd, 1) := by decide +kernel
theorem dL_law_982 : decode cL_law 982 = .ok (.iaload, 1) := by decide +kernel
theorem dL_law_983 : decode cL_law 983 = .ok (.invokevirtual 139, 3) := by decide +kernel
theorem dL_law_986 : decode cL_law 986 = .ok (.if_icmp .eq 130, 3) := by decide +kernel
theorem dL_law_989 : decode cL_law 989 = .ok (.iconst 0, 1) := by decide +kernel
theorem dL_law_990 : decode cL_law 990 = .ok (.ireturn, 1) := by decide +kernel
theorem dL_law_991 : decode cL_law 991 = .ok (.aload_n 1, 1) := by decide +kernel
theorem dL_law_992 : decode cL_law 992 = .ok (.aload_n 0, 1) := by decide +kernel
theorem dL_law_993 : decode cL_law 993 = .ok (.iload_n 3, 1) := by decide +kernel
theorem dL_law_994 : decode cL_law 994 = .ok (.iconst 1, 1) := by decide +kernel
theorem dL_law_995 : decode cL_law 995 = .ok (.iadd, 1) := by decide +kernel
theorem dL_law_996 : decode cL_law 996 = .ok (.iaload, 1) := by decide +kernel
theorem dL_law_997 : decode cL_law 997 = .ok (.aload_n 0, 1) := by decide +kernel
theorem dL_law_998 : decode cL_law 998 = .ok (.iload_n 3, 1) := by decide +kernel
theorem dL_law_999 : decode cL_law 999 = .ok (.iconst 2, 1) := by decide +kernel
theorem dL_law_1000 : decode cL_law 1000 = .ok (.iadd, 1) := by decide +kernel
theorem dL_law_1001 : decode cL_law 1001 = .ok (.iaload, 1) := by decide +kernel
theorem dL_law_1002 : decode cL_law 1002 = .ok (.aload_n 0, 1) := by decide +kernel
theorem dL_law_1003 : decode cL_law 1003 = .ok (.iload_n 3, 1) := by decide +kernel
theorem dL_law_1004 : decode cL_law 1004 = .ok (.iconst 3, 1) := by decide +kernel
theorem dL_law_1005 : decode cL_law 1005 = .ok (.iadd, 1) := by decide +kernel
theorem dL_law_1006 : decode cL_law 1006 = .ok (.iaload, 1) := by decide +kernel
theorem dL_law_1007 : decode cL_law 1007 = .ok (.invokevirtual 140, 3) := by decide +kernel
theorem dL_law_1010 : decode cL_law 1010 = .ok (.aload_n 2, 1) := by decide +kernel
theorem dL_law_1011 : decode cL_law 1011 = .ok (.aload_n 0, 1) := by decide +kernel
theorem dL_law_1012 : decode cL_law 1012 = .ok (.iload_n 3, 1) := by decide +kernel
theorem dL_law_1013 : decode cL_law 1013 = .ok (.iconst 1, 1) := by decide +kernel
theorem dL_law_1014 : decode cL_law 1014 = .ok (.iadd, 1) := by decide +kernel
theorem dL_law_1015 : decode cL_law 1015 = .ok (.iaload, 1) := by decide +kernel
theorem dL_law_1016 : decode cL_law 1016 = .ok (.aload_n 0, 1) := by decide +kernel
theorem dL_law_1017 : decode cL_law 1017 = .ok (.iload_n 3, 1) := by decide +kernel
theorem dL_law_1018 : decode cL_law 1018 = .ok (.iconst 2, 1) := by decide +kernel
theorem dL_law_1019 : decode cL_law 1019 = .ok (.iadd, 1) := by decide +kernel
theorem dL_law_1020 : decode cL_law 1020 = .ok (.iaload, 1) := by decide +kernel
theorem dL_law_1021 : decode cL_law 1021 = .ok (.aload_n 0, 1) := by decide +kernel
theorem dL_law_1022 : decode cL_law 1022 = .ok (.iload_n 3, 1) := by decide +kernel
theorem dL_law_1023 : decode cL_law 1023 = .ok (.iconst 3, 1) := by decide +kernel
theorem dL_law_1024 : decode cL_law 1024 = .ok (.iadd, 1) := by decide +kernel
theorem dL_law_1025 : decode cL_law 1025 = .ok (.iaload, 1) := by decide +kernel
theorem dL_law_1026 : decode cL_law 1026 = .ok (.invokevirtual 144, 3) := by decide +kernel
theorem dL_law_1029 : decode cL_law 1029 = .ok (.if_icmp .eq 87, 3) := by decide +kernel
theorem dL_law_1032 : decode cL_law 1032 = .ok (.iconst 0, 1) := by decide +kernel
theorem dL_law_1033 : decode cL_law 1033 = .ok (.ireturn, 1) := by decide +kernel
theorem dL_law_1034 : decode cL_law 1034 = .ok (.aload_n 1, 1) := by decide +kernel
theorem dL_law_1035 : decode cL_law 1035 = .ok (.aload_n 0, 1) := by decide +kernel
theorem dL_law_1036 : decode cL_law 1036 = .ok (.iload_n 3, 1) := by decide +kernel
theorem dL_law_1037 : decode cL_law 1037 = .ok (.iconst 1, 1) := by decide +kernel
theorem dL_law_1038 : decode cL_law 1038 = .ok (.iadd, 1) := by decide +kernel
theorem dL_law_1039 : decode cL_law 1039 = .ok (.iaload, 1) := by decide +kernel
theorem dL_law_1040 : decode cL_law 1040 = .ok (.aload_n 0, 1) := by decide +kernel
theorem dL_law_1041 : decode cL_law 1041 = .ok (.iload_n 3, 1) := by decide +kernel
theorem dL_law_1042 : decode cL_law 1042 = .ok (.iconst 2, 1) := by decide +kernel
theorem dL_law_1043 : decode cL_law 1043 = .ok (.iadd, 1) := by decide +kernel
theorem dL_law_1044 : decode cL_law 1044 = .ok (.iaload, 1) := by decide +kernel
theorem dL_law_1045 : decode cL_law 1045 = .ok (.invokevirtual 145, 3) := by decide +kernel
theorem dL_law_1048 : decode cL_law 1048 = .ok (.aload_n 2, 1) := by decide +kernel
theorem dL_law_1049 : decode cL_law 1049 = .ok (.aload_n 0, 1) := by decide +kernel
theorem dL_law_1050 : decode cL_law 1050 = .ok (.iload_n 3, 1) := by decide +kernel
theorem dL_law_1051 : decode cL_law 1051 = .ok (.iconst 1, 1) := by decide +kernel
theorem dL_law_1052 : decode cL_law 1052 = .ok (.iadd, 1) := by decide +kernel
theorem dL_law_1053 : decode cL_law 1053 = .ok (.iaload, 1) := by decide +kernel
theorem dL_law_1054 : decode cL_law 1054 = .ok (.aload_n 0, 1) := by decide +kernel
theorem dL_law_1055 : decode cL_law 1055 = .ok (.iload_n 3, 1) := by decide +kernel
theorem dL_law_1056 : decode cL_law 1056 = .ok (.iconst 2, 1) := by decide +kernel
theorem dL_law_1057 : decode cL_law 1057 = .ok (.iadd, 1) := by decide +kernel
theorem dL_law_1058 : decode cL_law 1058 = .ok (.iaload, 1) := by decide +kernel
theorem dL_law_1059 : decode cL_law 1059 = .ok (.invokevirtual 148, 3) := by decide +kernel
theorem dL_law_1062 : decode cL_law 1062 = .ok (.if_icmp .eq 54, 3) := by decide +kernel
theorem dL_law_1065 : decode cL_law 1065 = .ok (.iconst 0, 1) := by decide +kernel
theorem dL_law_1066 : decode cL_law 1066 = .ok (.ireturn, 1) := by decide +kernel
theorem dL_law_1067 : decode cL_law 1067 = .ok (.aload_n 1, 1) := by decide +kernel
theorem dL_law_1068 : decode cL_law 1068 = .ok (.aload_n 0, 1) := by decide +kernel
theorem dL_law_1069 : decode cL_law 1069 = .ok (.iload_n 3, 1) := by decide +kernel
theorem dL_law_1070 : decode cL_law 1070 = .ok (.iconst 1, 1) := by decide +kernel
theorem dL_law_1071 : decode cL_law 1071 = .ok (.iadd, 1) := by decide +kernel
theorem dL_law_1072 : decode cL_law 1072 = .ok (.iaload, 1) := by decide +kernel
theorem dL_law_1073 : decode cL_law 1073 = .ok (.invokevirtual 149, 3) := by decide +kernel
theorem dL_law_1076 : decode cL_law 1076 = .ok (.aload_n 2, 1) := by decide +kernel
theorem dL_law_1077 : decode cL_law 1077 = .ok (.aload_n 0, 1) := by decide +kernel
theorem dL_law_1078 : decode cL_law 1078 = .ok (.iload_n 3, 1) := by decide +kernel
theorem dL_law_1079 : decode cL_law 1079 = .ok (.iconst 1, 1) := by decide +kernel
theorem dL_law_1080 : decode cL_law 1080 = .ok (.iadd, 1) := by decide +kernel
theorem dL_law_1081 : decode cL_law 1081 = .ok (.iaload, 1) := by decide +kernel
theorem dL_law_1082 : decode cL_law 1082 = .ok (.invokevirtual 152, 3) := by decide +kernel
theorem dL_law_1085 : decode cL_law 1085 = .ok (.if_icmp .eq 31, 3) := by decide +kernel
theorem dL_law_1088 : decode cL_law 1088 = .ok (.iconst 0, 1) := by decide +kernel
theorem dL_law_1089 : decode cL_law 1089 = .ok (.ireturn, 1) := by decide +kernel
theorem dL_law_1090 : decode cL_law 1090 = .ok (.aload_n 1, 1) := by decide +kernel
theorem dL_law_1091 : decode cL_law 1091 = .ok (.invokevirtual 153, 3) := by decide +kernel
theorem dL_law_1094 : decode cL_law 1094 = .ok (.aload_n 2, 1) := by decide +kernel
theorem dL_law_1095 : decode cL_law 1095 = .ok (.invokevirtual 156, 3) := by decide +kernel
theorem dL_law_1098 : decode cL_law 1098 = .ok (.if_icmp .eq 18, 3) := by decide +kernel
theorem dL_law_1101 : decode cL_law 1101 = .ok (.iconst 0, 1) := by decide +kernel
theorem dL_law_1102 : decode cL_law 1102 = .ok (.ireturn, 1) := by decide +kernel
theorem dL_law_1103 : decode cL_law 1103 = .ok (.aload_n 1, 1) := by decide +kernel
theorem dL_law_1104 : decode cL_law 1104 = .ok (.invokevirtual 157, 3) := by decide +kernel
theorem dL_law_1107 : decode cL_law 1107 = .ok (.aload_n 2, 1) := by decide +kernel
theorem dL_law_1108 : decode cL_law 1108 = .ok (.invokevirtual 160, 3) := by decide +kernel
theorem dL_law_1111 : decode cL_law 1111 = .ok (.if_icmp .eq 5, 3) := by decide +kernel
theorem dL_law_1114 : decode cL_law 1114 = .ok (.iconst 0, 1) := by decide +kernel
theorem dL_law_1115 : decode cL_law 1115 = .ok (.ireturn, 1) := by decide +kernel
theorem dL_law_1116 : decode cL_law 1116 = .ok (.iinc 3 6, 3) := by decide +kernel
theorem dL_law_1119 : decode cL_law 1119 = .ok (.goto (-1101), 3) := by decide +kernel
theorem dL_law_1122 : decode cL_law 1122 = .ok (.iconst 1, 1) := by decide +kernel
theorem dL_law_1123 : decode cL_law 1123 = .ok (.ireturn, 1) := by decide +kernel
end
