/-! names: methods, field tables, the shape of the steady world; printed by a program of mine out of the Statement's tables and the listing -/
abbrev mz_ED_init : zM := (⟨"EpochDirectory", "<init>", "(I)V"⟩, prog_1_method_1_code, 3, none)
abbrev mz_ED_hash : zM := (⟨"EpochDirectory", "hash", "(III)I"⟩, prog_1_method_2_code, 4, some .int)
abbrev mz_ED_put : zM := (⟨"EpochDirectory", "put", "(II)I"⟩, prog_1_method_3_code, 3, some .int)
abbrev mz_ED_close : zM := (⟨"EpochDirectory", "close", "()I"⟩, prog_1_method_4_code, 2, some .int)
abbrev mz_ED_fuse : zM := (⟨"EpochDirectory", "fuse", "(I)Z"⟩, prog_1_method_5_code, 2, some .boolean)
abbrev mz_ED_restart : zM := (⟨"EpochDirectory", "restart", "()I"⟩, prog_1_method_6_code, 1, some .int)
abbrev mz_ED_root : zM := (⟨"EpochDirectory", "root", "(I)I"⟩, prog_1_method_7_code, 2, some .int)
abbrev mz_ED_head : zM := (⟨"EpochDirectory", "head", "(I)I"⟩, prog_1_method_8_code, 2, some .int)
abbrev mz_ED_block : zM := (⟨"EpochDirectory", "block", "(II)I"⟩, prog_1_method_9_code, 3, some .int)
abbrev mz_ED_size : zM := (⟨"EpochDirectory", "size", "(I)I"⟩, prog_1_method_10_code, 2, some .int)
abbrev mz_ED_prove : zM := (⟨"EpochDirectory", "prove", "(IIII)I"⟩, prog_1_method_11_code, 6, some .int)
abbrev mz_ED_word : zM := (⟨"EpochDirectory", "word", "(II)I"⟩, prog_1_method_12_code, 4, some .int)
abbrev mz_ED_poke : zM := (⟨"EpochDirectory", "poke", "(III)Z"⟩, prog_1_method_13_code, 5, some .boolean)
abbrev mz_ED_trim : zM := (⟨"EpochDirectory", "trim", "(II)Z"⟩, prog_1_method_14_code, 4, some .boolean)
abbrev mz_ED_check : zM := (⟨"EpochDirectory", "check", "(III)I"⟩, prog_1_method_15_code, 5, some .int)
abbrev mz_ED_included : zM := (⟨"EpochDirectory", "included", "(IIIII)Z"⟩, prog_1_method_16_code, 7, some .boolean)
abbrev mz_ED_consistent : zM := (⟨"EpochDirectory", "consistent", "(IIIII)Z"⟩, prog_1_method_17_code, 7, some .boolean)
abbrev mz_ED_follow : zM := (⟨"EpochDirectory", "follow", "(III)Z"⟩, prog_1_method_18_code, 5, some .boolean)
abbrev mz_ED_seen : zM := (⟨"EpochDirectory", "seen", "(I)I"⟩, prog_1_method_19_code, 2, some .int)
abbrev mz_ED_extract : zM := (⟨"EpochDirectory", "extract", "(IIII)Z"⟩, prog_1_method_20_code, 7, some .boolean)
abbrev mz_ED_clash : zM := (⟨"EpochDirectory", "clash", "(I)I"⟩, prog_1_method_21_code, 2, some .int)
abbrev mz_ED_isName : zM := (⟨"EpochDirectory", "isName", "(I)Z"⟩, prog_1_method_22_code, 1, some .boolean)
abbrev mz_ED_isKey : zM := (⟨"EpochDirectory", "isKey", "(I)Z"⟩, prog_1_method_23_code, 1, some .boolean)
abbrev mz_ED_indexOf : zM := (⟨"EpochDirectory", "indexOf", "(I)I"⟩, prog_1_method_24_code, 1, some .int)
abbrev mz_ED_bitOf : zM := (⟨"EpochDirectory", "bitOf", "(II)I"⟩, prog_1_method_25_code, 2, some .int)
abbrev mz_ED_bufferAt : zM := (⟨"EpochDirectory", "bufferAt", "(I)LEpochDirectory$Buffer;"⟩, prog_1_method_26_code, 2, some (.object "EpochDirectory$Buffer"))
abbrev mz_ED_writeNode : zM := (⟨"EpochDirectory", "writeNode", "(I)V"⟩, prog_1_method_27_code, 3, none)
abbrev mz_ED_closeEpoch : zM := (⟨"EpochDirectory", "closeEpoch", "()V"⟩, prog_1_method_28_code, 2, none)
abbrev mz_ED_burnFuse : zM := (⟨"EpochDirectory", "burnFuse", "()V"⟩, prog_1_method_29_code, 1, none)
abbrev mz_ED_proveLookup : zM := (⟨"EpochDirectory", "proveLookup", "(LEpochDirectory$Buffer;II)I"⟩, prog_1_method_30_code, 10, some .int)
abbrev mz_ED_proveHistory : zM := (⟨"EpochDirectory", "proveHistory", "(LEpochDirectory$Buffer;III)I"⟩, prog_1_method_31_code, 6, some .int)
abbrev mz_ED_takeOutFirstDifference : zM := (⟨"EpochDirectory", "takeOutFirstDifference", "()Z"⟩, prog_1_method_32_code, 3, some .boolean)
abbrev mz_Mo_init : zM := (⟨"EpochDirectoryModel", "<init>", "(I)V"⟩, prog_12_method_1_code, 2, none)
abbrev mz_Mo_hash : zM := (⟨"EpochDirectoryModel", "hash", "(III)I"⟩, prog_12_method_2_code, 7, some .int)
abbrev mz_Mo_isName : zM := (⟨"EpochDirectoryModel", "isName", "(I)Z"⟩, prog_12_method_3_code, 1, some .boolean)
abbrev mz_Mo_isKey : zM := (⟨"EpochDirectoryModel", "isKey", "(I)Z"⟩, prog_12_method_4_code, 1, some .boolean)
abbrev mz_Mo_indexOf : zM := (⟨"EpochDirectoryModel", "indexOf", "(I)I"⟩, prog_12_method_5_code, 1, some .int)
abbrev mz_Mo_bit : zM := (⟨"EpochDirectoryModel", "bit", "(II)I"⟩, prog_12_method_6_code, 2, some .int)
abbrev mz_Mo_grow : zM := (⟨"EpochDirectoryModel", "grow", "(I)V"⟩, prog_12_method_7_code, 5, none)
abbrev mz_Mo_isNode : zM := (⟨"EpochDirectoryModel", "isNode", "(I)Z"⟩, prog_12_method_8_code, 2, some .boolean)
abbrev mz_Mo_put : zM := (⟨"EpochDirectoryModel", "put", "(II)I"⟩, prog_12_method_9_code, 3, some .int)
abbrev mz_Mo_names : zM := (⟨"EpochDirectoryModel", "names", "()I"⟩, prog_12_method_10_code, 3, some .int)
abbrev mz_Mo_write : zM := (⟨"EpochDirectoryModel", "write", "(III)Z"⟩, prog_12_method_11_code, 4, some .boolean)
abbrev mz_Mo_touched : zM := (⟨"EpochDirectoryModel", "touched", "(II)Z"⟩, prog_12_method_12_code, 5, some .boolean)
abbrev mz_Mo_blockOf : zM := (⟨"EpochDirectoryModel", "blockOf", "(I)I"⟩, prog_12_method_13_code, 2, some .int)
abbrev mz_Mo_nodes : zM := (⟨"EpochDirectoryModel", "nodes", "(Z)I"⟩, prog_12_method_14_code, 7, some .int)
abbrev mz_Mo_writeNode : zM := (⟨"EpochDirectoryModel", "writeNode", "(I)V"⟩, prog_12_method_15_code, 5, none)
abbrev mz_Mo_forget : zM := (⟨"EpochDirectoryModel", "forget", "()V"⟩, prog_12_method_16_code, 2, none)
abbrev mz_Mo_close : zM := (⟨"EpochDirectoryModel", "close", "()I"⟩, prog_12_method_17_code, 6, some .int)
abbrev mz_Mo_fuse : zM := (⟨"EpochDirectoryModel", "fuse", "(I)Z"⟩, prog_12_method_18_code, 2, some .boolean)
abbrev mz_Mo_restart : zM := (⟨"EpochDirectoryModel", "restart", "()I"⟩, prog_12_method_19_code, 3, some .int)
abbrev mz_Mo_leafOf : zM := (⟨"EpochDirectoryModel", "leafOf", "(I)I"⟩, prog_12_method_20_code, 2, some .int)
abbrev mz_Mo_row : zM := (⟨"EpochDirectoryModel", "row", "(II)I"⟩, prog_12_method_21_code, 5, some .int)
abbrev mz_Mo_root : zM := (⟨"EpochDirectoryModel", "root", "(I)I"⟩, prog_12_method_22_code, 2, some .int)
abbrev mz_Mo_head : zM := (⟨"EpochDirectoryModel", "head", "(I)I"⟩, prog_12_method_23_code, 2, some .int)
abbrev mz_Mo_way : zM := (⟨"EpochDirectoryModel", "way", "(IIZ)V"⟩, prog_12_method_24_code, 8, none)
abbrev mz_Mo_add : zM := (⟨"EpochDirectoryModel", "add", "(II)V"⟩, prog_12_method_25_code, 3, none)
abbrev mz_Mo_lookup : zM := (⟨"EpochDirectoryModel", "lookup", "(III)I"⟩, prog_12_method_26_code, 9, some .int)
abbrev mz_Mo_prove : zM := (⟨"EpochDirectoryModel", "prove", "(IIII)I"⟩, prog_12_method_27_code, 9, some .int)
abbrev mz_Mo_word : zM := (⟨"EpochDirectoryModel", "word", "(II)I"⟩, prog_12_method_28_code, 3, some .int)
abbrev mz_Mo_poke : zM := (⟨"EpochDirectoryModel", "poke", "(III)Z"⟩, prog_12_method_29_code, 4, some .boolean)
abbrev mz_Mo_trim : zM := (⟨"EpochDirectoryModel", "trim", "(II)Z"⟩, prog_12_method_30_code, 3, some .boolean)
abbrev mz_Mo_formed : zM := (⟨"EpochDirectoryModel", "formed", "(II)Z"⟩, prog_12_method_31_code, 8, some .boolean)
abbrev mz_Mo_accepted : zM := (⟨"EpochDirectoryModel", "accepted", "(IIII)Z"⟩, prog_12_method_32_code, 10, some .boolean)
abbrev mz_Mo_says : zM := (⟨"EpochDirectoryModel", "says", "(II)I"⟩, prog_12_method_33_code, 3, some .int)
abbrev mz_Mo_check : zM := (⟨"EpochDirectoryModel", "check", "(III)I"⟩, prog_12_method_34_code, 4, some .int)
abbrev mz_Mo_inOrder : zM := (⟨"EpochDirectoryModel", "inOrder", "(III)Z"⟩, prog_12_method_35_code, 4, some .boolean)
abbrev mz_Mo_included : zM := (⟨"EpochDirectoryModel", "included", "(IIIII)Z"⟩, prog_12_method_36_code, 9, some .boolean)
abbrev mz_Mo_consistent : zM := (⟨"EpochDirectoryModel", "consistent", "(IIIII)Z"⟩, prog_12_method_37_code, 12, some .boolean)
abbrev mz_Mo_follow : zM := (⟨"EpochDirectoryModel", "follow", "(III)Z"⟩, prog_12_method_38_code, 5, some .boolean)
abbrev mz_Mo_seen : zM := (⟨"EpochDirectoryModel", "seen", "(I)I"⟩, prog_12_method_39_code, 2, some .int)
abbrev mz_Mo_extract : zM := (⟨"EpochDirectoryModel", "extract", "(IIII)Z"⟩, prog_12_method_40_code, 6, some .boolean)
abbrev mz_Mo_clash : zM := (⟨"EpochDirectoryModel", "clash", "(I)I"⟩, prog_12_method_41_code, 2, some .int)
abbrev mz_Mo_block : zM := (⟨"EpochDirectoryModel", "block", "(II)I"⟩, prog_12_method_42_code, 3, some .int)
abbrev mz_Mo_size : zM := (⟨"EpochDirectoryModel", "size", "(I)I"⟩, prog_12_method_43_code, 4, some .int)
abbrev mz_Bu_init : zM := (⟨"EpochDirectory$Buffer", "<init>", "()V"⟩, prog_2_method_1_code, 1, none)
abbrev mz_Bu_startWith : zM := (⟨"EpochDirectory$Buffer", "startWith", "(I)V"⟩, prog_2_method_2_code, 2, none)
abbrev mz_Bu_append : zM := (⟨"EpochDirectory$Buffer", "append", "(I)V"⟩, prog_2_method_3_code, 2, none)
abbrev mz_Bu_replaceOrAppend : zM := (⟨"EpochDirectory$Buffer", "replaceOrAppend", "(II)Z"⟩, prog_2_method_4_code, 3, some .boolean)
abbrev mz_Dg_init : zM := (⟨"EpochDirectory$Digester", "<init>", "(I)V"⟩, prog_3_method_1_code, 2, none)
abbrev mz_Dg_digest : zM := (⟨"EpochDirectory$Digester", "digest", "(III)I"⟩, prog_3_method_2_code, 6, some .int)
abbrev mz_Hi_init : zM := (⟨"EpochDirectory$History", "<init>", "(LEpochDirectory$Digester;)V"⟩, prog_4_method_1_code, 2, none)
abbrev mz_Hi_isClosed : zM := (⟨"EpochDirectory$History", "isClosed", "(I)Z"⟩, prog_4_method_2_code, 2, some .boolean)
abbrev mz_Hi_add : zM := (⟨"EpochDirectory$History", "add", "(II)V"⟩, prog_4_method_3_code, 3, none)
abbrev mz_Hi_rowDigest : zM := (⟨"EpochDirectory$History", "rowDigest", "(II)I"⟩, prog_4_method_4_code, 6, some .int)
abbrev mz_HC_init : zM := (⟨"EpochDirectory$HistoryCheck", "<init>", "(LEpochDirectory$Digester;)V"⟩, prog_5_method_1_code, 2, none)
abbrev mz_HC_acceptsInclusion : zM := (⟨"EpochDirectory$HistoryCheck", "acceptsInclusion", "(LEpochDirectory$Buffer;IIII)Z"⟩, prog_5_method_2_code, 8, some .boolean)
abbrev mz_HC_acceptsConsistency : zM := (⟨"EpochDirectory$HistoryCheck", "acceptsConsistency", "(LEpochDirectory$Buffer;IIII)Z"⟩, prog_5_method_3_code, 12, some .boolean)
abbrev mz_HC_areInOrder : zM := (⟨"EpochDirectory$HistoryCheck", "areInOrder", "(II)Z"⟩, prog_5_method_4_code, 2, some .boolean)
abbrev mz_HC_join : zM := (⟨"EpochDirectory$HistoryCheck", "join", "(III)I"⟩, prog_5_method_5_code, 4, some .int)
abbrev mz_LC_init : zM := (⟨"EpochDirectory$LookupCheck", "<init>", "(LEpochDirectory$Digester;)V"⟩, prog_6_method_1_code, 2, none)
abbrev mz_LC_accepts : zM := (⟨"EpochDirectory$LookupCheck", "accepts", "(LEpochDirectory$Buffer;II)Z"⟩, prog_6_method_2_code, 4, some .boolean)
abbrev mz_LC_differsFrom : zM := (⟨"EpochDirectory$LookupCheck", "differsFrom", "(LEpochDirectory$LookupCheck;I)Z"⟩, prog_6_method_3_code, 4, some .boolean)
abbrev mz_LC_copyInput : zM := (⟨"EpochDirectory$LookupCheck", "copyInput", "(I[II)V"⟩, prog_6_method_4_code, 5, none)
abbrev mz_LC_hasForm : zM := (⟨"EpochDirectory$LookupCheck", "hasForm", "(LEpochDirectory$Buffer;I)Z"⟩, prog_6_method_5_code, 4, some .boolean)
abbrev mz_LC_sharePrefix : zM := (⟨"EpochDirectory$LookupCheck", "sharePrefix", "(III)Z"⟩, prog_6_method_6_code, 3, some .boolean)
abbrev mz_LC_rootOf : zM := (⟨"EpochDirectory$LookupCheck", "rootOf", "(LEpochDirectory$Buffer;I)I"⟩, prog_6_method_7_code, 6, some .int)
abbrev mz_LC_keepInput : zM := (⟨"EpochDirectory$LookupCheck", "keepInput", "(IIII)I"⟩, prog_6_method_8_code, 5, some .int)
abbrev mz_NM_init : zM := (⟨"EpochDirectory$NameMap", "<init>", "()V"⟩, prog_7_method_1_code, 1, none)
abbrev mz_NM_give : zM := (⟨"EpochDirectory$NameMap", "give", "(II)V"⟩, prog_7_method_2_code, 3, none)
abbrev mz_NM_wasPut : zM := (⟨"EpochDirectory$NameMap", "wasPut", "(I)Z"⟩, prog_7_method_3_code, 2, some .boolean)
abbrev mz_NM_keyOf : zM := (⟨"EpochDirectory$NameMap", "keyOf", "(I)I"⟩, prog_7_method_4_code, 2, some .int)
abbrev mz_NM_keepOpen : zM := (⟨"EpochDirectory$NameMap", "keepOpen", "()V"⟩, prog_7_method_5_code, 2, none)
abbrev mz_NM_dropOpen : zM := (⟨"EpochDirectory$NameMap", "dropOpen", "()V"⟩, prog_7_method_6_code, 2, none)
abbrev mz_Pl_init : zM := (⟨"EpochDirectory$Plan", "<init>", "()V"⟩, prog_8_method_1_code, 1, none)
abbrev mz_Pl_draw : zM := (⟨"EpochDirectory$Plan", "draw", "(LEpochDirectory$NameMap;LEpochDirectory$Store;)V"⟩, prog_8_method_2_code, 6, none)
abbrev mz_Pl_isInner : zM := (⟨"EpochDirectory$Plan", "isInner", "(I)Z"⟩, prog_8_method_3_code, 2, some .boolean)
abbrev mz_Pl_isNode : zM := (⟨"EpochDirectory$Plan", "isNode", "(I)Z"⟩, prog_8_method_4_code, 2, some .boolean)
abbrev mz_Pl_countNames : zM := (⟨"EpochDirectory$Plan", "countNames", "(LEpochDirectory$NameMap;)V"⟩, prog_8_method_5_code, 5, none)
abbrev mz_Pl_settle : zM := (⟨"EpochDirectory$Plan", "settle", "(ILEpochDirectory$Store;)V"⟩, prog_8_method_6_code, 3, none)
abbrev mz_St_init : zM := (⟨"EpochDirectory$Store", "<init>", "(LEpochDirectory$Digester;)V"⟩, prog_9_method_1_code, 2, none)
abbrev mz_St_isBlock : zM := (⟨"EpochDirectory$Store", "isBlock", "(I)Z"⟩, prog_9_method_2_code, 2, some .boolean)
abbrev mz_St_isOfKind : zM := (⟨"EpochDirectory$Store", "isOfKind", "(II)Z"⟩, prog_9_method_3_code, 3, some .boolean)
abbrev mz_St_digestOf : zM := (⟨"EpochDirectory$Store", "digestOf", "(I)I"⟩, prog_9_method_4_code, 2, some .int)
abbrev mz_St_partOf : zM := (⟨"EpochDirectory$Store", "partOf", "(II)I"⟩, prog_9_method_5_code, 3, some .int)
abbrev mz_St_placeOfLeaf : zM := (⟨"EpochDirectory$Store", "placeOfLeaf", "(I)I"⟩, prog_9_method_6_code, 1, some .int)
abbrev mz_St_writeLeaf : zM := (⟨"EpochDirectory$Store", "writeLeaf", "(II)V"⟩, prog_9_method_7_code, 4, none)
abbrev mz_St_writeInner : zM := (⟨"EpochDirectory$Store", "writeInner", "(III)V"⟩, prog_9_method_8_code, 5, none)
abbrev mz_St_writeCheckpoint : zM := (⟨"EpochDirectory$Store", "writeCheckpoint", "(II)V"⟩, prog_9_method_9_code, 4, none)
abbrev mz_St_cutOff : zM := (⟨"EpochDirectory$Store", "cutOff", "()I"⟩, prog_9_method_10_code, 2, some .int)
abbrev mz_St_append : zM := (⟨"EpochDirectory$Store", "append", "(IIIII)V"⟩, prog_9_method_11_code, 6, none)
abbrev mz_Wy_init : zM := (⟨"EpochDirectory$Way", "<init>", "()V"⟩, prog_10_method_1_code, 1, none)
abbrev mz_Wy_go : zM := (⟨"EpochDirectory$Way", "go", "(IIZ)V"⟩, prog_10_method_2_code, 6, none)
abbrev mz_Wy_isOtherBefore : zM := (⟨"EpochDirectory$Way", "isOtherBefore", "(I)Z"⟩, prog_10_method_3_code, 2, some .boolean)
abbrev mz_Wy_greatestPowerBelow : zM := (⟨"EpochDirectory$Way", "greatestPowerBelow", "(I)I"⟩, prog_10_method_4_code, 2, some .int)
def zT_ED : u_T := fun k => match k with
  | 0 => ("EpochDirectory", "digester", "LEpochDirectory$Digester;", true)
  | 1 => ("EpochDirectory", "map", "LEpochDirectory$NameMap;", true)
  | 2 => ("EpochDirectory", "store", "LEpochDirectory$Store;", true)
  | 3 => ("EpochDirectory", "plan", "LEpochDirectory$Plan;", true)
  | 4 => ("EpochDirectory", "history", "LEpochDirectory$History;", true)
  | 5 => ("EpochDirectory", "way", "LEpochDirectory$Way;", true)
  | 6 => ("EpochDirectory", "buffers", "[LEpochDirectory$Buffer;", true)
  | 7 => ("EpochDirectory", "firstCheck", "LEpochDirectory$LookupCheck;", true)
  | 8 => ("EpochDirectory", "secondCheck", "LEpochDirectory$LookupCheck;", true)
  | 9 => ("EpochDirectory", "historyCheck", "LEpochDirectory$HistoryCheck;", true)
  | 10 => ("EpochDirectory", "clashing", "[I", true)
  | 11 => ("EpochDirectory", "stopped", "Z", false)
  | 12 => ("EpochDirectory", "fuseLeft", "I", false)
  | 13 => ("EpochDirectory", "wordsWritten", "I", false)
  | 14 => ("EpochDirectory", "blocksRead", "I", false)
  | 15 => ("EpochDirectory", "auditorHasSeen", "Z", false)
  | 16 => ("EpochDirectory", "seenEpoch", "I", false)
  | _ => ("EpochDirectory", "seenHead", "I", false)
def zt_ED : Nat → FieldType := fun k => match k with
  | 0 => (.object "EpochDirectory$Digester")
  | 1 => (.object "EpochDirectory$NameMap")
  | 2 => (.object "EpochDirectory$Store")
  | 3 => (.object "EpochDirectory$Plan")
  | 4 => (.object "EpochDirectory$History")
  | 5 => (.object "EpochDirectory$Way")
  | 6 => (.array (.object "EpochDirectory$Buffer"))
  | 7 => (.object "EpochDirectory$LookupCheck")
  | 8 => (.object "EpochDirectory$LookupCheck")
  | 9 => (.object "EpochDirectory$HistoryCheck")
  | 10 => (.array .int)
  | 11 => .boolean
  | 12 => .int
  | 13 => .int
  | 14 => .int
  | 15 => .boolean
  | 16 => .int
  | _ => .int
def zT_Dg : u_T := fun k => match k with
  | _ => ("EpochDirectory$Digester", "shift", "I", true)
def zt_Dg : Nat → FieldType := fun k => match k with
  | _ => .int
def zT_NM : u_T := fun k => match k with
  | 0 => ("EpochDirectory$NameMap", "closedKeys", "[I", true)
  | 1 => ("EpochDirectory$NameMap", "openKeys", "[I", true)
  | 2 => ("EpochDirectory$NameMap", "closedCount", "I", false)
  | _ => ("EpochDirectory$NameMap", "openCount", "I", false)
def zt_NM : Nat → FieldType := fun k => match k with
  | 0 => (.array .int)
  | 1 => (.array .int)
  | 2 => .int
  | _ => .int
def zT_St : u_T := fun k => match k with
  | 0 => ("EpochDirectory$Store", "digester", "LEpochDirectory$Digester;", true)
  | 1 => ("EpochDirectory$Store", "kinds", "[I", true)
  | 2 => ("EpochDirectory$Store", "firsts", "[I", true)
  | 3 => ("EpochDirectory$Store", "seconds", "[I", true)
  | 4 => ("EpochDirectory$Store", "digests", "[I", true)
  | 5 => ("EpochDirectory$Store", "places", "[I", true)
  | 6 => ("EpochDirectory$Store", "latest", "[I", true)
  | 7 => ("EpochDirectory$Store", "count", "I", false)
  | _ => ("EpochDirectory$Store", "checkpointed", "I", false)
def zt_St : Nat → FieldType := fun k => match k with
  | 0 => (.object "EpochDirectory$Digester")
  | 1 => (.array .int)
  | 2 => (.array .int)
  | 3 => (.array .int)
  | 4 => (.array .int)
  | 5 => (.array .int)
  | 6 => (.array .int)
  | 7 => .int
  | _ => .int
def zT_Pl : u_T := fun k => match k with
  | 0 => ("EpochDirectory$Plan", "nameCounts", "[I", true)
  | 1 => ("EpochDirectory$Plan", "someName", "[I", true)
  | 2 => ("EpochDirectory$Plan", "touched", "[Z", true)
  | 3 => ("EpochDirectory$Plan", "blocks", "[I", true)
  | 4 => ("EpochDirectory$Plan", "order", "[I", true)
  | _ => ("EpochDirectory$Plan", "steps", "I", false)
def zt_Pl : Nat → FieldType := fun k => match k with
  | 0 => (.array .int)
  | 1 => (.array .int)
  | 2 => (.array .boolean)
  | 3 => (.array .int)
  | 4 => (.array .int)
  | _ => .int
def zT_Hi : u_T := fun k => match k with
  | 0 => ("EpochDirectory$History", "digester", "LEpochDirectory$Digester;", true)
  | 1 => ("EpochDirectory$History", "tops", "[I", true)
  | 2 => ("EpochDirectory$History", "roots", "[I", true)
  | 3 => ("EpochDirectory$History", "leaves", "[I", true)
  | 4 => ("EpochDirectory$History", "heads", "[I", true)
  | 5 => ("EpochDirectory$History", "row", "[I", true)
  | _ => ("EpochDirectory$History", "count", "I", false)
def zt_Hi : Nat → FieldType := fun k => match k with
  | 0 => (.object "EpochDirectory$Digester")
  | 1 => (.array .int)
  | 2 => (.array .int)
  | 3 => (.array .int)
  | 4 => (.array .int)
  | 5 => (.array .int)
  | _ => .int
def zT_Wy : u_T := fun k => match k with
  | 0 => ("EpochDirectory$Way", "otherStarts", "[I", true)
  | 1 => ("EpochDirectory$Way", "otherEnds", "[I", true)
  | 2 => ("EpochDirectory$Way", "steps", "I", false)
  | 3 => ("EpochDirectory$Way", "start", "I", false)
  | _ => ("EpochDirectory$Way", "end", "I", false)
def zt_Wy : Nat → FieldType := fun k => match k with
  | 0 => (.array .int)
  | 1 => (.array .int)
  | 2 => .int
  | 3 => .int
  | _ => .int
def zT_Bu : u_T := fun k => match k with
  | 0 => ("EpochDirectory$Buffer", "words", "[I", true)
  | _ => ("EpochDirectory$Buffer", "count", "I", false)
def zt_Bu : Nat → FieldType := fun k => match k with
  | 0 => (.array .int)
  | _ => .int
def zT_LC : u_T := fun k => match k with
  | 0 => ("EpochDirectory$LookupCheck", "digester", "LEpochDirectory$Digester;", true)
  | 1 => ("EpochDirectory$LookupCheck", "inputs", "[I", true)
  | 2 => ("EpochDirectory$LookupCheck", "depth", "I", false)
  | _ => ("EpochDirectory$LookupCheck", "said", "I", false)
def zt_LC : Nat → FieldType := fun k => match k with
  | 0 => (.object "EpochDirectory$Digester")
  | 1 => (.array .int)
  | 2 => .int
  | _ => .int
def zT_HC : u_T := fun k => match k with
  | 0 => ("EpochDirectory$HistoryCheck", "digester", "LEpochDirectory$Digester;", true)
  | _ => ("EpochDirectory$HistoryCheck", "way", "LEpochDirectory$Way;", true)
def zt_HC : Nat → FieldType := fun k => match k with
  | 0 => (.object "EpochDirectory$Digester")
  | _ => (.object "EpochDirectory$Way")
def zT_Mo : u_T := fun k => match k with
  | 0 => ("EpochDirectoryModel", "width", "I", true)
  | 1 => ("EpochDirectoryModel", "keys", "[I", true)
  | 2 => ("EpochDirectoryModel", "map", "[I", true)
  | 3 => ("EpochDirectoryModel", "put", "[Z", true)
  | 4 => ("EpochDirectoryModel", "epochs", "I", false)
  | 5 => ("EpochDirectoryModel", "roots", "[I", true)
  | 6 => ("EpochDirectoryModel", "count", "[I", true)
  | 7 => ("EpochDirectoryModel", "digest", "[I", true)
  | 8 => ("EpochDirectoryModel", "only", "[I", true)
  | 9 => ("EpochDirectoryModel", "blocks", "I", false)
  | 10 => ("EpochDirectoryModel", "blockKind", "[I", true)
  | 11 => ("EpochDirectoryModel", "blockX", "[I", true)
  | 12 => ("EpochDirectoryModel", "blockY", "[I", true)
  | 13 => ("EpochDirectoryModel", "leafBlock", "[I", true)
  | 14 => ("EpochDirectoryModel", "innerBlock", "[I", true)
  | 15 => ("EpochDirectoryModel", "nextLeaf", "[I", true)
  | 16 => ("EpochDirectoryModel", "nextInner", "[I", true)
  | 17 => ("EpochDirectoryModel", "fuse", "I", false)
  | 18 => ("EpochDirectoryModel", "stopped", "Z", false)
  | 19 => ("EpochDirectoryModel", "words", "[I", true)
  | 20 => ("EpochDirectoryModel", "length", "[I", true)
  | 21 => ("EpochDirectoryModel", "wrote", "I", false)
  | 22 => ("EpochDirectoryModel", "read", "I", false)
  | 23 => ("EpochDirectoryModel", "partDigest", "[I", true)
  | 24 => ("EpochDirectoryModel", "partSize", "[I", true)
  | 25 => ("EpochDirectoryModel", "steps", "I", false)
  | 26 => ("EpochDirectoryModel", "second", "[Z", true)
  | 27 => ("EpochDirectoryModel", "otherFrom", "[I", true)
  | 28 => ("EpochDirectoryModel", "otherSize", "[I", true)
  | 29 => ("EpochDirectoryModel", "endFrom", "I", false)
  | 30 => ("EpochDirectoryModel", "endSize", "I", false)
  | 31 => ("EpochDirectoryModel", "seenEpoch", "I", false)
  | 32 => ("EpochDirectoryModel", "seenHead", "I", false)
  | 33 => ("EpochDirectoryModel", "inT", "[I", true)
  | 34 => ("EpochDirectoryModel", "inX", "[I", true)
  | 35 => ("EpochDirectoryModel", "inY", "[I", true)
  | _ => ("EpochDirectoryModel", "taken", "[I", true)
def zt_Mo : Nat → FieldType := fun k => match k with
  | 0 => .int
  | 1 => (.array .int)
  | 2 => (.array .int)
  | 3 => (.array .boolean)
  | 4 => .int
  | 5 => (.array .int)
  | 6 => (.array .int)
  | 7 => (.array .int)
  | 8 => (.array .int)
  | 9 => .int
  | 10 => (.array .int)
  | 11 => (.array .int)
  | 12 => (.array .int)
  | 13 => (.array .int)
  | 14 => (.array .int)
  | 15 => (.array .int)
  | 16 => (.array .int)
  | 17 => .int
  | 18 => .boolean
  | 19 => (.array .int)
  | 20 => (.array .int)
  | 21 => .int
  | 22 => .int
  | 23 => (.array .int)
  | 24 => (.array .int)
  | 25 => .int
  | 26 => (.array .boolean)
  | 27 => (.array .int)
  | 28 => (.array .int)
  | 29 => .int
  | 30 => .int
  | 31 => .int
  | 32 => .int
  | 33 => (.array .int)
  | 34 => (.array .int)
  | 35 => (.array .int)
  | _ => (.array .int)
def zWS : List Cond := lw_tbl.filter goodWord
abbrev zCl : List vw_C := [("EpochDirectory", zT_ED, 18), ("EpochDirectory$Digester", zT_Dg, 1), ("EpochDirectory$NameMap", zT_NM, 4), ("EpochDirectory$Store", zT_St, 9), ("EpochDirectory$Plan", zT_Pl, 6), ("EpochDirectory$History", zT_Hi, 7), ("EpochDirectory$Way", zT_Wy, 5), ("EpochDirectory$Buffer", zT_Bu, 2), ("EpochDirectory$LookupCheck", zT_LC, 4), ("EpochDirectory$HistoryCheck", zT_HC, 2), ("EpochDirectoryModel", zT_Mo, 37)]
abbrev zEn (D : va_G) (tt : ClassId × ClassId × ClassId) : zE := (zWS, zCl, D, [(tt.1, .int), (tt.2.1, .boolean), (tt.2.2, .object "EpochDirectory$Buffer")])
abbrev zshp : List zSh := [.inr (.inl (0, [some 1, some 2, some 5, some 12, some 18, some 24, some 27, some 36, some 38, some 40, some 44, none, none, none, none, none, none, none])),
  .inr (.inl (1, [none])),
  .inr (.inl (2, [some 3, some 4, none, none])),
  .inl (0, 64),
  .inl (0, 64),
  .inr (.inl (3, [some 1, some 6, some 7, some 8, some 9, some 10, some 11, none, none])),
  .inl (0, 300),
  .inl (0, 300),
  .inl (0, 300),
  .inl (0, 300),
  .inl (0, 300),
  .inl (0, 128),
  .inr (.inl (4, [some 13, some 14, some 15, some 16, some 17, none])),
  .inl (0, 128),
  .inl (0, 128),
  .inl (1, 128),
  .inl (0, 128),
  .inl (0, 128),
  .inr (.inl (5, [some 1, some 19, some 20, some 21, some 22, some 23, none])),
  .inl (0, 40),
  .inl (0, 40),
  .inl (0, 40),
  .inl (0, 40),
  .inl (0, 40),
  .inr (.inl (6, [some 25, some 26, none, none, none])),
  .inl (0, 6),
  .inl (0, 6),
  .inr (.inr [28, 30, 32, 34]),
  .inr (.inl (7, [some 29, none])),
  .inl (0, 30),
  .inr (.inl (7, [some 31, none])),
  .inl (0, 30),
  .inr (.inl (7, [some 33, none])),
  .inl (0, 30),
  .inr (.inl (7, [some 35, none])),
  .inl (0, 30),
  .inr (.inl (8, [some 1, some 37, none, none])),
  .inl (0, 21),
  .inr (.inl (8, [some 1, some 39, none, none])),
  .inl (0, 21),
  .inr (.inl (9, [some 1, some 41])),
  .inr (.inl (6, [some 42, some 43, none, none, none])),
  .inl (0, 6),
  .inl (0, 6),
  .inl (0, 6),
  .inr (.inl (10, [none, some 46, some 47, some 48, none, some 49, some 50, some 51, some 52, none, some 53, some 54, some 55, some 56, some 57, some 58, some 59, none, none, some 60, some 61, none, none, some 62, some 63, none, some 64, some 65, some 66, none, none, none, none, some 67, some 68, some 69, some 70])),
  .inl (0, 2560),
  .inl (0, 64),
  .inl (1, 64),
  .inl (0, 40),
  .inl (0, 128),
  .inl (0, 128),
  .inl (0, 128),
  .inl (0, 300),
  .inl (0, 300),
  .inl (0, 300),
  .inl (0, 64),
  .inl (0, 128),
  .inl (0, 64),
  .inl (0, 128),
  .inl (0, 120),
  .inl (0, 4),
  .inl (0, 8),
  .inl (0, 8),
  .inl (1, 8),
  .inl (0, 8),
  .inl (0, 8),
  .inl (0, 14),
  .inl (0, 14),
  .inl (0, 14),
  .inl (0, 6)]
def zis_Bu (p : Nat) : Bool := decide (p = 28) || decide (p = 30) || decide (p = 32) || decide (p = 34)
theorem zis_Bu_or {p : Nat} (h : zis_Bu p = true) : p = 28 ∨ p = 30 ∨ p = 32 ∨ p = 34 := by
  simpa [zis_Bu, or_assoc] using h
theorem zis_Bu_o {p : Nat} (h : zis_Bu p = true) : zshp[p]? = some (.inr (.inl (7, [some (p + 1), none]))) := by
  rcases zis_Bu_or h with rfl | rfl | rfl | rfl <;> rfl
theorem zis_Bu_1 {p : Nat} (h : zis_Bu p = true) : zshp[p + 1]? = some (.inl (0, 30)) := by
  rcases zis_Bu_or h with rfl | rfl | rfl | rfl <;> rfl
def zis_LC (p : Nat) : Bool := decide (p = 36) || decide (p = 38)
theorem zis_LC_or {p : Nat} (h : zis_LC p = true) : p = 36 ∨ p = 38 := by
  simpa [zis_LC, or_assoc] using h
theorem zis_LC_o {p : Nat} (h : zis_LC p = true) : zshp[p]? = some (.inr (.inl (8, [some 1, some (p + 1), none, none]))) := by
  rcases zis_LC_or h with rfl | rfl <;> rfl
theorem zis_LC_1 {p : Nat} (h : zis_LC p = true) : zshp[p + 1]? = some (.inl (0, 21)) := by
  rcases zis_LC_or h with rfl | rfl <;> rfl
def zis_Wy (p : Nat) : Bool := decide (p = 24) || decide (p = 41)
theorem zis_Wy_or {p : Nat} (h : zis_Wy p = true) : p = 24 ∨ p = 41 := by
  simpa [zis_Wy, or_assoc] using h
theorem zis_Wy_o {p : Nat} (h : zis_Wy p = true) : zshp[p]? = some (.inr (.inl (6, [some (p + 1), some (p + 2), none, none, none]))) := by
  rcases zis_Wy_or h with rfl | rfl <;> rfl
theorem zis_Wy_1 {p : Nat} (h : zis_Wy p = true) : zshp[p + 1]? = some (.inl (0, 6)) := by
  rcases zis_Wy_or h with rfl | rfl <;> rfl
theorem zis_Wy_2 {p : Nat} (h : zis_Wy p = true) : zshp[p + 2]? = some (.inl (0, 6)) := by
  rcases zis_Wy_or h with rfl | rfl <;> rfl
theorem zbufs {i : Int32} (h : zin i 4 = true) : ([28, 30, 32, 34] : List Nat)[i.toNatClampNeg]? = some (28 + 2 * i.toNatClampNeg) := by
  unfold zin at h
  rw [Bool.and_eq_true, decide_eq_true_eq, decide_eq_true_eq] at h
  rcases (show i.toNatClampNeg = 0 ∨ i.toNatClampNeg = 1 ∨ i.toNatClampNeg = 2 ∨ i.toNatClampNeg = 3 by omega) with q | q | q | q <;> rw [q] <;> rfl
theorem zci_m1 : Int32.ofInt (-1) = -1 := by decide +kernel
theorem zci_0 : Int32.ofInt 0 = 0 := by decide +kernel
theorem zci_1 : Int32.ofInt 1 = 1 := by decide +kernel
theorem zci_2 : Int32.ofInt 2 = 2 := by decide +kernel
theorem zci_3 : Int32.ofInt 3 = 3 := by decide +kernel
theorem zci_4 : Int32.ofInt 4 = 4 := by decide +kernel
theorem zci_5 : Int32.ofInt 5 = 5 := by decide +kernel
theorem zcb_m9 : (Int8.ofInt (-9)).toInt32 = -9 := by decide +kernel
theorem zcb_m2 : (Int8.ofInt (-2)).toInt32 = -2 := by decide +kernel
theorem zcb_6 : (Int8.ofInt 6).toInt32 = 6 := by decide +kernel
theorem zcb_7 : (Int8.ofInt 7).toInt32 = 7 := by decide +kernel
theorem zcb_8 : (Int8.ofInt 8).toInt32 = 8 := by decide +kernel
theorem zcb_9 : (Int8.ofInt 9).toInt32 = 9 := by decide +kernel
theorem zcb_11 : (Int8.ofInt 11).toInt32 = 11 := by decide +kernel
theorem zcb_14 : (Int8.ofInt 14).toInt32 = 14 := by decide +kernel
theorem zcb_16 : (Int8.ofInt 16).toInt32 = 16 := by decide +kernel
theorem zcb_21 : (Int8.ofInt 21).toInt32 = 21 := by decide +kernel
theorem zcb_29 : (Int8.ofInt 29).toInt32 = 29 := by decide +kernel
theorem zcb_30 : (Int8.ofInt 30).toInt32 = 30 := by decide +kernel
theorem zcb_31 : (Int8.ofInt 31).toInt32 = 31 := by decide +kernel
theorem zcb_32 : (Int8.ofInt 32).toInt32 = 32 := by decide +kernel
theorem zcb_37 : (Int8.ofInt 37).toInt32 = 37 := by decide +kernel
theorem zcb_40 : (Int8.ofInt 40).toInt32 = 40 := by decide +kernel
theorem zcb_63 : (Int8.ofInt 63).toInt32 = 63 := by decide +kernel
theorem zcb_64 : (Int8.ofInt 64).toInt32 = 64 := by decide +kernel
theorem zcb_100 : (Int8.ofInt 100).toInt32 = 100 := by decide +kernel
theorem zcb_120 : (Int8.ofInt 120).toInt32 = 120 := by decide +kernel
theorem zcs_128 : (Int16.ofInt 128).toInt32 = 128 := by decide +kernel
theorem zcs_300 : (Int16.ofInt 300).toInt32 = 300 := by decide +kernel
theorem zcs_2560 : (Int16.ofInt 2560).toInt32 = 2560 := by decide +kernel
