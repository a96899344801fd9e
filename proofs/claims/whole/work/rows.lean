section
-- ===== PART A: goes FIRST, ahead of the names: the tables' words, and 'selects' of the private methods out of them =====
/-- a private method of a class that the tables say can be made, by its rows of tables_1 -/
def lw_okq (q : MethodName × Nat) : Prop := (q.1.cls ≠ "java/lang/invoke/MethodHandle" ∧ q.1.cls ≠ "java/lang/invoke/VarHandle") ∧ Cond.instantiable q.1.cls q.2 ∈ tables_1 ∧ Cond.privateMethod q.1 ∈ tables_1 ∧ Cond.instanceMethod q.1 ∈ tables_1
theorem lw_p0 : lw_okq (⟨"MailTree$Tree", "readFields", "(LMailTree$Entity;)I"⟩, 8) := ⟨⟨by decide +kernel, by decide +kernel⟩, List.mem_of_getElem? (i := 54) (by decide +kernel), List.mem_of_getElem? (i := 328) (by decide +kernel), List.mem_of_getElem? (i := 329) (by decide +kernel)⟩
theorem lw_p1 : lw_okq (⟨"MailTree$Tree", "goOnWithField", "(LMailTree$Entity;II)Z"⟩, 8) := ⟨⟨by decide +kernel, by decide +kernel⟩, List.mem_of_getElem? (i := 54) (by decide +kernel), List.mem_of_getElem? (i := 344) (by decide +kernel), List.mem_of_getElem? (i := 345) (by decide +kernel)⟩
theorem lw_p2 : lw_okq (⟨"MailTree$Tree", "beginField", "(LMailTree$Entity;II)Z"⟩, 8) := ⟨⟨by decide +kernel, by decide +kernel⟩, List.mem_of_getElem? (i := 54) (by decide +kernel), List.mem_of_getElem? (i := 348) (by decide +kernel), List.mem_of_getElem? (i := 349) (by decide +kernel)⟩
theorem lw_p3 : lw_okq (⟨"MailTree$Tree", "trimValues", "(LMailTree$Entity;)V"⟩, 8) := ⟨⟨by decide +kernel, by decide +kernel⟩, List.mem_of_getElem? (i := 54) (by decide +kernel), List.mem_of_getElem? (i := 355) (by decide +kernel), List.mem_of_getElem? (i := 356) (by decide +kernel)⟩
theorem lw_p4 : lw_okq (⟨"MailTree$Tree", "readEncoding", "(LMailTree$Entity;)V"⟩, 8) := ⟨⟨by decide +kernel, by decide +kernel⟩, List.mem_of_getElem? (i := 54) (by decide +kernel), List.mem_of_getElem? (i := 364) (by decide +kernel), List.mem_of_getElem? (i := 365) (by decide +kernel)⟩
theorem lw_p5 : lw_okq (⟨"MailTree$Tree", "fieldNamed", "(LMailTree$Entity;Ljava/lang/String;)LMailTree$Field;"⟩, 8) := ⟨⟨by decide +kernel, by decide +kernel⟩, List.mem_of_getElem? (i := 54) (by decide +kernel), List.mem_of_getElem? (i := 369) (by decide +kernel), List.mem_of_getElem? (i := 370) (by decide +kernel)⟩
theorem lw_p6 : lw_okq (⟨"MailTree$Tree", "readKind", "(LMailTree$Entity;)Z"⟩, 8) := ⟨⟨by decide +kernel, by decide +kernel⟩, List.mem_of_getElem? (i := 54) (by decide +kernel), List.mem_of_getElem? (i := 514) (by decide +kernel), List.mem_of_getElem? (i := 515) (by decide +kernel)⟩
theorem lw_p7 : lw_okq (⟨"MailTree$Tree", "readBoundary", "(LMailTree$Entity;)V"⟩, 8) := ⟨⟨by decide +kernel, by decide +kernel⟩, List.mem_of_getElem? (i := 54) (by decide +kernel), List.mem_of_getElem? (i := 526) (by decide +kernel), List.mem_of_getElem? (i := 527) (by decide +kernel)⟩
theorem lw_p8 : lw_okq (⟨"MailTree$Decoder", "decodeBase64", "(II)V"⟩, 2) := ⟨⟨by decide +kernel, by decide +kernel⟩, List.mem_of_getElem? (i := 90) (by decide +kernel), List.mem_of_getElem? (i := 551) (by decide +kernel), List.mem_of_getElem? (i := 552) (by decide +kernel)⟩
theorem lw_p9 : lw_okq (⟨"MailTree$Decoder", "decodeQuotedPrintable", "(II)V"⟩, 2) := ⟨⟨by decide +kernel, by decide +kernel⟩, List.mem_of_getElem? (i := 90) (by decide +kernel), List.mem_of_getElem? (i := 562) (by decide +kernel), List.mem_of_getElem? (i := 563) (by decide +kernel)⟩
theorem lw_p10 : lw_okq (⟨"MailTree$Decoder", "decodeEqualSign", "(II)I"⟩, 2) := ⟨⟨by decide +kernel, by decide +kernel⟩, List.mem_of_getElem? (i := 90) (by decide +kernel), List.mem_of_getElem? (i := 566) (by decide +kernel), List.mem_of_getElem? (i := 567) (by decide +kernel)⟩
theorem lw_p11 : lw_okq (⟨"MailTree$Decoder", "decodeBlanks", "(II)I"⟩, 2) := ⟨⟨by decide +kernel, by decide +kernel⟩, List.mem_of_getElem? (i := 90) (by decide +kernel), List.mem_of_getElem? (i := 580) (by decide +kernel), List.mem_of_getElem? (i := 581) (by decide +kernel)⟩
theorem lw_p12 : lw_okq (⟨"MailTree$Tree", "readParts", "(LMailTree$Entity;I)V"⟩, 8) := ⟨⟨by decide +kernel, by decide +kernel⟩, List.mem_of_getElem? (i := 54) (by decide +kernel), List.mem_of_getElem? (i := 586) (by decide +kernel), List.mem_of_getElem? (i := 587) (by decide +kernel)⟩
theorem lw_p13 : lw_okq (⟨"MailTree$Tree", "markOf", "(LMailTree$Entity;II)I"⟩, 8) := ⟨⟨by decide +kernel, by decide +kernel⟩, List.mem_of_getElem? (i := 54) (by decide +kernel), List.mem_of_getElem? (i := 590) (by decide +kernel), List.mem_of_getElem? (i := 591) (by decide +kernel)⟩
theorem lw_p14 : lw_okq (⟨"java/lang/Throwable", "fillInStackTrace", "(I)Ljava/lang/Throwable;"⟩, 6) := ⟨⟨by decide +kernel, by decide +kernel⟩, List.mem_of_getElem? (i := 669) (by decide +kernel), List.mem_of_getElem? (i := 667) (by decide +kernel), List.mem_of_getElem? (i := 668) (by decide +kernel)⟩
theorem lw_p15 : lw_okq (⟨"MailTree$Printer", "printFields", "(LMailTree$Entity;)V"⟩, 2) := ⟨⟨by decide +kernel, by decide +kernel⟩, List.mem_of_getElem? (i := 257) (by decide +kernel), List.mem_of_getElem? (i := 785) (by decide +kernel), List.mem_of_getElem? (i := 786) (by decide +kernel)⟩
def lw_privs_1 : List (MethodName × Nat) := [(⟨"MailTree$Tree", "readFields", "(LMailTree$Entity;)I"⟩, 8), (⟨"MailTree$Tree", "goOnWithField", "(LMailTree$Entity;II)Z"⟩, 8), (⟨"MailTree$Tree", "beginField", "(LMailTree$Entity;II)Z"⟩, 8), (⟨"MailTree$Tree", "trimValues", "(LMailTree$Entity;)V"⟩, 8), (⟨"MailTree$Tree", "readEncoding", "(LMailTree$Entity;)V"⟩, 8), (⟨"MailTree$Tree", "fieldNamed", "(LMailTree$Entity;Ljava/lang/String;)LMailTree$Field;"⟩, 8), (⟨"MailTree$Tree", "readKind", "(LMailTree$Entity;)Z"⟩, 8), (⟨"MailTree$Tree", "readBoundary", "(LMailTree$Entity;)V"⟩, 8), (⟨"MailTree$Decoder", "decodeBase64", "(II)V"⟩, 2), (⟨"MailTree$Decoder", "decodeQuotedPrintable", "(II)V"⟩, 2), (⟨"MailTree$Decoder", "decodeEqualSign", "(II)I"⟩, 2), (⟨"MailTree$Decoder", "decodeBlanks", "(II)I"⟩, 2), (⟨"MailTree$Tree", "readParts", "(LMailTree$Entity;I)V"⟩, 8), (⟨"MailTree$Tree", "markOf", "(LMailTree$Entity;II)I"⟩, 8), (⟨"java/lang/Throwable", "fillInStackTrace", "(I)Ljava/lang/Throwable;"⟩, 6), (⟨"MailTree$Printer", "printFields", "(LMailTree$Entity;)V"⟩, 2)]
theorem lw_r1 : ∀ q ∈ lw_privs_1, lw_okq q := List.forall_mem_cons.mpr ⟨lw_p0, List.forall_mem_cons.mpr ⟨lw_p1, List.forall_mem_cons.mpr ⟨lw_p2, List.forall_mem_cons.mpr ⟨lw_p3, List.forall_mem_cons.mpr ⟨lw_p4, List.forall_mem_cons.mpr ⟨lw_p5, List.forall_mem_cons.mpr ⟨lw_p6, List.forall_mem_cons.mpr ⟨lw_p7, List.forall_mem_cons.mpr ⟨lw_p8, List.forall_mem_cons.mpr ⟨lw_p9, List.forall_mem_cons.mpr ⟨lw_p10, List.forall_mem_cons.mpr ⟨lw_p11, List.forall_mem_cons.mpr ⟨lw_p12, List.forall_mem_cons.mpr ⟨lw_p13, List.forall_mem_cons.mpr ⟨lw_p14, List.forall_mem_cons.mpr ⟨lw_p15, fun _ h => absurd h List.not_mem_nil⟩⟩⟩⟩⟩⟩⟩⟩⟩⟩⟩⟩⟩⟩⟩⟩
theorem lw_p16 : lw_okq (⟨"MailTree$Printer", "printContent", "(LMailTree$Entity;)V"⟩, 2) := ⟨⟨by decide +kernel, by decide +kernel⟩, List.mem_of_getElem? (i := 257) (by decide +kernel), List.mem_of_getElem? (i := 796) (by decide +kernel), List.mem_of_getElem? (i := 797) (by decide +kernel)⟩
theorem lw_p17 : lw_okq (⟨"MailTree$Printer", "printBase64", "(II)V"⟩, 2) := ⟨⟨by decide +kernel, by decide +kernel⟩, List.mem_of_getElem? (i := 257) (by decide +kernel), List.mem_of_getElem? (i := 800) (by decide +kernel), List.mem_of_getElem? (i := 801) (by decide +kernel)⟩
theorem lw_p18 : lw_okq (⟨"MailTree$Printer", "printThreeBytes", "(II)V"⟩, 2) := ⟨⟨by decide +kernel, by decide +kernel⟩, List.mem_of_getElem? (i := 257) (by decide +kernel), List.mem_of_getElem? (i := 805) (by decide +kernel), List.mem_of_getElem? (i := 806) (by decide +kernel)⟩
theorem lw_p19 : lw_okq (⟨"MailTree$Printer", "printQuotedPrintable", "(II)V"⟩, 2) := ⟨⟨by decide +kernel, by decide +kernel⟩, List.mem_of_getElem? (i := 257) (by decide +kernel), List.mem_of_getElem? (i := 813) (by decide +kernel), List.mem_of_getElem? (i := 814) (by decide +kernel)⟩
theorem lw_p20 : lw_okq (⟨"MailTree$Printer", "isPlain", "(II)Z"⟩, 2) := ⟨⟨by decide +kernel, by decide +kernel⟩, List.mem_of_getElem? (i := 257) (by decide +kernel), List.mem_of_getElem? (i := 818) (by decide +kernel), List.mem_of_getElem? (i := 819) (by decide +kernel)⟩
theorem lw_p21 : lw_okq (⟨"MailTree$Printer", "printEscaped", "(I)V"⟩, 2) := ⟨⟨by decide +kernel, by decide +kernel⟩, List.mem_of_getElem? (i := 257) (by decide +kernel), List.mem_of_getElem? (i := 823) (by decide +kernel), List.mem_of_getElem? (i := 824) (by decide +kernel)⟩
theorem lw_p22 : lw_okq (⟨"MailTree$Printer", "printMark", "(LMailTree$Entity;Ljava/lang/String;)V"⟩, 2) := ⟨⟨by decide +kernel, by decide +kernel⟩, List.mem_of_getElem? (i := 257) (by decide +kernel), List.mem_of_getElem? (i := 828) (by decide +kernel), List.mem_of_getElem? (i := 829) (by decide +kernel)⟩
theorem lw_p23 : lw_okq (⟨"MailTreeModel", "lay", "(IIII)V"⟩, 25) := ⟨⟨by decide +kernel, by decide +kernel⟩, List.mem_of_getElem? (i := 850) (by decide +kernel), List.mem_of_getElem? (i := 949) (by decide +kernel), List.mem_of_getElem? (i := 950) (by decide +kernel)⟩
theorem lw_p24 : lw_okq (⟨"MailTreeModel", "takeEntity", "()V"⟩, 25) := ⟨⟨by decide +kernel, by decide +kernel⟩, List.mem_of_getElem? (i := 850) (by decide +kernel), List.mem_of_getElem? (i := 953) (by decide +kernel), List.mem_of_getElem? (i := 954) (by decide +kernel)⟩
theorem lw_p25 : lw_okq (⟨"MailTreeModel", "set", "(III)V"⟩, 25) := ⟨⟨by decide +kernel, by decide +kernel⟩, List.mem_of_getElem? (i := 850) (by decide +kernel), List.mem_of_getElem? (i := 957) (by decide +kernel), List.mem_of_getElem? (i := 958) (by decide +kernel)⟩
theorem lw_p26 : lw_okq (⟨"MailTreeModel", "of", "(II)I"⟩, 25) := ⟨⟨by decide +kernel, by decide +kernel⟩, List.mem_of_getElem? (i := 850) (by decide +kernel), List.mem_of_getElem? (i := 961) (by decide +kernel), List.mem_of_getElem? (i := 962) (by decide +kernel)⟩
theorem lw_p27 : lw_okq (⟨"MailTreeModel", "fields", "(III)I"⟩, 25) := ⟨⟨by decide +kernel, by decide +kernel⟩, List.mem_of_getElem? (i := 850) (by decide +kernel), List.mem_of_getElem? (i := 965) (by decide +kernel), List.mem_of_getElem? (i := 966) (by decide +kernel)⟩
theorem lw_p28 : lw_okq (⟨"MailTreeModel", "textEnd", "(II)I"⟩, 25) := ⟨⟨by decide +kernel, by decide +kernel⟩, List.mem_of_getElem? (i := 850) (by decide +kernel), List.mem_of_getElem? (i := 969) (by decide +kernel), List.mem_of_getElem? (i := 970) (by decide +kernel)⟩
theorem lw_p29 : lw_okq (⟨"MailTreeModel", "lineEnd", "(II)I"⟩, 25) := ⟨⟨by decide +kernel, by decide +kernel⟩, List.mem_of_getElem? (i := 850) (by decide +kernel), List.mem_of_getElem? (i := 973) (by decide +kernel), List.mem_of_getElem? (i := 974) (by decide +kernel)⟩
theorem lw_p30 : lw_okq (⟨"MailTreeModel", "trims", "(I)V"⟩, 25) := ⟨⟨by decide +kernel, by decide +kernel⟩, List.mem_of_getElem? (i := 850) (by decide +kernel), List.mem_of_getElem? (i := 977) (by decide +kernel), List.mem_of_getElem? (i := 978) (by decide +kernel)⟩
theorem lw_p31 : lw_okq (⟨"MailTreeModel", "nameSize", "(II)I"⟩, 25) := ⟨⟨by decide +kernel, by decide +kernel⟩, List.mem_of_getElem? (i := 850) (by decide +kernel), List.mem_of_getElem? (i := 984) (by decide +kernel), List.mem_of_getElem? (i := 985) (by decide +kernel)⟩
def lw_privs_2 : List (MethodName × Nat) := [(⟨"MailTree$Printer", "printContent", "(LMailTree$Entity;)V"⟩, 2), (⟨"MailTree$Printer", "printBase64", "(II)V"⟩, 2), (⟨"MailTree$Printer", "printThreeBytes", "(II)V"⟩, 2), (⟨"MailTree$Printer", "printQuotedPrintable", "(II)V"⟩, 2), (⟨"MailTree$Printer", "isPlain", "(II)Z"⟩, 2), (⟨"MailTree$Printer", "printEscaped", "(I)V"⟩, 2), (⟨"MailTree$Printer", "printMark", "(LMailTree$Entity;Ljava/lang/String;)V"⟩, 2), (⟨"MailTreeModel", "lay", "(IIII)V"⟩, 25), (⟨"MailTreeModel", "takeEntity", "()V"⟩, 25), (⟨"MailTreeModel", "set", "(III)V"⟩, 25), (⟨"MailTreeModel", "of", "(II)I"⟩, 25), (⟨"MailTreeModel", "fields", "(III)I"⟩, 25), (⟨"MailTreeModel", "textEnd", "(II)I"⟩, 25), (⟨"MailTreeModel", "lineEnd", "(II)I"⟩, 25), (⟨"MailTreeModel", "trims", "(I)V"⟩, 25), (⟨"MailTreeModel", "nameSize", "(II)I"⟩, 25)]
theorem lw_r2 : ∀ q ∈ lw_privs_2, lw_okq q := List.forall_mem_cons.mpr ⟨lw_p16, List.forall_mem_cons.mpr ⟨lw_p17, List.forall_mem_cons.mpr ⟨lw_p18, List.forall_mem_cons.mpr ⟨lw_p19, List.forall_mem_cons.mpr ⟨lw_p20, List.forall_mem_cons.mpr ⟨lw_p21, List.forall_mem_cons.mpr ⟨lw_p22, List.forall_mem_cons.mpr ⟨lw_p23, List.forall_mem_cons.mpr ⟨lw_p24, List.forall_mem_cons.mpr ⟨lw_p25, List.forall_mem_cons.mpr ⟨lw_p26, List.forall_mem_cons.mpr ⟨lw_p27, List.forall_mem_cons.mpr ⟨lw_p28, List.forall_mem_cons.mpr ⟨lw_p29, List.forall_mem_cons.mpr ⟨lw_p30, List.forall_mem_cons.mpr ⟨lw_p31, fun _ h => absurd h List.not_mem_nil⟩⟩⟩⟩⟩⟩⟩⟩⟩⟩⟩⟩⟩⟩⟩⟩
theorem lw_p32 : lw_okq (⟨"MailTreeModel", "begins", "(IIII)V"⟩, 25) := ⟨⟨by decide +kernel, by decide +kernel⟩, List.mem_of_getElem? (i := 850) (by decide +kernel), List.mem_of_getElem? (i := 988) (by decide +kernel), List.mem_of_getElem? (i := 989) (by decide +kernel)⟩
theorem lw_p33 : lw_okq (⟨"MailTreeModel", "keep", "(I)V"⟩, 25) := ⟨⟨by decide +kernel, by decide +kernel⟩, List.mem_of_getElem? (i := 850) (by decide +kernel), List.mem_of_getElem? (i := 992) (by decide +kernel), List.mem_of_getElem? (i := 993) (by decide +kernel)⟩
theorem lw_p34 : lw_okq (⟨"MailTreeModel", "encoding", "(I)I"⟩, 25) := ⟨⟨by decide +kernel, by decide +kernel⟩, List.mem_of_getElem? (i := 850) (by decide +kernel), List.mem_of_getElem? (i := 996) (by decide +kernel), List.mem_of_getElem? (i := 997) (by decide +kernel)⟩
theorem lw_p35 : lw_okq (⟨"MailTreeModel", "firstField", "(IJJJ)I"⟩, 25) := ⟨⟨by decide +kernel, by decide +kernel⟩, List.mem_of_getElem? (i := 850) (by decide +kernel), List.mem_of_getElem? (i := 1003) (by decide +kernel), List.mem_of_getElem? (i := 1004) (by decide +kernel)⟩
theorem lw_p36 : lw_okq (⟨"MailTreeModel", "fieldOf", "(III)I"⟩, 25) := ⟨⟨by decide +kernel, by decide +kernel⟩, List.mem_of_getElem? (i := 850) (by decide +kernel), List.mem_of_getElem? (i := 1007) (by decide +kernel), List.mem_of_getElem? (i := 1008) (by decide +kernel)⟩
theorem lw_p37 : lw_okq (⟨"MailTreeModel", "isWord", "(IIJJJ)Z"⟩, 25) := ⟨⟨by decide +kernel, by decide +kernel⟩, List.mem_of_getElem? (i := 850) (by decide +kernel), List.mem_of_getElem? (i := 1011) (by decide +kernel), List.mem_of_getElem? (i := 1012) (by decide +kernel)⟩
theorem lw_p38 : lw_okq (⟨"MailTreeModel", "enter", "(II)V"⟩, 25) := ⟨⟨by decide +kernel, by decide +kernel⟩, List.mem_of_getElem? (i := 850) (by decide +kernel), List.mem_of_getElem? (i := 1019) (by decide +kernel), List.mem_of_getElem? (i := 1020) (by decide +kernel)⟩
theorem lw_p39 : lw_okq (⟨"MailTreeModel", "space", "()V"⟩, 25) := ⟨⟨by decide +kernel, by decide +kernel⟩, List.mem_of_getElem? (i := 850) (by decide +kernel), List.mem_of_getElem? (i := 1023) (by decide +kernel), List.mem_of_getElem? (i := 1024) (by decide +kernel)⟩
theorem lw_p40 : lw_okq (⟨"MailTreeModel", "now", "()I"⟩, 25) := ⟨⟨by decide +kernel, by decide +kernel⟩, List.mem_of_getElem? (i := 850) (by decide +kernel), List.mem_of_getElem? (i := 1027) (by decide +kernel), List.mem_of_getElem? (i := 1028) (by decide +kernel)⟩
theorem lw_p41 : lw_okq (⟨"MailTreeModel", "comment", "()V"⟩, 25) := ⟨⟨by decide +kernel, by decide +kernel⟩, List.mem_of_getElem? (i := 850) (by decide +kernel), List.mem_of_getElem? (i := 1031) (by decide +kernel), List.mem_of_getElem? (i := 1032) (by decide +kernel)⟩
theorem lw_p42 : lw_okq (⟨"MailTreeModel", "atom", "()Z"⟩, 25) := ⟨⟨by decide +kernel, by decide +kernel⟩, List.mem_of_getElem? (i := 850) (by decide +kernel), List.mem_of_getElem? (i := 1035) (by decide +kernel), List.mem_of_getElem? (i := 1036) (by decide +kernel)⟩
theorem lw_p43 : lw_okq (⟨"MailTreeModel", "kind", "(I)I"⟩, 25) := ⟨⟨by decide +kernel, by decide +kernel⟩, List.mem_of_getElem? (i := 850) (by decide +kernel), List.mem_of_getElem? (i := 1045) (by decide +kernel), List.mem_of_getElem? (i := 1046) (by decide +kernel)⟩
theorem lw_p44 : lw_okq (⟨"MailTreeModel", "takes", "(I)Z"⟩, 25) := ⟨⟨by decide +kernel, by decide +kernel⟩, List.mem_of_getElem? (i := 850) (by decide +kernel), List.mem_of_getElem? (i := 1050) (by decide +kernel), List.mem_of_getElem? (i := 1051) (by decide +kernel)⟩
theorem lw_p45 : lw_okq (⟨"MailTreeModel", "parameter", "()I"⟩, 25) := ⟨⟨by decide +kernel, by decide +kernel⟩, List.mem_of_getElem? (i := 850) (by decide +kernel), List.mem_of_getElem? (i := 1057) (by decide +kernel), List.mem_of_getElem? (i := 1058) (by decide +kernel)⟩
theorem lw_p46 : lw_okq (⟨"MailTreeModel", "quoted", "()Z"⟩, 25) := ⟨⟨by decide +kernel, by decide +kernel⟩, List.mem_of_getElem? (i := 850) (by decide +kernel), List.mem_of_getElem? (i := 1062) (by decide +kernel), List.mem_of_getElem? (i := 1063) (by decide +kernel)⟩
theorem lw_p47 : lw_okq (⟨"MailTreeModel", "isBoundary", "()Z"⟩, 25) := ⟨⟨by decide +kernel, by decide +kernel⟩, List.mem_of_getElem? (i := 850) (by decide +kernel), List.mem_of_getElem? (i := 1066) (by decide +kernel), List.mem_of_getElem? (i := 1067) (by decide +kernel)⟩
def lw_privs_3 : List (MethodName × Nat) := [(⟨"MailTreeModel", "begins", "(IIII)V"⟩, 25), (⟨"MailTreeModel", "keep", "(I)V"⟩, 25), (⟨"MailTreeModel", "encoding", "(I)I"⟩, 25), (⟨"MailTreeModel", "firstField", "(IJJJ)I"⟩, 25), (⟨"MailTreeModel", "fieldOf", "(III)I"⟩, 25), (⟨"MailTreeModel", "isWord", "(IIJJJ)Z"⟩, 25), (⟨"MailTreeModel", "enter", "(II)V"⟩, 25), (⟨"MailTreeModel", "space", "()V"⟩, 25), (⟨"MailTreeModel", "now", "()I"⟩, 25), (⟨"MailTreeModel", "comment", "()V"⟩, 25), (⟨"MailTreeModel", "atom", "()Z"⟩, 25), (⟨"MailTreeModel", "kind", "(I)I"⟩, 25), (⟨"MailTreeModel", "takes", "(I)Z"⟩, 25), (⟨"MailTreeModel", "parameter", "()I"⟩, 25), (⟨"MailTreeModel", "quoted", "()Z"⟩, 25), (⟨"MailTreeModel", "isBoundary", "()Z"⟩, 25)]
theorem lw_r3 : ∀ q ∈ lw_privs_3, lw_okq q := List.forall_mem_cons.mpr ⟨lw_p32, List.forall_mem_cons.mpr ⟨lw_p33, List.forall_mem_cons.mpr ⟨lw_p34, List.forall_mem_cons.mpr ⟨lw_p35, List.forall_mem_cons.mpr ⟨lw_p36, List.forall_mem_cons.mpr ⟨lw_p37, List.forall_mem_cons.mpr ⟨lw_p38, List.forall_mem_cons.mpr ⟨lw_p39, List.forall_mem_cons.mpr ⟨lw_p40, List.forall_mem_cons.mpr ⟨lw_p41, List.forall_mem_cons.mpr ⟨lw_p42, List.forall_mem_cons.mpr ⟨lw_p43, List.forall_mem_cons.mpr ⟨lw_p44, List.forall_mem_cons.mpr ⟨lw_p45, List.forall_mem_cons.mpr ⟨lw_p46, List.forall_mem_cons.mpr ⟨lw_p47, fun _ h => absurd h List.not_mem_nil⟩⟩⟩⟩⟩⟩⟩⟩⟩⟩⟩⟩⟩⟩⟩⟩
theorem lw_p48 : lw_okq (⟨"MailTreeModel", "contents", "(I)V"⟩, 25) := ⟨⟨by decide +kernel, by decide +kernel⟩, List.mem_of_getElem? (i := 850) (by decide +kernel), List.mem_of_getElem? (i := 1070) (by decide +kernel), List.mem_of_getElem? (i := 1071) (by decide +kernel)⟩
theorem lw_p49 : lw_okq (⟨"MailTreeModel", "fromLetters", "(II)V"⟩, 25) := ⟨⟨by decide +kernel, by decide +kernel⟩, List.mem_of_getElem? (i := 850) (by decide +kernel), List.mem_of_getElem? (i := 1074) (by decide +kernel), List.mem_of_getElem? (i := 1075) (by decide +kernel)⟩
theorem lw_p50 : lw_okq (⟨"MailTreeModel", "fromQuoted", "(II)V"⟩, 25) := ⟨⟨by decide +kernel, by decide +kernel⟩, List.mem_of_getElem? (i := 850) (by decide +kernel), List.mem_of_getElem? (i := 1081) (by decide +kernel), List.mem_of_getElem? (i := 1082) (by decide +kernel)⟩
theorem lw_p51 : lw_okq (⟨"MailTreeModel", "behindBlanks", "(II)I"⟩, 25) := ⟨⟨by decide +kernel, by decide +kernel⟩, List.mem_of_getElem? (i := 850) (by decide +kernel), List.mem_of_getElem? (i := 1085) (by decide +kernel), List.mem_of_getElem? (i := 1086) (by decide +kernel)⟩
theorem lw_p52 : lw_okq (⟨"MailTreeModel", "lineBreak", "(II)I"⟩, 25) := ⟨⟨by decide +kernel, by decide +kernel⟩, List.mem_of_getElem? (i := 850) (by decide +kernel), List.mem_of_getElem? (i := 1089) (by decide +kernel), List.mem_of_getElem? (i := 1090) (by decide +kernel)⟩
theorem lw_p53 : lw_okq (⟨"MailTreeModel", "parts", "(I)I"⟩, 25) := ⟨⟨by decide +kernel, by decide +kernel⟩, List.mem_of_getElem? (i := 850) (by decide +kernel), List.mem_of_getElem? (i := 1096) (by decide +kernel), List.mem_of_getElem? (i := 1097) (by decide +kernel)⟩
theorem lw_p54 : lw_okq (⟨"MailTreeModel", "delimiter", "(III)I"⟩, 25) := ⟨⟨by decide +kernel, by decide +kernel⟩, List.mem_of_getElem? (i := 850) (by decide +kernel), List.mem_of_getElem? (i := 1100) (by decide +kernel), List.mem_of_getElem? (i := 1101) (by decide +kernel)⟩
theorem lw_p55 : lw_okq (⟨"MailTreeModel", "isEntity", "(I)Z"⟩, 25) := ⟨⟨by decide +kernel, by decide +kernel⟩, List.mem_of_getElem? (i := 850) (by decide +kernel), List.mem_of_getElem? (i := 1112) (by decide +kernel), List.mem_of_getElem? (i := 1113) (by decide +kernel)⟩
theorem lw_p56 : lw_okq (⟨"MailTreeModel", "fails", "(ZZ)Z"⟩, 25) := ⟨⟨by decide +kernel, by decide +kernel⟩, List.mem_of_getElem? (i := 850) (by decide +kernel), List.mem_of_getElem? (i := 1116) (by decide +kernel), List.mem_of_getElem? (i := 1117) (by decide +kernel)⟩
theorem lw_p57 : lw_okq (⟨"MailTreeModel", "isField", "(II)Z"⟩, 25) := ⟨⟨by decide +kernel, by decide +kernel⟩, List.mem_of_getElem? (i := 850) (by decide +kernel), List.mem_of_getElem? (i := 1124) (by decide +kernel), List.mem_of_getElem? (i := 1125) (by decide +kernel)⟩
theorem lw_p58 : lw_okq (⟨"MailTreeModel", "opens", "(I)V"⟩, 25) := ⟨⟨by decide +kernel, by decide +kernel⟩, List.mem_of_getElem? (i := 850) (by decide +kernel), List.mem_of_getElem? (i := 1144) (by decide +kernel), List.mem_of_getElem? (i := 1145) (by decide +kernel)⟩
theorem lw_p59 : lw_okq (⟨"MailTreeModel", "putHead", "(I)V"⟩, 25) := ⟨⟨by decide +kernel, by decide +kernel⟩, List.mem_of_getElem? (i := 850) (by decide +kernel), List.mem_of_getElem? (i := 1148) (by decide +kernel), List.mem_of_getElem? (i := 1149) (by decide +kernel)⟩
theorem lw_p60 : lw_okq (⟨"MailTreeModel", "putText", "(II)V"⟩, 25) := ⟨⟨by decide +kernel, by decide +kernel⟩, List.mem_of_getElem? (i := 850) (by decide +kernel), List.mem_of_getElem? (i := 1152) (by decide +kernel), List.mem_of_getElem? (i := 1153) (by decide +kernel)⟩
theorem lw_p61 : lw_okq (⟨"MailTreeModel", "put", "(I)V"⟩, 25) := ⟨⟨by decide +kernel, by decide +kernel⟩, List.mem_of_getElem? (i := 850) (by decide +kernel), List.mem_of_getElem? (i := 1156) (by decide +kernel), List.mem_of_getElem? (i := 1157) (by decide +kernel)⟩
theorem lw_p62 : lw_okq (⟨"MailTreeModel", "putLine", "()V"⟩, 25) := ⟨⟨by decide +kernel, by decide +kernel⟩, List.mem_of_getElem? (i := 850) (by decide +kernel), List.mem_of_getElem? (i := 1160) (by decide +kernel), List.mem_of_getElem? (i := 1161) (by decide +kernel)⟩
theorem lw_p63 : lw_okq (⟨"MailTreeModel", "putLetters", "(II)V"⟩, 25) := ⟨⟨by decide +kernel, by decide +kernel⟩, List.mem_of_getElem? (i := 850) (by decide +kernel), List.mem_of_getElem? (i := 1164) (by decide +kernel), List.mem_of_getElem? (i := 1165) (by decide +kernel)⟩
def lw_privs_4 : List (MethodName × Nat) := [(⟨"MailTreeModel", "contents", "(I)V"⟩, 25), (⟨"MailTreeModel", "fromLetters", "(II)V"⟩, 25), (⟨"MailTreeModel", "fromQuoted", "(II)V"⟩, 25), (⟨"MailTreeModel", "behindBlanks", "(II)I"⟩, 25), (⟨"MailTreeModel", "lineBreak", "(II)I"⟩, 25), (⟨"MailTreeModel", "parts", "(I)I"⟩, 25), (⟨"MailTreeModel", "delimiter", "(III)I"⟩, 25), (⟨"MailTreeModel", "isEntity", "(I)Z"⟩, 25), (⟨"MailTreeModel", "fails", "(ZZ)Z"⟩, 25), (⟨"MailTreeModel", "isField", "(II)Z"⟩, 25), (⟨"MailTreeModel", "opens", "(I)V"⟩, 25), (⟨"MailTreeModel", "putHead", "(I)V"⟩, 25), (⟨"MailTreeModel", "putText", "(II)V"⟩, 25), (⟨"MailTreeModel", "put", "(I)V"⟩, 25), (⟨"MailTreeModel", "putLine", "()V"⟩, 25), (⟨"MailTreeModel", "putLetters", "(II)V"⟩, 25)]
theorem lw_r4 : ∀ q ∈ lw_privs_4, lw_okq q := List.forall_mem_cons.mpr ⟨lw_p48, List.forall_mem_cons.mpr ⟨lw_p49, List.forall_mem_cons.mpr ⟨lw_p50, List.forall_mem_cons.mpr ⟨lw_p51, List.forall_mem_cons.mpr ⟨lw_p52, List.forall_mem_cons.mpr ⟨lw_p53, List.forall_mem_cons.mpr ⟨lw_p54, List.forall_mem_cons.mpr ⟨lw_p55, List.forall_mem_cons.mpr ⟨lw_p56, List.forall_mem_cons.mpr ⟨lw_p57, List.forall_mem_cons.mpr ⟨lw_p58, List.forall_mem_cons.mpr ⟨lw_p59, List.forall_mem_cons.mpr ⟨lw_p60, List.forall_mem_cons.mpr ⟨lw_p61, List.forall_mem_cons.mpr ⟨lw_p62, List.forall_mem_cons.mpr ⟨lw_p63, fun _ h => absurd h List.not_mem_nil⟩⟩⟩⟩⟩⟩⟩⟩⟩⟩⟩⟩⟩⟩⟩⟩
theorem lw_p64 : lw_okq (⟨"MailTreeModel", "putQuoted", "(II)V"⟩, 25) := ⟨⟨by decide +kernel, by decide +kernel⟩, List.mem_of_getElem? (i := 850) (by decide +kernel), List.mem_of_getElem? (i := 1171) (by decide +kernel), List.mem_of_getElem? (i := 1172) (by decide +kernel)⟩
theorem lw_p65 : lw_okq (⟨"MailTreeModel", "plain", "(IIII)Z"⟩, 25) := ⟨⟨by decide +kernel, by decide +kernel⟩, List.mem_of_getElem? (i := 850) (by decide +kernel), List.mem_of_getElem? (i := 1175) (by decide +kernel), List.mem_of_getElem? (i := 1176) (by decide +kernel)⟩
theorem lw_p66 : lw_okq (⟨"MailTreeModel", "goesOn", "()V"⟩, 25) := ⟨⟨by decide +kernel, by decide +kernel⟩, List.mem_of_getElem? (i := 850) (by decide +kernel), List.mem_of_getElem? (i := 1182) (by decide +kernel), List.mem_of_getElem? (i := 1183) (by decide +kernel)⟩
theorem lw_p67 : lw_okq (⟨"MailTreeModel", "partOf", "(II)I"⟩, 25) := ⟨⟨by decide +kernel, by decide +kernel⟩, List.mem_of_getElem? (i := 850) (by decide +kernel), List.mem_of_getElem? (i := 1186) (by decide +kernel), List.mem_of_getElem? (i := 1187) (by decide +kernel)⟩
theorem lw_p68 : lw_okq (⟨"MailTreeModel", "putDelimiter", "(IZ)V"⟩, 25) := ⟨⟨by decide +kernel, by decide +kernel⟩, List.mem_of_getElem? (i := 850) (by decide +kernel), List.mem_of_getElem? (i := 1190) (by decide +kernel), List.mem_of_getElem? (i := 1191) (by decide +kernel)⟩
def lw_privs_5 : List (MethodName × Nat) := [(⟨"MailTreeModel", "putQuoted", "(II)V"⟩, 25), (⟨"MailTreeModel", "plain", "(IIII)Z"⟩, 25), (⟨"MailTreeModel", "goesOn", "()V"⟩, 25), (⟨"MailTreeModel", "partOf", "(II)I"⟩, 25), (⟨"MailTreeModel", "putDelimiter", "(IZ)V"⟩, 25)]
theorem lw_r5 : ∀ q ∈ lw_privs_5, lw_okq q := List.forall_mem_cons.mpr ⟨lw_p64, List.forall_mem_cons.mpr ⟨lw_p65, List.forall_mem_cons.mpr ⟨lw_p66, List.forall_mem_cons.mpr ⟨lw_p67, List.forall_mem_cons.mpr ⟨lw_p68, fun _ h => absurd h List.not_mem_nil⟩⟩⟩⟩⟩
def lw_privs : List (MethodName × Nat) := lw_privs_1 ++ (lw_privs_2 ++ (lw_privs_3 ++ (lw_privs_4 ++ (lw_privs_5))))
def lw_tbl : List Cond := k2_sels lw_privs ++ tables_1
theorem lw_privs_ok : ∀ q ∈ lw_privs, lw_okq q := by
  show ∀ q ∈ lw_privs_1 ++ (lw_privs_2 ++ (lw_privs_3 ++ (lw_privs_4 ++ (lw_privs_5)))), lw_okq q
  exact List.forall_mem_append.mpr ⟨lw_r1, List.forall_mem_append.mpr ⟨lw_r2, List.forall_mem_append.mpr ⟨lw_r3, List.forall_mem_append.mpr ⟨lw_r4, lw_r5⟩⟩⟩⟩
end
section
/-! Names, field tables, the words of the tables by their places, calls and field links: by program (wip/whole/gen/genames.py). -/
def R_B : String := "MailTree$Bytes"
def T_B : u_T := fun k => match k with
  | 0 => ("MailTree$Bytes", "cells", "[I", true)
  | 1 => ("MailTree$Bytes", "size", "I", false)
  | _ => ("MailTree$Bytes", "spilled", "Z", false)
def tf_B : Nat → FieldType := fun k => match k with
  | 0 => (.array .int)
  | 1 => .int
  | _ => .boolean
theorem nm_B : ∀ a, a < 3 → ∀ b, b < 3 → a ≠ b → (T_B a).2.1 ≠ (T_B b).2.1 := by decide +kernel
theorem ty_B : ∀ k, k < 3 → parseFieldDescriptor (T_B k).2.2.1 = some (tf_B k) := by decide +kernel
def R_D : String := "MailTree$Decoder"
def T_D : u_T := fun k => match k with
  | 0 => ("MailTree$Decoder", "source", "LMailTree$Bytes;", true)
  | _ => ("MailTree$Decoder", "contents", "LMailTree$Bytes;", true)
def tf_D : Nat → FieldType := fun k => match k with
  | 0 => (.object "MailTree$Bytes")
  | _ => (.object "MailTree$Bytes")
theorem nm_D : ∀ a, a < 2 → ∀ b, b < 2 → a ≠ b → (T_D a).2.1 ≠ (T_D b).2.1 := by decide +kernel
theorem ty_D : ∀ k, k < 2 → parseFieldDescriptor (T_D k).2.2.1 = some (tf_D k) := by decide +kernel
def R_E : String := "MailTree$Entity"
def T_E : u_T := fun k => match k with
  | 0 => ("MailTree$Entity", "kind", "I", false)
  | 1 => ("MailTree$Entity", "depth", "I", false)
  | 2 => ("MailTree$Entity", "parent", "I", false)
  | 3 => ("MailTree$Entity", "encoding", "I", false)
  | 4 => ("MailTree$Entity", "parts", "I", false)
  | 5 => ("MailTree$Entity", "begin", "I", false)
  | 6 => ("MailTree$Entity", "body", "I", false)
  | 7 => ("MailTree$Entity", "end", "I", false)
  | 8 => ("MailTree$Entity", "contentBegin", "I", false)
  | 9 => ("MailTree$Entity", "contentSize", "I", false)
  | 10 => ("MailTree$Entity", "boundaryBegin", "I", false)
  | 11 => ("MailTree$Entity", "boundarySize", "I", false)
  | 12 => ("MailTree$Entity", "fieldCount", "I", false)
  | _ => ("MailTree$Entity", "fields", "[LMailTree$Field;", true)
def tf_E : Nat → FieldType := fun k => match k with
  | 0 => .int
  | 1 => .int
  | 2 => .int
  | 3 => .int
  | 4 => .int
  | 5 => .int
  | 6 => .int
  | 7 => .int
  | 8 => .int
  | 9 => .int
  | 10 => .int
  | 11 => .int
  | 12 => .int
  | _ => (.array (.object "MailTree$Field"))
theorem nm_E : ∀ a, a < 14 → ∀ b, b < 14 → a ≠ b → (T_E a).2.1 ≠ (T_E b).2.1 := by decide +kernel
theorem ty_E : ∀ k, k < 14 → parseFieldDescriptor (T_E k).2.2.1 = some (tf_E k) := by decide +kernel
def R_F : String := "MailTree$Field"
def T_F : u_T := fun k => match k with
  | 0 => ("MailTree$Field", "nameBegin", "I", false)
  | 1 => ("MailTree$Field", "nameSize", "I", false)
  | 2 => ("MailTree$Field", "valueBegin", "I", false)
  | _ => ("MailTree$Field", "valueSize", "I", false)
def tf_F : Nat → FieldType := fun k => match k with
  | 0 => .int
  | 1 => .int
  | 2 => .int
  | _ => .int
theorem nm_F : ∀ a, a < 4 → ∀ b, b < 4 → a ≠ b → (T_F a).2.1 ≠ (T_F b).2.1 := by decide +kernel
theorem ty_F : ∀ k, k < 4 → parseFieldDescriptor (T_F k).2.2.1 = some (tf_F k) := by decide +kernel
def R_P : String := "MailTree$Printer"
def T_P : u_T := fun k => match k with
  | 0 => ("MailTree$Printer", "tree", "LMailTree$Tree;", true)
  | _ => ("MailTree$Printer", "draft", "LMailTree$Bytes;", true)
def tf_P : Nat → FieldType := fun k => match k with
  | 0 => (.object "MailTree$Tree")
  | _ => (.object "MailTree$Bytes")
theorem nm_P : ∀ a, a < 2 → ∀ b, b < 2 → a ≠ b → (T_P a).2.1 ≠ (T_P b).2.1 := by decide +kernel
theorem ty_P : ∀ k, k < 2 → parseFieldDescriptor (T_P k).2.2.1 = some (tf_P k) := by decide +kernel
def R_S : String := "MailTree$Scanner"
def T_S : u_T := fun k => match k with
  | 0 => ("MailTree$Scanner", "values", "LMailTree$Bytes;", true)
  | 1 => ("MailTree$Scanner", "word", "LMailTree$Bytes;", true)
  | 2 => ("MailTree$Scanner", "place", "I", false)
  | 3 => ("MailTree$Scanner", "end", "I", false)
  | _ => ("MailTree$Scanner", "namedBoundary", "Z", false)
def tf_S : Nat → FieldType := fun k => match k with
  | 0 => (.object "MailTree$Bytes")
  | 1 => (.object "MailTree$Bytes")
  | 2 => .int
  | 3 => .int
  | _ => .boolean
theorem nm_S : ∀ a, a < 5 → ∀ b, b < 5 → a ≠ b → (T_S a).2.1 ≠ (T_S b).2.1 := by decide +kernel
theorem ty_S : ∀ k, k < 5 → parseFieldDescriptor (T_S k).2.2.1 = some (tf_S k) := by decide +kernel
def R_T : String := "MailTree$Tree"
def T_T : u_T := fun k => match k with
  | 0 => ("MailTree$Tree", "source", "LMailTree$Bytes;", true)
  | 1 => ("MailTree$Tree", "values", "LMailTree$Bytes;", true)
  | 2 => ("MailTree$Tree", "contents", "LMailTree$Bytes;", true)
  | 3 => ("MailTree$Tree", "boundaries", "LMailTree$Bytes;", true)
  | 4 => ("MailTree$Tree", "entities", "[LMailTree$Entity;", true)
  | 5 => ("MailTree$Tree", "scanner", "LMailTree$Scanner;", true)
  | 6 => ("MailTree$Tree", "decoder", "LMailTree$Decoder;", true)
  | _ => ("MailTree$Tree", "count", "I", false)
def tf_T : Nat → FieldType := fun k => match k with
  | 0 => (.object "MailTree$Bytes")
  | 1 => (.object "MailTree$Bytes")
  | 2 => (.object "MailTree$Bytes")
  | 3 => (.object "MailTree$Bytes")
  | 4 => (.array (.object "MailTree$Entity"))
  | 5 => (.object "MailTree$Scanner")
  | 6 => (.object "MailTree$Decoder")
  | _ => .int
theorem nm_T : ∀ a, a < 8 → ∀ b, b < 8 → a ≠ b → (T_T a).2.1 ≠ (T_T b).2.1 := by decide +kernel
theorem ty_T : ∀ k, k < 8 → parseFieldDescriptor (T_T k).2.2.1 = some (tf_T k) := by decide +kernel
def R_X : String := "MailTree"
def T_X : u_T := fun k => match k with
  | 0 => ("MailTree", "message", "LMailTree$Bytes;", true)
  | 1 => ("MailTree", "latest", "LMailTree$Bytes;", true)
  | 2 => ("MailTree", "tree", "LMailTree$Tree;", true)
  | _ => ("MailTree", "printer", "LMailTree$Printer;", true)
def tf_X : Nat → FieldType := fun k => match k with
  | 0 => (.object "MailTree$Bytes")
  | 1 => (.object "MailTree$Bytes")
  | 2 => (.object "MailTree$Tree")
  | _ => (.object "MailTree$Printer")
theorem nm_X : ∀ a, a < 4 → ∀ b, b < 4 → a ≠ b → (T_X a).2.1 ≠ (T_X b).2.1 := by decide +kernel
theorem ty_X : ∀ k, k < 4 → parseFieldDescriptor (T_X k).2.2.1 = some (tf_X k) := by decide +kernel
def R_M : String := "MailTreeModel"
def T_M : u_T := fun k => match k with
  | 0 => ("MailTreeModel", "thrown", "I", false)
  | 1 => ("MailTreeModel", "fed", "I", false)
  | 2 => ("MailTreeModel", "message", "[I", true)
  | 3 => ("MailTreeModel", "read", "Z", false)
  | 4 => ("MailTreeModel", "src", "[I", true)
  | 5 => ("MailTreeModel", "entities", "I", false)
  | 6 => ("MailTreeModel", "data", "[I", true)
  | 7 => ("MailTreeModel", "field", "[I", true)
  | 8 => ("MailTreeModel", "text", "[I", true)
  | 9 => ("MailTreeModel", "textSize", "I", false)
  | 10 => ("MailTreeModel", "pile", "I", false)
  | 11 => ("MailTreeModel", "range", "[I", true)
  | 12 => ("MailTreeModel", "found", "[I", true)
  | 13 => ("MailTreeModel", "at", "I", false)
  | 14 => ("MailTreeModel", "stop", "I", false)
  | 15 => ("MailTreeModel", "wordAt", "I", false)
  | 16 => ("MailTreeModel", "wordSize", "I", false)
  | 17 => ("MailTreeModel", "out", "I", false)
  | 18 => ("MailTreeModel", "file", "[I", true)
  | 19 => ("MailTreeModel", "column", "I", false)
  | 20 => ("MailTreeModel", "written", "I", false)
  | 21 => ("MailTreeModel", "kept", "[I", true)
  | 22 => ("MailTreeModel", "open", "I", false)
  | 23 => ("MailTreeModel", "openEntity", "[I", true)
  | _ => ("MailTreeModel", "openNext", "[I", true)
def tf_M : Nat → FieldType := fun k => match k with
  | 0 => .int
  | 1 => .int
  | 2 => (.array .int)
  | 3 => .boolean
  | 4 => (.array .int)
  | 5 => .int
  | 6 => (.array .int)
  | 7 => (.array .int)
  | 8 => (.array .int)
  | 9 => .int
  | 10 => .int
  | 11 => (.array .int)
  | 12 => (.array .int)
  | 13 => .int
  | 14 => .int
  | 15 => .int
  | 16 => .int
  | 17 => .int
  | 18 => (.array .int)
  | 19 => .int
  | 20 => .int
  | 21 => (.array .int)
  | 22 => .int
  | 23 => (.array .int)
  | _ => (.array .int)
theorem nm_M : ∀ a, a < 25 → ∀ b, b < 25 → a ≠ b → (T_M a).2.1 ≠ (T_M b).2.1 := by decide +kernel
theorem ty_M : ∀ k, k < 25 → parseFieldDescriptor (T_M k).2.2.1 = some (tf_M k) := by decide +kernel
def R_L : String := "MailTreeLaw"
abbrev vwCl : List vw_C := [(R_B, T_B, 3), (R_D, T_D, 2), (R_E, T_E, 14), (R_F, T_F, 4), (R_P, T_P, 2), (R_S, T_S, 5), (R_T, T_T, 8), (R_X, T_X, 4), (R_M, T_M, 25)]
abbrev c_X_init : ByteArray := prog_1_method_1_code
def y_X_init : MethodName := ⟨R_X, "<init>", "()V"⟩
abbrev c_B_init : ByteArray := prog_2_method_1_code
def y_B_init : MethodName := ⟨R_B, "<init>", "(I)V"⟩
abbrev c_T_init : ByteArray := prog_8_method_1_code
def y_T_init : MethodName := ⟨R_T, "<init>", "()V"⟩
abbrev c_S_init : ByteArray := prog_7_method_1_code
def y_S_init : MethodName := ⟨R_S, "<init>", "(LMailTree$Bytes;)V"⟩
abbrev c_D_init : ByteArray := prog_3_method_1_code
def y_D_init : MethodName := ⟨R_D, "<init>", "(LMailTree$Bytes;LMailTree$Bytes;)V"⟩
abbrev c_E_init : ByteArray := prog_4_method_1_code
def y_E_init : MethodName := ⟨R_E, "<init>", "()V"⟩
abbrev c_F_init : ByteArray := prog_5_method_1_code
def y_F_init : MethodName := ⟨R_F, "<init>", "()V"⟩
abbrev c_P_init : ByteArray := prog_6_method_1_code
def y_P_init : MethodName := ⟨R_P, "<init>", "(LMailTree$Tree;)V"⟩
abbrev c_X_feed : ByteArray := prog_1_method_2_code
def y_X_feed : MethodName := ⟨R_X, "feed", "(JI)Z"⟩
abbrev c_B_put : ByteArray := prog_2_method_3_code
def y_B_put : MethodName := ⟨R_B, "put", "(I)V"⟩
abbrev c_X_clear : ByteArray := prog_1_method_3_code
def y_X_clear : MethodName := ⟨R_X, "clear", "()I"⟩
abbrev c_B_empty : ByteArray := prog_2_method_2_code
def y_B_empty : MethodName := ⟨R_B, "empty", "()V"⟩
abbrev c_X_read : ByteArray := prog_1_method_4_code
def y_X_read : MethodName := ⟨R_X, "read", "()I"⟩
abbrev c_T_start : ByteArray := prog_8_method_3_code
def y_T_start : MethodName := ⟨R_T, "start", "(LMailTree$Bytes;)V"⟩
abbrev c_B_putRange : ByteArray := prog_2_method_4_code
def y_B_putRange : MethodName := ⟨R_B, "putRange", "(LMailTree$Bytes;II)V"⟩
abbrev c_B_at : ByteArray := prog_2_method_6_code
def y_B_at : MethodName := ⟨R_B, "at", "(I)I"⟩
abbrev c_T_readEntity : ByteArray := prog_8_method_4_code
def y_T_readEntity : MethodName := ⟨R_T, "readEntity", "(IIII)V"⟩
abbrev c_E_start : ByteArray := prog_4_method_2_code
def y_E_start : MethodName := ⟨R_E, "start", "(IIII)V"⟩
abbrev c_T_readFields : ByteArray := prog_8_method_5_code
def y_T_readFields : MethodName := ⟨R_T, "readFields", "(LMailTree$Entity;)I"⟩
abbrev c_B_lineEnd : ByteArray := prog_2_method_10_code
def y_B_lineEnd : MethodName := ⟨R_B, "lineEnd", "(II)I"⟩
abbrev c_B_textEnd : ByteArray := prog_2_method_11_code
def y_B_textEnd : MethodName := ⟨R_B, "textEnd", "(II)I"⟩
abbrev c_X_isBlank : ByteArray := prog_1_method_15_code
def y_X_isBlank : MethodName := ⟨R_X, "isBlank", "(I)Z"⟩
abbrev c_T_goOnWithField : ByteArray := prog_8_method_6_code
def y_T_goOnWithField : MethodName := ⟨R_T, "goOnWithField", "(LMailTree$Entity;II)Z"⟩
abbrev c_T_beginField : ByteArray := prog_8_method_7_code
def y_T_beginField : MethodName := ⟨R_T, "beginField", "(LMailTree$Entity;II)Z"⟩
abbrev c_X_isNameByte : ByteArray := prog_1_method_16_code
def y_X_isNameByte : MethodName := ⟨R_X, "isNameByte", "(I)Z"⟩
abbrev c_T_trimValues : ByteArray := prog_8_method_8_code
def y_T_trimValues : MethodName := ⟨R_T, "trimValues", "(LMailTree$Entity;)V"⟩
abbrev c_B_skipBlanks : ByteArray := prog_2_method_9_code
def y_B_skipBlanks : MethodName := ⟨R_B, "skipBlanks", "(II)I"⟩
abbrev c_T_readEncoding : ByteArray := prog_8_method_10_code
def y_T_readEncoding : MethodName := ⟨R_T, "readEncoding", "(LMailTree$Entity;)V"⟩
abbrev c_T_fieldNamed : ByteArray := prog_8_method_9_code
def y_T_fieldNamed : MethodName := ⟨R_T, "fieldNamed", "(LMailTree$Entity;Ljava/lang/String;)LMailTree$Field;"⟩
abbrev c_B_spells : ByteArray := prog_2_method_8_code
def y_B_spells : MethodName := ⟨R_B, "spells", "(Ljava/lang/String;II)Z"⟩
abbrev c_X_small : ByteArray := prog_1_method_18_code
def y_X_small : MethodName := ⟨R_X, "small", "(I)I"⟩
abbrev c_S_start : ByteArray := prog_7_method_2_code
def y_S_start : MethodName := ⟨R_S, "start", "(LMailTree$Field;)V"⟩
abbrev c_S_skipSpace : ByteArray := prog_7_method_3_code
def y_S_skipSpace : MethodName := ⟨R_S, "skipSpace", "()V"⟩
abbrev c_S_takeAtom : ByteArray := prog_7_method_5_code
def y_S_takeAtom : MethodName := ⟨R_S, "takeAtom", "()Z"⟩
abbrev c_X_isAtomByte : ByteArray := prog_1_method_17_code
def y_X_isAtomByte : MethodName := ⟨R_X, "isAtomByte", "(I)Z"⟩
abbrev c_S_wordIs : ByteArray := prog_7_method_8_code
def y_S_wordIs : MethodName := ⟨R_S, "wordIs", "(Ljava/lang/String;)Z"⟩
abbrev c_T_readKind : ByteArray := prog_8_method_11_code
def y_T_readKind : MethodName := ⟨R_T, "readKind", "(LMailTree$Entity;)Z"⟩
abbrev c_S_take : ByteArray := prog_7_method_4_code
def y_S_take : MethodName := ⟨R_S, "take", "(I)Z"⟩
abbrev c_T_readBoundary : ByteArray := prog_8_method_12_code
def y_T_readBoundary : MethodName := ⟨R_T, "readBoundary", "(LMailTree$Entity;)V"⟩
abbrev c_S_takeParameter : ByteArray := prog_7_method_7_code
def y_S_takeParameter : MethodName := ⟨R_S, "takeParameter", "()Z"⟩
abbrev c_S_takeQuoted : ByteArray := prog_7_method_6_code
def y_S_takeQuoted : MethodName := ⟨R_S, "takeQuoted", "()Z"⟩
abbrev c_S_wordCanBeBoundary : ByteArray := prog_7_method_9_code
def y_S_wordCanBeBoundary : MethodName := ⟨R_S, "wordCanBeBoundary", "()Z"⟩
abbrev c_D_decode : ByteArray := prog_3_method_2_code
def y_D_decode : MethodName := ⟨R_D, "decode", "(LMailTree$Entity;)V"⟩
abbrev c_D_decodeBase64 : ByteArray := prog_3_method_3_code
def y_D_decodeBase64 : MethodName := ⟨R_D, "decodeBase64", "(II)V"⟩
abbrev c_X_base64Digit : ByteArray := prog_1_method_20_code
def y_X_base64Digit : MethodName := ⟨R_X, "base64Digit", "(I)I"⟩
abbrev c_D_decodeQuotedPrintable : ByteArray := prog_3_method_4_code
def y_D_decodeQuotedPrintable : MethodName := ⟨R_D, "decodeQuotedPrintable", "(II)V"⟩
abbrev c_D_decodeEqualSign : ByteArray := prog_3_method_5_code
def y_D_decodeEqualSign : MethodName := ⟨R_D, "decodeEqualSign", "(II)I"⟩
abbrev c_X_hexDigit : ByteArray := prog_1_method_19_code
def y_X_hexDigit : MethodName := ⟨R_X, "hexDigit", "(I)I"⟩
abbrev c_B_lineEndSize : ByteArray := prog_2_method_12_code
def y_B_lineEndSize : MethodName := ⟨R_B, "lineEndSize", "(II)I"⟩
abbrev c_D_decodeBlanks : ByteArray := prog_3_method_6_code
def y_D_decodeBlanks : MethodName := ⟨R_D, "decodeBlanks", "(II)I"⟩
abbrev c_T_readParts : ByteArray := prog_8_method_13_code
def y_T_readParts : MethodName := ⟨R_T, "readParts", "(LMailTree$Entity;I)V"⟩
abbrev c_T_markOf : ByteArray := prog_8_method_14_code
def y_T_markOf : MethodName := ⟨R_T, "markOf", "(LMailTree$Entity;II)I"⟩
abbrev c_B_has : ByteArray := prog_2_method_7_code
def y_B_has : MethodName := ⟨R_B, "has", "(Ljava/lang/String;II)Z"⟩
abbrev c_X_entities : ByteArray := prog_1_method_5_code
def y_X_entities : MethodName := ⟨R_X, "entities", "()I"⟩
abbrev c_X_written : ByteArray := prog_1_method_12_code
def y_X_written : MethodName := ⟨R_X, "written", "(I)I"⟩
abbrev c_X_again : ByteArray := prog_1_method_13_code
def y_X_again : MethodName := ⟨R_X, "again", "()I"⟩
abbrev c_X_look : ByteArray := prog_1_method_6_code
def y_X_look : MethodName := ⟨R_X, "look", "(II)I"⟩
abbrev c_T_entityAt : ByteArray := prog_8_method_2_code
def y_T_entityAt : MethodName := ⟨R_T, "entityAt", "(I)LMailTree$Entity;"⟩
abbrev c_X_length : ByteArray := prog_1_method_7_code
def y_X_length : MethodName := ⟨R_X, "length", "(III)I"⟩
abbrev c_E_fieldAt : ByteArray := prog_4_method_3_code
def y_E_fieldAt : MethodName := ⟨R_E, "fieldAt", "(I)LMailTree$Field;"⟩
abbrev c_X_letter : ByteArray := prog_1_method_8_code
def y_X_letter : MethodName := ⟨R_X, "letter", "(IIII)I"⟩
abbrev c_X_byteOf : ByteArray := prog_1_method_14_code
def y_X_byteOf : MethodName := ⟨R_X, "byteOf", "(LMailTree$Bytes;III)I"⟩
abbrev c_X_content : ByteArray := prog_1_method_9_code
def y_X_content : MethodName := ⟨R_X, "content", "(II)I"⟩
abbrev c_X_boundary : ByteArray := prog_1_method_10_code
def y_X_boundary : MethodName := ⟨R_X, "boundary", "(II)I"⟩
abbrev c_X_write : ByteArray := prog_1_method_11_code
def y_X_write : MethodName := ⟨R_X, "write", "()I"⟩
abbrev c_P_printEntity : ByteArray := prog_6_method_2_code
def y_P_printEntity : MethodName := ⟨R_P, "printEntity", "(II)V"⟩
abbrev c_P_printFields : ByteArray := prog_6_method_3_code
def y_P_printFields : MethodName := ⟨R_P, "printFields", "(LMailTree$Entity;)V"⟩
abbrev c_B_putText : ByteArray := prog_2_method_5_code
def y_B_putText : MethodName := ⟨R_B, "putText", "(Ljava/lang/String;)V"⟩
abbrev c_P_printContent : ByteArray := prog_6_method_5_code
def y_P_printContent : MethodName := ⟨R_P, "printContent", "(LMailTree$Entity;)V"⟩
abbrev c_P_printBase64 : ByteArray := prog_6_method_6_code
def y_P_printBase64 : MethodName := ⟨R_P, "printBase64", "(II)V"⟩
abbrev c_P_printThreeBytes : ByteArray := prog_6_method_7_code
def y_P_printThreeBytes : MethodName := ⟨R_P, "printThreeBytes", "(II)V"⟩
abbrev c_P_printQuotedPrintable : ByteArray := prog_6_method_8_code
def y_P_printQuotedPrintable : MethodName := ⟨R_P, "printQuotedPrintable", "(II)V"⟩
abbrev c_P_isPlain : ByteArray := prog_6_method_9_code
def y_P_isPlain : MethodName := ⟨R_P, "isPlain", "(II)Z"⟩
abbrev c_P_printEscaped : ByteArray := prog_6_method_10_code
def y_P_printEscaped : MethodName := ⟨R_P, "printEscaped", "(I)V"⟩
abbrev c_P_printMark : ByteArray := prog_6_method_4_code
def y_P_printMark : MethodName := ⟨R_P, "printMark", "(LMailTree$Entity;Ljava/lang/String;)V"⟩
abbrev c_M_init : ByteArray := prog_10_method_1_code
def y_M_init : MethodName := ⟨R_M, "<init>", "()V"⟩
abbrev c_M_thrown : ByteArray := prog_10_method_2_code
def y_M_thrown : MethodName := ⟨R_M, "thrown", "()I"⟩
abbrev c_M_feed : ByteArray := prog_10_method_4_code
def y_M_feed : MethodName := ⟨R_M, "feed", "(JI)Z"⟩
abbrev c_M_clear : ByteArray := prog_10_method_5_code
def y_M_clear : MethodName := ⟨R_M, "clear", "()I"⟩
abbrev c_M_read : ByteArray := prog_10_method_43_code
def y_M_read : MethodName := ⟨R_M, "read", "()I"⟩
abbrev c_M_lay : ByteArray := prog_10_method_34_code
def y_M_lay : MethodName := ⟨R_M, "lay", "(IIII)V"⟩
abbrev c_M_takeEntity : ByteArray := prog_10_method_42_code
def y_M_takeEntity : MethodName := ⟨R_M, "takeEntity", "()V"⟩
abbrev c_M_set : ByteArray := prog_10_method_12_code
def y_M_set : MethodName := ⟨R_M, "set", "(III)V"⟩
abbrev c_M_of : ByteArray := prog_10_method_11_code
def y_M_of : MethodName := ⟨R_M, "of", "(II)I"⟩
abbrev c_M_fields : ByteArray := prog_10_method_16_code
def y_M_fields : MethodName := ⟨R_M, "fields", "(III)I"⟩
abbrev c_M_textEnd : ByteArray := prog_10_method_8_code
def y_M_textEnd : MethodName := ⟨R_M, "textEnd", "(II)I"⟩
abbrev c_M_lineEnd : ByteArray := prog_10_method_7_code
def y_M_lineEnd : MethodName := ⟨R_M, "lineEnd", "(II)I"⟩
abbrev c_M_trims : ByteArray := prog_10_method_14_code
def y_M_trims : MethodName := ⟨R_M, "trims", "(I)V"⟩
abbrev c_M_isBlank : ByteArray := prog_10_method_6_code
def y_M_isBlank : MethodName := ⟨R_M, "isBlank", "(I)Z"⟩
abbrev c_M_nameSize : ByteArray := prog_10_method_9_code
def y_M_nameSize : MethodName := ⟨R_M, "nameSize", "(II)I"⟩
abbrev c_M_begins : ByteArray := prog_10_method_15_code
def y_M_begins : MethodName := ⟨R_M, "begins", "(IIII)V"⟩
abbrev c_M_keep : ByteArray := prog_10_method_10_code
def y_M_keep : MethodName := ⟨R_M, "keep", "(I)V"⟩
abbrev c_M_encoding : ByteArray := prog_10_method_28_code
def y_M_encoding : MethodName := ⟨R_M, "encoding", "(I)I"⟩
abbrev c_M_firstField : ByteArray := prog_10_method_26_code
def y_M_firstField : MethodName := ⟨R_M, "firstField", "(IJJJ)I"⟩
abbrev c_M_fieldOf : ByteArray := prog_10_method_13_code
def y_M_fieldOf : MethodName := ⟨R_M, "fieldOf", "(III)I"⟩
abbrev c_M_isWord : ByteArray := prog_10_method_18_code
def y_M_isWord : MethodName := ⟨R_M, "isWord", "(IIJJJ)Z"⟩
abbrev c_M_small : ByteArray := prog_10_method_17_code
def y_M_small : MethodName := ⟨R_M, "small", "(I)I"⟩
abbrev c_M_enter : ByteArray := prog_10_method_27_code
def y_M_enter : MethodName := ⟨R_M, "enter", "(II)V"⟩
abbrev c_M_space : ByteArray := prog_10_method_21_code
def y_M_space : MethodName := ⟨R_M, "space", "()V"⟩
abbrev c_M_now : ByteArray := prog_10_method_19_code
def y_M_now : MethodName := ⟨R_M, "now", "()I"⟩
abbrev c_M_comment : ByteArray := prog_10_method_20_code
def y_M_comment : MethodName := ⟨R_M, "comment", "()V"⟩
abbrev c_M_atom : ByteArray := prog_10_method_23_code
def y_M_atom : MethodName := ⟨R_M, "atom", "()Z"⟩
abbrev c_M_isAtom : ByteArray := prog_10_method_22_code
def y_M_isAtom : MethodName := ⟨R_M, "isAtom", "(I)Z"⟩
abbrev c_M_kind : ByteArray := prog_10_method_31_code
def y_M_kind : MethodName := ⟨R_M, "kind", "(I)I"⟩
abbrev c_M_takes : ByteArray := prog_10_method_25_code
def y_M_takes : MethodName := ⟨R_M, "takes", "(I)Z"⟩
abbrev c_M_parameter : ByteArray := prog_10_method_29_code
def y_M_parameter : MethodName := ⟨R_M, "parameter", "()I"⟩
abbrev c_M_quoted : ByteArray := prog_10_method_24_code
def y_M_quoted : MethodName := ⟨R_M, "quoted", "()Z"⟩
abbrev c_M_isBoundary : ByteArray := prog_10_method_30_code
def y_M_isBoundary : MethodName := ⟨R_M, "isBoundary", "()Z"⟩
abbrev c_M_contents : ByteArray := prog_10_method_41_code
def y_M_contents : MethodName := ⟨R_M, "contents", "(I)V"⟩
abbrev c_M_fromLetters : ByteArray := prog_10_method_37_code
def y_M_fromLetters : MethodName := ⟨R_M, "fromLetters", "(II)V"⟩
abbrev c_M_letter1 : ByteArray := prog_10_method_35_code
def y_M_letter1 : MethodName := ⟨R_M, "letter", "(I)I"⟩
abbrev c_M_fromQuoted : ByteArray := prog_10_method_40_code
def y_M_fromQuoted : MethodName := ⟨R_M, "fromQuoted", "(II)V"⟩
abbrev c_M_behindBlanks : ByteArray := prog_10_method_39_code
def y_M_behindBlanks : MethodName := ⟨R_M, "behindBlanks", "(II)I"⟩
abbrev c_M_lineBreak : ByteArray := prog_10_method_38_code
def y_M_lineBreak : MethodName := ⟨R_M, "lineBreak", "(II)I"⟩
abbrev c_M_hex : ByteArray := prog_10_method_36_code
def y_M_hex : MethodName := ⟨R_M, "hex", "(I)I"⟩
abbrev c_M_parts : ByteArray := prog_10_method_33_code
def y_M_parts : MethodName := ⟨R_M, "parts", "(I)I"⟩
abbrev c_M_delimiter : ByteArray := prog_10_method_32_code
def y_M_delimiter : MethodName := ⟨R_M, "delimiter", "(III)I"⟩
abbrev c_M_entities : ByteArray := prog_10_method_44_code
def y_M_entities : MethodName := ⟨R_M, "entities", "()I"⟩
abbrev c_M_look : ByteArray := prog_10_method_46_code
def y_M_look : MethodName := ⟨R_M, "look", "(II)I"⟩
abbrev c_M_isEntity : ByteArray := prog_10_method_45_code
def y_M_isEntity : MethodName := ⟨R_M, "isEntity", "(I)Z"⟩
abbrev c_M_fails : ByteArray := prog_10_method_3_code
def y_M_fails : MethodName := ⟨R_M, "fails", "(ZZ)Z"⟩
abbrev c_M_length : ByteArray := prog_10_method_48_code
def y_M_length : MethodName := ⟨R_M, "length", "(III)I"⟩
abbrev c_M_isField : ByteArray := prog_10_method_47_code
def y_M_isField : MethodName := ⟨R_M, "isField", "(II)Z"⟩
abbrev c_M_letter : ByteArray := prog_10_method_49_code
def y_M_letter : MethodName := ⟨R_M, "letter", "(IIII)I"⟩
abbrev c_M_content : ByteArray := prog_10_method_50_code
def y_M_content : MethodName := ⟨R_M, "content", "(II)I"⟩
abbrev c_M_boundary : ByteArray := prog_10_method_51_code
def y_M_boundary : MethodName := ⟨R_M, "boundary", "(II)I"⟩
abbrev c_M_write : ByteArray := prog_10_method_65_code
def y_M_write : MethodName := ⟨R_M, "write", "()I"⟩
abbrev c_M_opens : ByteArray := prog_10_method_63_code
def y_M_opens : MethodName := ⟨R_M, "opens", "(I)V"⟩
abbrev c_M_putHead : ByteArray := prog_10_method_60_code
def y_M_putHead : MethodName := ⟨R_M, "putHead", "(I)V"⟩
abbrev c_M_putText : ByteArray := prog_10_method_54_code
def y_M_putText : MethodName := ⟨R_M, "putText", "(II)V"⟩
abbrev c_M_put : ByteArray := prog_10_method_52_code
def y_M_put : MethodName := ⟨R_M, "put", "(I)V"⟩
abbrev c_M_putLine : ByteArray := prog_10_method_53_code
def y_M_putLine : MethodName := ⟨R_M, "putLine", "()V"⟩
abbrev c_M_putLetters : ByteArray := prog_10_method_56_code
def y_M_putLetters : MethodName := ⟨R_M, "putLetters", "(II)V"⟩
abbrev c_M_toLetter : ByteArray := prog_10_method_55_code
def y_M_toLetter : MethodName := ⟨R_M, "toLetter", "(I)I"⟩
abbrev c_M_putQuoted : ByteArray := prog_10_method_59_code
def y_M_putQuoted : MethodName := ⟨R_M, "putQuoted", "(II)V"⟩
abbrev c_M_plain : ByteArray := prog_10_method_58_code
def y_M_plain : MethodName := ⟨R_M, "plain", "(IIII)Z"⟩
abbrev c_M_digit : ByteArray := prog_10_method_57_code
def y_M_digit : MethodName := ⟨R_M, "digit", "(I)I"⟩
abbrev c_M_goesOn : ByteArray := prog_10_method_64_code
def y_M_goesOn : MethodName := ⟨R_M, "goesOn", "()V"⟩
abbrev c_M_partOf : ByteArray := prog_10_method_62_code
def y_M_partOf : MethodName := ⟨R_M, "partOf", "(II)I"⟩
abbrev c_M_putDelimiter : ByteArray := prog_10_method_61_code
def y_M_putDelimiter : MethodName := ⟨R_M, "putDelimiter", "(IZ)V"⟩
abbrev c_M_written : ByteArray := prog_10_method_66_code
def y_M_written : MethodName := ⟨R_M, "written", "(I)I"⟩
abbrev c_M_again : ByteArray := prog_10_method_67_code
def y_M_again : MethodName := ⟨R_M, "again", "()I"⟩
def mt_T : List Cond := lw_tbl.filter goodWord
def mt_isN : Cond → Bool
  | .methodLinkNest .. => true
  | _ => false
def mt_nest : List Cond := tables_1.filter mt_isN
theorem mt_nestF {w : Cond} (h : w ∈ mt_nest) : ∃ (a : String) (i : Nat) (x : MethodName) (b : String), w = .methodLinkNest a i x b := by
  have h2 := (List.mem_filter.mp h).2
  cases w <;> first | exact ⟨_, _, _, _, rfl⟩ | (exact absurd h2 (by simp [mt_isN]))
/-- a field link of the tables: field kf of class C, whose layout is T -/
def fk_ (own : String) (idx : Nat) (C : String) (T : u_T) (N kf : Nat) : Prop := (∀ w ∈ u_ws C T N, w ∈ mt_T) ∧ kf < N ∧ Cond.fieldLink own idx (T kf).1 (T kf).2.1 (T kf).2.2.1 ∈ mt_T
def fp_ (T : u_T) (N kf : Nat) (t0 : Nat → FieldType) : Prop := (∀ k, k < N → parseFieldDescriptor (T k).2.2.1 = some (t0 k)) ∧ (∀ a, a < N → ∀ b, b < N → a ≠ b → (T a).2.1 ≠ (T b).2.1) ∧ (T kf).2.2.2 = false
/-- a call's words: V of an instance's method, S static in the same class, N static of a nest mate -/
def cV_ (own : String) (idx : Nat) (y : MethodName) (cc : ByteArray) (nL : Nat) (ret : Option FieldType) (n : Nat) : Prop := (∀ w ∈ ([.methodLink own idx y, .instanceMethod y, .selects y.cls y y, .initialized y.cls, .code y cc nL ret] : List Cond), w ∈ mt_T) ∧ (y.cls ≠ "java/lang/invoke/MethodHandle" ∧ y.cls ≠ "java/lang/invoke/VarHandle" ∧ (parseMethodDescriptor y.desc).map (fun d => d.parameters.length) = some n)
def cS_ (own : String) (idx : Nat) (y : MethodName) (cc : ByteArray) (nL : Nat) (ret : Option FieldType) (n : Nat) : Prop := (∀ w ∈ ([.methodLink own idx y, .static y, .initialized own, .code y cc nL ret] : List Cond), w ∈ mt_T) ∧ y.cls = own ∧ (y.cls ≠ "java/lang/invoke/MethodHandle" ∧ y.cls ≠ "java/lang/invoke/VarHandle" ∧ (parseMethodDescriptor y.desc).map (fun d => d.parameters.length) = some n)
def cN_ (own : String) (idx : Nat) (y : MethodName) (cc : ByteArray) (nL : Nat) (ret : Option FieldType) (n : Nat) : Prop := (∀ w ∈ ([.static y, .initialized y.cls, .code y cc nL ret] : List Cond), w ∈ mt_T) ∧ (y.cls ≠ "java/lang/invoke/MethodHandle" ∧ y.cls ≠ "java/lang/invoke/VarHandle" ∧ (parseMethodDescriptor y.desc).map (fun d => d.parameters.length) = some n) ∧ ∃ host : String, Cond.methodLinkNest own idx y host ∈ mt_nest
theorem mt_tb1 {w : Cond} (h : w ∈ tables_1_1) : w ∈ tables_1 := List.mem_append_left _ h
theorem mt_in1 {w : Cond} (i : Nat) (h : tables_1_1[i]? = some w) (hg : goodWord w = true) : w ∈ mt_T := List.mem_filter.mpr ⟨List.mem_append_right _ (mt_tb1 (List.mem_of_getElem? h)), hg⟩
theorem mt_tb2 {w : Cond} (h : w ∈ tables_1_2) : w ∈ tables_1 := List.mem_append_right _ (List.mem_append_left _ h)
theorem mt_in2 {w : Cond} (i : Nat) (h : tables_1_2[i]? = some w) (hg : goodWord w = true) : w ∈ mt_T := List.mem_filter.mpr ⟨List.mem_append_right _ (mt_tb2 (List.mem_of_getElem? h)), hg⟩
theorem mt_tb3 {w : Cond} (h : w ∈ tables_1_3) : w ∈ tables_1 := List.mem_append_right _ (List.mem_append_right _ (List.mem_append_left _ h))
theorem mt_in3 {w : Cond} (i : Nat) (h : tables_1_3[i]? = some w) (hg : goodWord w = true) : w ∈ mt_T := List.mem_filter.mpr ⟨List.mem_append_right _ (mt_tb3 (List.mem_of_getElem? h)), hg⟩
theorem mt_tb4 {w : Cond} (h : w ∈ tables_1_4) : w ∈ tables_1 := List.mem_append_right _ (List.mem_append_right _ (List.mem_append_right _ (List.mem_append_left _ h)))
theorem mt_in4 {w : Cond} (i : Nat) (h : tables_1_4[i]? = some w) (hg : goodWord w = true) : w ∈ mt_T := List.mem_filter.mpr ⟨List.mem_append_right _ (mt_tb4 (List.mem_of_getElem? h)), hg⟩
theorem mt_tb5 {w : Cond} (h : w ∈ tables_1_5) : w ∈ tables_1 := List.mem_append_right _ (List.mem_append_right _ (List.mem_append_right _ (List.mem_append_right _ (List.mem_append_left _ h))))
theorem mt_in5 {w : Cond} (i : Nat) (h : tables_1_5[i]? = some w) (hg : goodWord w = true) : w ∈ mt_T := List.mem_filter.mpr ⟨List.mem_append_right _ (mt_tb5 (List.mem_of_getElem? h)), hg⟩
theorem mt_tb6 {w : Cond} (h : w ∈ tables_1_6) : w ∈ tables_1 := List.mem_append_right _ (List.mem_append_right _ (List.mem_append_right _ (List.mem_append_right _ (List.mem_append_right _ (h)))))
theorem mt_in6 {w : Cond} (i : Nat) (h : tables_1_6[i]? = some w) (hg : goodWord w = true) : w ∈ mt_T := List.mem_filter.mpr ⟨List.mem_append_right _ (mt_tb6 (List.mem_of_getElem? h)), hg⟩
theorem mt_inp {w : Cond} (i : Nat) (h : (k2_sels lw_privs)[i]? = some w) (hg : goodWord w = true) : w ∈ mt_T := List.mem_filter.mpr ⟨List.mem_append_left _ (List.mem_of_getElem? h), hg⟩
theorem fa1 {S : List Cond} {a0 : Cond} (h0 : a0 ∈ S) : ∀ w ∈ ([a0] : List Cond), w ∈ S := List.forall_mem_cons.mpr ⟨h0, fun _ h => absurd h List.not_mem_nil⟩
theorem fa2 {S : List Cond} {a0 a1 : Cond} (h0 : a0 ∈ S) (h1 : a1 ∈ S) : ∀ w ∈ ([a0, a1] : List Cond), w ∈ S := List.forall_mem_cons.mpr ⟨h0, List.forall_mem_cons.mpr ⟨h1, fun _ h => absurd h List.not_mem_nil⟩⟩
theorem fa3 {S : List Cond} {a0 a1 a2 : Cond} (h0 : a0 ∈ S) (h1 : a1 ∈ S) (h2 : a2 ∈ S) : ∀ w ∈ ([a0, a1, a2] : List Cond), w ∈ S := List.forall_mem_cons.mpr ⟨h0, List.forall_mem_cons.mpr ⟨h1, List.forall_mem_cons.mpr ⟨h2, fun _ h => absurd h List.not_mem_nil⟩⟩⟩
theorem fa4 {S : List Cond} {a0 a1 a2 a3 : Cond} (h0 : a0 ∈ S) (h1 : a1 ∈ S) (h2 : a2 ∈ S) (h3 : a3 ∈ S) : ∀ w ∈ ([a0, a1, a2, a3] : List Cond), w ∈ S := List.forall_mem_cons.mpr ⟨h0, List.forall_mem_cons.mpr ⟨h1, List.forall_mem_cons.mpr ⟨h2, List.forall_mem_cons.mpr ⟨h3, fun _ h => absurd h List.not_mem_nil⟩⟩⟩⟩
theorem fa5 {S : List Cond} {a0 a1 a2 a3 a4 : Cond} (h0 : a0 ∈ S) (h1 : a1 ∈ S) (h2 : a2 ∈ S) (h3 : a3 ∈ S) (h4 : a4 ∈ S) : ∀ w ∈ ([a0, a1, a2, a3, a4] : List Cond), w ∈ S := List.forall_mem_cons.mpr ⟨h0, List.forall_mem_cons.mpr ⟨h1, List.forall_mem_cons.mpr ⟨h2, List.forall_mem_cons.mpr ⟨h3, List.forall_mem_cons.mpr ⟨h4, fun _ h => absurd h List.not_mem_nil⟩⟩⟩⟩⟩
theorem fa6 {S : List Cond} {a0 a1 a2 a3 a4 a5 : Cond} (h0 : a0 ∈ S) (h1 : a1 ∈ S) (h2 : a2 ∈ S) (h3 : a3 ∈ S) (h4 : a4 ∈ S) (h5 : a5 ∈ S) : ∀ w ∈ ([a0, a1, a2, a3, a4, a5] : List Cond), w ∈ S := List.forall_mem_cons.mpr ⟨h0, List.forall_mem_cons.mpr ⟨h1, List.forall_mem_cons.mpr ⟨h2, List.forall_mem_cons.mpr ⟨h3, List.forall_mem_cons.mpr ⟨h4, List.forall_mem_cons.mpr ⟨h5, fun _ h => absurd h List.not_mem_nil⟩⟩⟩⟩⟩⟩
theorem wl_B_0 : u_lay R_B T_B 0 ∈ mt_T := mt_in1 45 (by decide +kernel) rfl
theorem wl_B_1 : u_lay R_B T_B 1 ∈ mt_T := mt_in1 47 (by decide +kernel) rfl
theorem wl_B_2 : u_lay R_B T_B 2 ∈ mt_T := mt_in1 49 (by decide +kernel) rfl
theorem uw_B : ∀ w ∈ u_ws R_B T_B 3, w ∈ mt_T := (List.forall_mem_cons.mpr ⟨wl_B_0, List.forall_mem_cons.mpr ⟨wl_B_1, List.forall_mem_cons.mpr ⟨wl_B_2, fun _ h => absurd h List.not_mem_nil⟩⟩⟩ : ∀ w ∈ ([u_lay R_B T_B 0, u_lay R_B T_B 1, u_lay R_B T_B 2] : List Cond), w ∈ mt_T)
theorem wl_D_0 : u_lay R_D T_D 0 ∈ mt_T := mt_in1 97 (by decide +kernel) rfl
theorem wl_D_1 : u_lay R_D T_D 1 ∈ mt_T := mt_in1 99 (by decide +kernel) rfl
theorem uw_D : ∀ w ∈ u_ws R_D T_D 2, w ∈ mt_T := (List.forall_mem_cons.mpr ⟨wl_D_0, List.forall_mem_cons.mpr ⟨wl_D_1, fun _ h => absurd h List.not_mem_nil⟩⟩ : ∀ w ∈ ([u_lay R_D T_D 0, u_lay R_D T_D 1] : List Cond), w ∈ mt_T)
theorem wl_E_0 : u_lay R_E T_E 0 ∈ mt_T := mt_in1 191 (by decide +kernel) rfl
theorem wl_E_1 : u_lay R_E T_E 1 ∈ mt_T := mt_in1 193 (by decide +kernel) rfl
theorem wl_E_2 : u_lay R_E T_E 2 ∈ mt_T := mt_in1 195 (by decide +kernel) rfl
theorem wl_E_3 : u_lay R_E T_E 3 ∈ mt_T := mt_in1 197 (by decide +kernel) rfl
theorem wl_E_4 : u_lay R_E T_E 4 ∈ mt_T := mt_in1 199 (by decide +kernel) rfl
theorem wl_E_5 : u_lay R_E T_E 5 ∈ mt_T := mt_in1 201 (by decide +kernel) rfl
theorem wl_E_6 : u_lay R_E T_E 6 ∈ mt_T := mt_in1 203 (by decide +kernel) rfl
theorem wl_E_7 : u_lay R_E T_E 7 ∈ mt_T := mt_in1 205 (by decide +kernel) rfl
theorem wl_E_8 : u_lay R_E T_E 8 ∈ mt_T := mt_in1 207 (by decide +kernel) rfl
theorem wl_E_9 : u_lay R_E T_E 9 ∈ mt_T := mt_in1 209 (by decide +kernel) rfl
theorem wl_E_10 : u_lay R_E T_E 10 ∈ mt_T := mt_in1 211 (by decide +kernel) rfl
theorem wl_E_11 : u_lay R_E T_E 11 ∈ mt_T := mt_in1 213 (by decide +kernel) rfl
theorem wl_E_12 : u_lay R_E T_E 12 ∈ mt_T := mt_in1 215 (by decide +kernel) rfl
theorem wl_E_13 : u_lay R_E T_E 13 ∈ mt_T := mt_in1 217 (by decide +kernel) rfl
theorem uw_E : ∀ w ∈ u_ws R_E T_E 14, w ∈ mt_T := (List.forall_mem_cons.mpr ⟨wl_E_0, List.forall_mem_cons.mpr ⟨wl_E_1, List.forall_mem_cons.mpr ⟨wl_E_2, List.forall_mem_cons.mpr ⟨wl_E_3, List.forall_mem_cons.mpr ⟨wl_E_4, List.forall_mem_cons.mpr ⟨wl_E_5, List.forall_mem_cons.mpr ⟨wl_E_6, List.forall_mem_cons.mpr ⟨wl_E_7, List.forall_mem_cons.mpr ⟨wl_E_8, List.forall_mem_cons.mpr ⟨wl_E_9, List.forall_mem_cons.mpr ⟨wl_E_10, List.forall_mem_cons.mpr ⟨wl_E_11, List.forall_mem_cons.mpr ⟨wl_E_12, List.forall_mem_cons.mpr ⟨wl_E_13, fun _ h => absurd h List.not_mem_nil⟩⟩⟩⟩⟩⟩⟩⟩⟩⟩⟩⟩⟩⟩ : ∀ w ∈ ([u_lay R_E T_E 0, u_lay R_E T_E 1, u_lay R_E T_E 2, u_lay R_E T_E 3, u_lay R_E T_E 4, u_lay R_E T_E 5, u_lay R_E T_E 6, u_lay R_E T_E 7, u_lay R_E T_E 8, u_lay R_E T_E 9, u_lay R_E T_E 10, u_lay R_E T_E 11, u_lay R_E T_E 12, u_lay R_E T_E 13] : List Cond), w ∈ mt_T)
theorem wl_F_0 : u_lay R_F T_F 0 ∈ mt_T := mt_in1 130 (by decide +kernel) rfl
theorem wl_F_1 : u_lay R_F T_F 1 ∈ mt_T := mt_in1 132 (by decide +kernel) rfl
theorem wl_F_2 : u_lay R_F T_F 2 ∈ mt_T := mt_in1 134 (by decide +kernel) rfl
theorem wl_F_3 : u_lay R_F T_F 3 ∈ mt_T := mt_in1 136 (by decide +kernel) rfl
theorem uw_F : ∀ w ∈ u_ws R_F T_F 4, w ∈ mt_T := (List.forall_mem_cons.mpr ⟨wl_F_0, List.forall_mem_cons.mpr ⟨wl_F_1, List.forall_mem_cons.mpr ⟨wl_F_2, List.forall_mem_cons.mpr ⟨wl_F_3, fun _ h => absurd h List.not_mem_nil⟩⟩⟩⟩ : ∀ w ∈ ([u_lay R_F T_F 0, u_lay R_F T_F 1, u_lay R_F T_F 2, u_lay R_F T_F 3] : List Cond), w ∈ mt_T)
theorem wl_P_0 : u_lay R_P T_P 0 ∈ mt_T := mt_in2 27 (by decide +kernel) rfl
theorem wl_P_1 : u_lay R_P T_P 1 ∈ mt_T := mt_in2 29 (by decide +kernel) rfl
theorem uw_P : ∀ w ∈ u_ws R_P T_P 2, w ∈ mt_T := (List.forall_mem_cons.mpr ⟨wl_P_0, List.forall_mem_cons.mpr ⟨wl_P_1, fun _ h => absurd h List.not_mem_nil⟩⟩ : ∀ w ∈ ([u_lay R_P T_P 0, u_lay R_P T_P 1] : List Cond), w ∈ mt_T)
theorem wl_S_0 : u_lay R_S T_S 0 ∈ mt_T := mt_in1 78 (by decide +kernel) rfl
theorem wl_S_1 : u_lay R_S T_S 1 ∈ mt_T := mt_in1 80 (by decide +kernel) rfl
theorem wl_S_2 : u_lay R_S T_S 2 ∈ mt_T := mt_in1 82 (by decide +kernel) rfl
theorem wl_S_3 : u_lay R_S T_S 3 ∈ mt_T := mt_in1 84 (by decide +kernel) rfl
theorem wl_S_4 : u_lay R_S T_S 4 ∈ mt_T := mt_in1 86 (by decide +kernel) rfl
theorem uw_S : ∀ w ∈ u_ws R_S T_S 5, w ∈ mt_T := (List.forall_mem_cons.mpr ⟨wl_S_0, List.forall_mem_cons.mpr ⟨wl_S_1, List.forall_mem_cons.mpr ⟨wl_S_2, List.forall_mem_cons.mpr ⟨wl_S_3, List.forall_mem_cons.mpr ⟨wl_S_4, fun _ h => absurd h List.not_mem_nil⟩⟩⟩⟩⟩ : ∀ w ∈ ([u_lay R_S T_S 0, u_lay R_S T_S 1, u_lay R_S T_S 2, u_lay R_S T_S 3, u_lay R_S T_S 4] : List Cond), w ∈ mt_T)
theorem wl_T_0 : u_lay R_T T_T 0 ∈ mt_T := mt_in1 239 (by decide +kernel) rfl
theorem wl_T_1 : u_lay R_T T_T 1 ∈ mt_T := mt_in2 1 (by decide +kernel) rfl
theorem wl_T_2 : u_lay R_T T_T 2 ∈ mt_T := mt_in2 3 (by decide +kernel) rfl
theorem wl_T_3 : u_lay R_T T_T 3 ∈ mt_T := mt_in2 5 (by decide +kernel) rfl
theorem wl_T_4 : u_lay R_T T_T 4 ∈ mt_T := mt_in2 7 (by decide +kernel) rfl
theorem wl_T_5 : u_lay R_T T_T 5 ∈ mt_T := mt_in2 9 (by decide +kernel) rfl
theorem wl_T_6 : u_lay R_T T_T 6 ∈ mt_T := mt_in2 11 (by decide +kernel) rfl
theorem wl_T_7 : u_lay R_T T_T 7 ∈ mt_T := mt_in2 13 (by decide +kernel) rfl
theorem uw_T : ∀ w ∈ u_ws R_T T_T 8, w ∈ mt_T := (List.forall_mem_cons.mpr ⟨wl_T_0, List.forall_mem_cons.mpr ⟨wl_T_1, List.forall_mem_cons.mpr ⟨wl_T_2, List.forall_mem_cons.mpr ⟨wl_T_3, List.forall_mem_cons.mpr ⟨wl_T_4, List.forall_mem_cons.mpr ⟨wl_T_5, List.forall_mem_cons.mpr ⟨wl_T_6, List.forall_mem_cons.mpr ⟨wl_T_7, fun _ h => absurd h List.not_mem_nil⟩⟩⟩⟩⟩⟩⟩⟩ : ∀ w ∈ ([u_lay R_T T_T 0, u_lay R_T T_T 1, u_lay R_T T_T 2, u_lay R_T T_T 3, u_lay R_T T_T 4, u_lay R_T T_T 5, u_lay R_T T_T 6, u_lay R_T T_T 7] : List Cond), w ∈ mt_T)
theorem wl_X_0 : u_lay R_X T_X 0 ∈ mt_T := mt_in2 36 (by decide +kernel) rfl
theorem wl_X_1 : u_lay R_X T_X 1 ∈ mt_T := mt_in2 38 (by decide +kernel) rfl
theorem wl_X_2 : u_lay R_X T_X 2 ∈ mt_T := mt_in2 40 (by decide +kernel) rfl
theorem wl_X_3 : u_lay R_X T_X 3 ∈ mt_T := mt_in2 42 (by decide +kernel) rfl
theorem uw_X : ∀ w ∈ u_ws R_X T_X 4, w ∈ mt_T := (List.forall_mem_cons.mpr ⟨wl_X_0, List.forall_mem_cons.mpr ⟨wl_X_1, List.forall_mem_cons.mpr ⟨wl_X_2, List.forall_mem_cons.mpr ⟨wl_X_3, fun _ h => absurd h List.not_mem_nil⟩⟩⟩⟩ : ∀ w ∈ ([u_lay R_X T_X 0, u_lay R_X T_X 1, u_lay R_X T_X 2, u_lay R_X T_X 3] : List Cond), w ∈ mt_T)
theorem wl_M_0 : u_lay R_M T_M 0 ∈ mt_T := mt_in4 160 (by decide +kernel) rfl
theorem wl_M_1 : u_lay R_M T_M 1 ∈ mt_T := mt_in4 162 (by decide +kernel) rfl
theorem wl_M_2 : u_lay R_M T_M 2 ∈ mt_T := mt_in4 164 (by decide +kernel) rfl
theorem wl_M_3 : u_lay R_M T_M 3 ∈ mt_T := mt_in4 166 (by decide +kernel) rfl
theorem wl_M_4 : u_lay R_M T_M 4 ∈ mt_T := mt_in4 168 (by decide +kernel) rfl
theorem wl_M_5 : u_lay R_M T_M 5 ∈ mt_T := mt_in4 170 (by decide +kernel) rfl
theorem wl_M_6 : u_lay R_M T_M 6 ∈ mt_T := mt_in4 172 (by decide +kernel) rfl
theorem wl_M_7 : u_lay R_M T_M 7 ∈ mt_T := mt_in4 174 (by decide +kernel) rfl
theorem wl_M_8 : u_lay R_M T_M 8 ∈ mt_T := mt_in4 176 (by decide +kernel) rfl
theorem wl_M_9 : u_lay R_M T_M 9 ∈ mt_T := mt_in4 178 (by decide +kernel) rfl
theorem wl_M_10 : u_lay R_M T_M 10 ∈ mt_T := mt_in4 180 (by decide +kernel) rfl
theorem wl_M_11 : u_lay R_M T_M 11 ∈ mt_T := mt_in4 182 (by decide +kernel) rfl
theorem wl_M_12 : u_lay R_M T_M 12 ∈ mt_T := mt_in4 184 (by decide +kernel) rfl
theorem wl_M_13 : u_lay R_M T_M 13 ∈ mt_T := mt_in4 186 (by decide +kernel) rfl
theorem wl_M_14 : u_lay R_M T_M 14 ∈ mt_T := mt_in4 188 (by decide +kernel) rfl
theorem wl_M_15 : u_lay R_M T_M 15 ∈ mt_T := mt_in4 190 (by decide +kernel) rfl
theorem wl_M_16 : u_lay R_M T_M 16 ∈ mt_T := mt_in4 192 (by decide +kernel) rfl
theorem wl_M_17 : u_lay R_M T_M 17 ∈ mt_T := mt_in4 194 (by decide +kernel) rfl
theorem wl_M_18 : u_lay R_M T_M 18 ∈ mt_T := mt_in4 196 (by decide +kernel) rfl
theorem wl_M_19 : u_lay R_M T_M 19 ∈ mt_T := mt_in4 198 (by decide +kernel) rfl
theorem wl_M_20 : u_lay R_M T_M 20 ∈ mt_T := mt_in4 200 (by decide +kernel) rfl
theorem wl_M_21 : u_lay R_M T_M 21 ∈ mt_T := mt_in4 202 (by decide +kernel) rfl
theorem wl_M_22 : u_lay R_M T_M 22 ∈ mt_T := mt_in4 204 (by decide +kernel) rfl
theorem wl_M_23 : u_lay R_M T_M 23 ∈ mt_T := mt_in4 206 (by decide +kernel) rfl
theorem wl_M_24 : u_lay R_M T_M 24 ∈ mt_T := mt_in4 208 (by decide +kernel) rfl
theorem uw_M : ∀ w ∈ u_ws R_M T_M 25, w ∈ mt_T := (List.forall_mem_cons.mpr ⟨wl_M_0, List.forall_mem_cons.mpr ⟨wl_M_1, List.forall_mem_cons.mpr ⟨wl_M_2, List.forall_mem_cons.mpr ⟨wl_M_3, List.forall_mem_cons.mpr ⟨wl_M_4, List.forall_mem_cons.mpr ⟨wl_M_5, List.forall_mem_cons.mpr ⟨wl_M_6, List.forall_mem_cons.mpr ⟨wl_M_7, List.forall_mem_cons.mpr ⟨wl_M_8, List.forall_mem_cons.mpr ⟨wl_M_9, List.forall_mem_cons.mpr ⟨wl_M_10, List.forall_mem_cons.mpr ⟨wl_M_11, List.forall_mem_cons.mpr ⟨wl_M_12, List.forall_mem_cons.mpr ⟨wl_M_13, List.forall_mem_cons.mpr ⟨wl_M_14, List.forall_mem_cons.mpr ⟨wl_M_15, List.forall_mem_cons.mpr ⟨wl_M_16, List.forall_mem_cons.mpr ⟨wl_M_17, List.forall_mem_cons.mpr ⟨wl_M_18, List.forall_mem_cons.mpr ⟨wl_M_19, List.forall_mem_cons.mpr ⟨wl_M_20, List.forall_mem_cons.mpr ⟨wl_M_21, List.forall_mem_cons.mpr ⟨wl_M_22, List.forall_mem_cons.mpr ⟨wl_M_23, List.forall_mem_cons.mpr ⟨wl_M_24, fun _ h => absurd h List.not_mem_nil⟩⟩⟩⟩⟩⟩⟩⟩⟩⟩⟩⟩⟩⟩⟩⟩⟩⟩⟩⟩⟩⟩⟩⟩⟩ : ∀ w ∈ ([u_lay R_M T_M 0, u_lay R_M T_M 1, u_lay R_M T_M 2, u_lay R_M T_M 3, u_lay R_M T_M 4, u_lay R_M T_M 5, u_lay R_M T_M 6, u_lay R_M T_M 7, u_lay R_M T_M 8, u_lay R_M T_M 9, u_lay R_M T_M 10, u_lay R_M T_M 11, u_lay R_M T_M 12, u_lay R_M T_M 13, u_lay R_M T_M 14, u_lay R_M T_M 15, u_lay R_M T_M 16, u_lay R_M T_M 17, u_lay R_M T_M 18, u_lay R_M T_M 19, u_lay R_M T_M 20, u_lay R_M T_M 21, u_lay R_M T_M 22, u_lay R_M T_M 23, u_lay R_M T_M 24] : List Cond), w ∈ mt_T)
theorem wf_B_9 : Cond.fieldLink R_B 9 (T_B 0).1 (T_B 0).2.1 (T_B 0).2.2.1 ∈ mt_T := mt_in1 37 (by decide +kernel) rfl
theorem wf_B_15 : Cond.fieldLink R_B 15 (T_B 1).1 (T_B 1).2.1 (T_B 1).2.2.1 ∈ mt_T := mt_in1 38 (by decide +kernel) rfl
theorem wf_D_18 : Cond.fieldLink R_D 18 (T_B 1).1 (T_B 1).2.1 (T_B 1).2.2.1 ∈ mt_T := mt_in1 39 (by decide +kernel) rfl
theorem wf_X_37 : Cond.fieldLink R_X 37 (T_B 1).1 (T_B 1).2.1 (T_B 1).2.2.1 ∈ mt_T := mt_in1 40 (by decide +kernel) rfl
theorem wf_T_68 : Cond.fieldLink R_T 68 (T_B 1).1 (T_B 1).2.1 (T_B 1).2.2.1 ∈ mt_T := mt_in1 41 (by decide +kernel) rfl
theorem wf_S_55 : Cond.fieldLink R_S 55 (T_B 1).1 (T_B 1).2.1 (T_B 1).2.2.1 ∈ mt_T := mt_in1 42 (by decide +kernel) rfl
theorem wf_B_19 : Cond.fieldLink R_B 19 (T_B 2).1 (T_B 2).2.1 (T_B 2).2.2.1 ∈ mt_T := mt_in1 43 (by decide +kernel) rfl
theorem wf_X_162 : Cond.fieldLink R_X 162 (T_B 2).1 (T_B 2).2.1 (T_B 2).2.2.1 ∈ mt_T := mt_in1 44 (by decide +kernel) rfl
theorem wf_S_9 : Cond.fieldLink R_S 9 (T_S 0).1 (T_S 0).2.1 (T_S 0).2.2.1 ∈ mt_T := mt_in1 69 (by decide +kernel) rfl
theorem wf_S_20 : Cond.fieldLink R_S 20 (T_S 1).1 (T_S 1).2.1 (T_S 1).2.2.1 ∈ mt_T := mt_in1 70 (by decide +kernel) rfl
theorem wf_T_230 : Cond.fieldLink R_T 230 (T_S 1).1 (T_S 1).2.1 (T_S 1).2.2.1 ∈ mt_T := mt_in1 71 (by decide +kernel) rfl
theorem wf_S_29 : Cond.fieldLink R_S 29 (T_S 2).1 (T_S 2).2.1 (T_S 2).2.2.1 ∈ mt_T := mt_in1 72 (by decide +kernel) rfl
theorem wf_T_191 : Cond.fieldLink R_T 191 (T_S 2).1 (T_S 2).2.1 (T_S 2).2.2.1 ∈ mt_T := mt_in1 73 (by decide +kernel) rfl
theorem wf_S_35 : Cond.fieldLink R_S 35 (T_S 3).1 (T_S 3).2.1 (T_S 3).2.2.1 ∈ mt_T := mt_in1 74 (by decide +kernel) rfl
theorem wf_T_194 : Cond.fieldLink R_T 194 (T_S 3).1 (T_S 3).2.1 (T_S 3).2.2.1 ∈ mt_T := mt_in1 75 (by decide +kernel) rfl
theorem wf_S_61 : Cond.fieldLink R_S 61 (T_S 4).1 (T_S 4).2.1 (T_S 4).2.2.1 ∈ mt_T := mt_in1 76 (by decide +kernel) rfl
theorem wf_T_220 : Cond.fieldLink R_T 220 (T_S 4).1 (T_S 4).2.1 (T_S 4).2.2.1 ∈ mt_T := mt_in1 77 (by decide +kernel) rfl
theorem wf_D_9 : Cond.fieldLink R_D 9 (T_D 0).1 (T_D 0).2.1 (T_D 0).2.2.1 ∈ mt_T := mt_in1 95 (by decide +kernel) rfl
theorem wf_D_15 : Cond.fieldLink R_D 15 (T_D 1).1 (T_D 1).2.1 (T_D 1).2.2.1 ∈ mt_T := mt_in1 96 (by decide +kernel) rfl
theorem wf_P_75 : Cond.fieldLink R_P 75 (T_F 0).1 (T_F 0).2.1 (T_F 0).2.2.1 ∈ mt_T := mt_in1 116 (by decide +kernel) rfl
theorem wf_T_159 : Cond.fieldLink R_T 159 (T_F 0).1 (T_F 0).2.1 (T_F 0).2.2.1 ∈ mt_T := mt_in1 117 (by decide +kernel) rfl
theorem wf_X_118 : Cond.fieldLink R_X 118 (T_F 0).1 (T_F 0).2.1 (T_F 0).2.2.1 ∈ mt_T := mt_in1 118 (by decide +kernel) rfl
theorem wf_P_80 : Cond.fieldLink R_P 80 (T_F 1).1 (T_F 1).2.1 (T_F 1).2.2.1 ∈ mt_T := mt_in1 119 (by decide +kernel) rfl
theorem wf_X_105 : Cond.fieldLink R_X 105 (T_F 1).1 (T_F 1).2.1 (T_F 1).2.2.1 ∈ mt_T := mt_in1 120 (by decide +kernel) rfl
theorem wf_T_162 : Cond.fieldLink R_T 162 (T_F 1).1 (T_F 1).2.1 (T_F 1).2.2.1 ∈ mt_T := mt_in1 121 (by decide +kernel) rfl
theorem wf_S_23 : Cond.fieldLink R_S 23 (T_F 2).1 (T_F 2).2.1 (T_F 2).2.2.1 ∈ mt_T := mt_in1 122 (by decide +kernel) rfl
theorem wf_P_92 : Cond.fieldLink R_P 92 (T_F 2).1 (T_F 2).2.1 (T_F 2).2.2.1 ∈ mt_T := mt_in1 123 (by decide +kernel) rfl
theorem wf_T_165 : Cond.fieldLink R_T 165 (T_F 2).1 (T_F 2).2.1 (T_F 2).2.2.1 ∈ mt_T := mt_in1 124 (by decide +kernel) rfl
theorem wf_X_128 : Cond.fieldLink R_X 128 (T_F 2).1 (T_F 2).2.1 (T_F 2).2.2.1 ∈ mt_T := mt_in1 125 (by decide +kernel) rfl
theorem wf_S_32 : Cond.fieldLink R_S 32 (T_F 3).1 (T_F 3).2.1 (T_F 3).2.2.1 ∈ mt_T := mt_in1 126 (by decide +kernel) rfl
theorem wf_P_95 : Cond.fieldLink R_P 95 (T_F 3).1 (T_F 3).2.1 (T_F 3).2.2.1 ∈ mt_T := mt_in1 127 (by decide +kernel) rfl
theorem wf_T_151 : Cond.fieldLink R_T 151 (T_F 3).1 (T_F 3).2.1 (T_F 3).2.2.1 ∈ mt_T := mt_in1 128 (by decide +kernel) rfl
theorem wf_X_110 : Cond.fieldLink R_X 110 (T_F 3).1 (T_F 3).2.1 (T_F 3).2.2.1 ∈ mt_T := mt_in1 129 (by decide +kernel) rfl
theorem wf_E_18 : Cond.fieldLink R_E 18 (T_E 0).1 (T_E 0).2.1 (T_E 0).2.2.1 ∈ mt_T := mt_in1 139 (by decide +kernel) rfl
theorem wf_P_44 : Cond.fieldLink R_P 44 (T_E 0).1 (T_E 0).2.1 (T_E 0).2.2.1 ∈ mt_T := mt_in1 140 (by decide +kernel) rfl
theorem wf_T_103 : Cond.fieldLink R_T 103 (T_E 0).1 (T_E 0).2.1 (T_E 0).2.2.1 ∈ mt_T := mt_in1 141 (by decide +kernel) rfl
theorem wf_X_62 : Cond.fieldLink R_X 62 (T_E 0).1 (T_E 0).2.1 (T_E 0).2.2.1 ∈ mt_T := mt_in1 142 (by decide +kernel) rfl
theorem wf_E_22 : Cond.fieldLink R_E 22 (T_E 1).1 (T_E 1).2.1 (T_E 1).2.2.1 ∈ mt_T := mt_in1 143 (by decide +kernel) rfl
theorem wf_X_67 : Cond.fieldLink R_X 67 (T_E 1).1 (T_E 1).2.1 (T_E 1).2.2.1 ∈ mt_T := mt_in1 144 (by decide +kernel) rfl
theorem wf_T_245 : Cond.fieldLink R_T 245 (T_E 1).1 (T_E 1).2.1 (T_E 1).2.2.1 ∈ mt_T := mt_in1 145 (by decide +kernel) rfl
theorem wf_E_25 : Cond.fieldLink R_E 25 (T_E 2).1 (T_E 2).2.1 (T_E 2).2.2.1 ∈ mt_T := mt_in1 146 (by decide +kernel) rfl
theorem wf_P_52 : Cond.fieldLink R_P 52 (T_E 2).1 (T_E 2).2.1 (T_E 2).2.2.1 ∈ mt_T := mt_in1 147 (by decide +kernel) rfl
theorem wf_X_70 : Cond.fieldLink R_X 70 (T_E 2).1 (T_E 2).2.1 (T_E 2).2.2.1 ∈ mt_T := mt_in1 148 (by decide +kernel) rfl
theorem wf_D_29 : Cond.fieldLink R_D 29 (T_E 3).1 (T_E 3).2.1 (T_E 3).2.2.1 ∈ mt_T := mt_in1 149 (by decide +kernel) rfl
theorem wf_E_28 : Cond.fieldLink R_E 28 (T_E 3).1 (T_E 3).2.1 (T_E 3).2.2.1 ∈ mt_T := mt_in1 150 (by decide +kernel) rfl
theorem wf_P_113 : Cond.fieldLink R_P 113 (T_E 3).1 (T_E 3).2.1 (T_E 3).2.2.1 ∈ mt_T := mt_in1 151 (by decide +kernel) rfl
theorem wf_X_76 : Cond.fieldLink R_X 76 (T_E 3).1 (T_E 3).2.1 (T_E 3).2.2.1 ∈ mt_T := mt_in1 152 (by decide +kernel) rfl
theorem wf_T_201 : Cond.fieldLink R_T 201 (T_E 3).1 (T_E 3).2.1 (T_E 3).2.2.1 ∈ mt_T := mt_in1 153 (by decide +kernel) rfl
theorem wf_E_31 : Cond.fieldLink R_E 31 (T_E 4).1 (T_E 4).2.1 (T_E 4).2.2.1 ∈ mt_T := mt_in1 154 (by decide +kernel) rfl
theorem wf_T_79 : Cond.fieldLink R_T 79 (T_E 4).1 (T_E 4).2.1 (T_E 4).2.2.1 ∈ mt_T := mt_in1 155 (by decide +kernel) rfl
theorem wf_X_82 : Cond.fieldLink R_X 82 (T_E 4).1 (T_E 4).2.1 (T_E 4).2.2.1 ∈ mt_T := mt_in1 156 (by decide +kernel) rfl
theorem wf_E_34 : Cond.fieldLink R_E 34 (T_E 5).1 (T_E 5).2.1 (T_E 5).2.2.1 ∈ mt_T := mt_in1 157 (by decide +kernel) rfl
theorem wf_T_116 : Cond.fieldLink R_T 116 (T_E 5).1 (T_E 5).2.1 (T_E 5).2.2.1 ∈ mt_T := mt_in1 158 (by decide +kernel) rfl
theorem wf_X_85 : Cond.fieldLink R_X 85 (T_E 5).1 (T_E 5).2.1 (T_E 5).2.2.1 ∈ mt_T := mt_in1 159 (by decide +kernel) rfl
theorem wf_D_32 : Cond.fieldLink R_D 32 (T_E 6).1 (T_E 6).2.1 (T_E 6).2.2.1 ∈ mt_T := mt_in1 160 (by decide +kernel) rfl
theorem wf_E_37 : Cond.fieldLink R_E 37 (T_E 6).1 (T_E 6).2.1 (T_E 6).2.2.1 ∈ mt_T := mt_in1 161 (by decide +kernel) rfl
theorem wf_T_86 : Cond.fieldLink R_T 86 (T_E 6).1 (T_E 6).2.1 (T_E 6).2.2.1 ∈ mt_T := mt_in1 162 (by decide +kernel) rfl
theorem wf_X_88 : Cond.fieldLink R_X 88 (T_E 6).1 (T_E 6).2.1 (T_E 6).2.2.1 ∈ mt_T := mt_in1 163 (by decide +kernel) rfl
theorem wf_D_35 : Cond.fieldLink R_D 35 (T_E 7).1 (T_E 7).2.1 (T_E 7).2.2.1 ∈ mt_T := mt_in1 164 (by decide +kernel) rfl
theorem wf_E_40 : Cond.fieldLink R_E 40 (T_E 7).1 (T_E 7).2.1 (T_E 7).2.2.1 ∈ mt_T := mt_in1 165 (by decide +kernel) rfl
theorem wf_T_119 : Cond.fieldLink R_T 119 (T_E 7).1 (T_E 7).2.1 (T_E 7).2.2.1 ∈ mt_T := mt_in1 166 (by decide +kernel) rfl
theorem wf_X_91 : Cond.fieldLink R_X 91 (T_E 7).1 (T_E 7).2.1 (T_E 7).2.2.1 ∈ mt_T := mt_in1 167 (by decide +kernel) rfl
theorem wf_D_24 : Cond.fieldLink R_D 24 (T_E 8).1 (T_E 8).2.1 (T_E 8).2.2.1 ∈ mt_T := mt_in1 168 (by decide +kernel) rfl
theorem wf_E_43 : Cond.fieldLink R_E 43 (T_E 8).1 (T_E 8).2.1 (T_E 8).2.2.1 ∈ mt_T := mt_in1 169 (by decide +kernel) rfl
theorem wf_P_107 : Cond.fieldLink R_P 107 (T_E 8).1 (T_E 8).2.1 (T_E 8).2.2.1 ∈ mt_T := mt_in1 170 (by decide +kernel) rfl
theorem wf_X_134 : Cond.fieldLink R_X 134 (T_E 8).1 (T_E 8).2.1 (T_E 8).2.2.1 ∈ mt_T := mt_in1 171 (by decide +kernel) rfl
theorem wf_E_46 : Cond.fieldLink R_E 46 (T_E 9).1 (T_E 9).2.1 (T_E 9).2.2.1 ∈ mt_T := mt_in1 172 (by decide +kernel) rfl
theorem wf_D_49 : Cond.fieldLink R_D 49 (T_E 9).1 (T_E 9).2.1 (T_E 9).2.2.1 ∈ mt_T := mt_in1 173 (by decide +kernel) rfl
theorem wf_P_110 : Cond.fieldLink R_P 110 (T_E 9).1 (T_E 9).2.1 (T_E 9).2.2.1 ∈ mt_T := mt_in1 174 (by decide +kernel) rfl
theorem wf_X_79 : Cond.fieldLink R_X 79 (T_E 9).1 (T_E 9).2.1 (T_E 9).2.2.1 ∈ mt_T := mt_in1 175 (by decide +kernel) rfl
theorem wf_E_49 : Cond.fieldLink R_E 49 (T_E 10).1 (T_E 10).2.1 (T_E 10).2.2.1 ∈ mt_T := mt_in1 176 (by decide +kernel) rfl
theorem wf_P_101 : Cond.fieldLink R_P 101 (T_E 10).1 (T_E 10).2.1 (T_E 10).2.2.1 ∈ mt_T := mt_in1 177 (by decide +kernel) rfl
theorem wf_X_143 : Cond.fieldLink R_X 143 (T_E 10).1 (T_E 10).2.1 (T_E 10).2.2.1 ∈ mt_T := mt_in1 178 (by decide +kernel) rfl
theorem wf_T_227 : Cond.fieldLink R_T 227 (T_E 10).1 (T_E 10).2.1 (T_E 10).2.2.1 ∈ mt_T := mt_in1 179 (by decide +kernel) rfl
theorem wf_E_52 : Cond.fieldLink R_E 52 (T_E 11).1 (T_E 11).2.1 (T_E 11).2.2.1 ∈ mt_T := mt_in1 180 (by decide +kernel) rfl
theorem wf_P_104 : Cond.fieldLink R_P 104 (T_E 11).1 (T_E 11).2.1 (T_E 11).2.2.1 ∈ mt_T := mt_in1 181 (by decide +kernel) rfl
theorem wf_X_137 : Cond.fieldLink R_X 137 (T_E 11).1 (T_E 11).2.1 (T_E 11).2.2.1 ∈ mt_T := mt_in1 182 (by decide +kernel) rfl
theorem wf_T_233 : Cond.fieldLink R_T 233 (T_E 11).1 (T_E 11).2.1 (T_E 11).2.2.1 ∈ mt_T := mt_in1 183 (by decide +kernel) rfl
theorem wf_E_55 : Cond.fieldLink R_E 55 (T_E 12).1 (T_E 12).2.1 (T_E 12).2.2.1 ∈ mt_T := mt_in1 184 (by decide +kernel) rfl
theorem wf_P_65 : Cond.fieldLink R_P 65 (T_E 12).1 (T_E 12).2.1 (T_E 12).2.2.1 ∈ mt_T := mt_in1 185 (by decide +kernel) rfl
theorem wf_T_144 : Cond.fieldLink R_T 144 (T_E 12).1 (T_E 12).2.1 (T_E 12).2.2.1 ∈ mt_T := mt_in1 186 (by decide +kernel) rfl
theorem wf_X_73 : Cond.fieldLink R_X 73 (T_E 12).1 (T_E 12).2.1 (T_E 12).2.2.1 ∈ mt_T := mt_in1 187 (by decide +kernel) rfl
theorem wf_E_11 : Cond.fieldLink R_E 11 (T_E 13).1 (T_E 13).2.1 (T_E 13).2.2.1 ∈ mt_T := mt_in1 188 (by decide +kernel) rfl
theorem wf_P_68 : Cond.fieldLink R_P 68 (T_E 13).1 (T_E 13).2.1 (T_E 13).2.2.1 ∈ mt_T := mt_in1 189 (by decide +kernel) rfl
theorem wf_T_147 : Cond.fieldLink R_T 147 (T_E 13).1 (T_E 13).2.1 (T_E 13).2.2.1 ∈ mt_T := mt_in1 190 (by decide +kernel) rfl
theorem wf_T_14 : Cond.fieldLink R_T 14 (T_T 0).1 (T_T 0).2.1 (T_T 0).2.2.1 ∈ mt_T := mt_in1 220 (by decide +kernel) rfl
theorem wf_P_72 : Cond.fieldLink R_P 72 (T_T 0).1 (T_T 0).2.1 (T_T 0).2.2.1 ∈ mt_T := mt_in1 221 (by decide +kernel) rfl
theorem wf_X_115 : Cond.fieldLink R_X 115 (T_T 0).1 (T_T 0).2.1 (T_T 0).2.2.1 ∈ mt_T := mt_in1 222 (by decide +kernel) rfl
theorem wf_T_20 : Cond.fieldLink R_T 20 (T_T 1).1 (T_T 1).2.1 (T_T 1).2.2.1 ∈ mt_T := mt_in1 223 (by decide +kernel) rfl
theorem wf_P_89 : Cond.fieldLink R_P 89 (T_T 1).1 (T_T 1).2.1 (T_T 1).2.2.1 ∈ mt_T := mt_in1 224 (by decide +kernel) rfl
theorem wf_X_125 : Cond.fieldLink R_X 125 (T_T 1).1 (T_T 1).2.1 (T_T 1).2.2.1 ∈ mt_T := mt_in1 225 (by decide +kernel) rfl
theorem wf_T_23 : Cond.fieldLink R_T 23 (T_T 2).1 (T_T 2).2.1 (T_T 2).2.2.1 ∈ mt_T := mt_in1 226 (by decide +kernel) rfl
theorem wf_P_122 : Cond.fieldLink R_P 122 (T_T 2).1 (T_T 2).2.1 (T_T 2).2.2.1 ∈ mt_T := mt_in1 227 (by decide +kernel) rfl
theorem wf_X_131 : Cond.fieldLink R_X 131 (T_T 2).1 (T_T 2).2.1 (T_T 2).2.2.1 ∈ mt_T := mt_in1 228 (by decide +kernel) rfl
theorem wf_T_26 : Cond.fieldLink R_T 26 (T_T 3).1 (T_T 3).2.1 (T_T 3).2.2.1 ∈ mt_T := mt_in1 229 (by decide +kernel) rfl
theorem wf_P_98 : Cond.fieldLink R_P 98 (T_T 3).1 (T_T 3).2.1 (T_T 3).2.2.1 ∈ mt_T := mt_in1 230 (by decide +kernel) rfl
theorem wf_X_140 : Cond.fieldLink R_X 140 (T_T 3).1 (T_T 3).2.1 (T_T 3).2.2.1 ∈ mt_T := mt_in1 231 (by decide +kernel) rfl
theorem wf_T_49 : Cond.fieldLink R_T 49 (T_T 4).1 (T_T 4).2.1 (T_T 4).2.2.1 ∈ mt_T := mt_in1 232 (by decide +kernel) rfl
theorem wf_P_30 : Cond.fieldLink R_P 30 (T_T 4).1 (T_T 4).2.1 (T_T 4).2.2.1 ∈ mt_T := mt_in1 233 (by decide +kernel) rfl
theorem wf_T_34 : Cond.fieldLink R_T 34 (T_T 5).1 (T_T 5).2.1 (T_T 5).2.2.1 ∈ mt_T := mt_in1 234 (by decide +kernel) rfl
theorem wf_T_43 : Cond.fieldLink R_T 43 (T_T 6).1 (T_T 6).2.1 (T_T 6).2.2.1 ∈ mt_T := mt_in1 235 (by decide +kernel) rfl
theorem wf_T_54 : Cond.fieldLink R_T 54 (T_T 7).1 (T_T 7).2.1 (T_T 7).2.2.1 ∈ mt_T := mt_in1 236 (by decide +kernel) rfl
theorem wf_P_24 : Cond.fieldLink R_P 24 (T_T 7).1 (T_T 7).2.1 (T_T 7).2.2.1 ∈ mt_T := mt_in1 237 (by decide +kernel) rfl
theorem wf_X_55 : Cond.fieldLink R_X 55 (T_T 7).1 (T_T 7).2.1 (T_T 7).2.2.1 ∈ mt_T := mt_in1 238 (by decide +kernel) rfl
theorem wf_P_9 : Cond.fieldLink R_P 9 (T_P 0).1 (T_P 0).2.1 (T_P 0).2.2.1 ∈ mt_T := mt_in2 24 (by decide +kernel) rfl
theorem wf_P_20 : Cond.fieldLink R_P 20 (T_P 1).1 (T_P 1).2.1 (T_P 1).2.2.1 ∈ mt_T := mt_in2 25 (by decide +kernel) rfl
theorem wf_X_155 : Cond.fieldLink R_X 155 (T_P 1).1 (T_P 1).2.1 (T_P 1).2.2.1 ∈ mt_T := mt_in2 26 (by decide +kernel) rfl
theorem wf_X_14 : Cond.fieldLink R_X 14 (T_X 0).1 (T_X 0).2.1 (T_X 0).2.2.1 ∈ mt_T := mt_in2 32 (by decide +kernel) rfl
theorem wf_X_18 : Cond.fieldLink R_X 18 (T_X 1).1 (T_X 1).2.1 (T_X 1).2.2.1 ∈ mt_T := mt_in2 33 (by decide +kernel) rfl
theorem wf_X_24 : Cond.fieldLink R_X 24 (T_X 2).1 (T_X 2).2.1 (T_X 2).2.2.1 ∈ mt_T := mt_in2 34 (by decide +kernel) rfl
theorem wf_X_33 : Cond.fieldLink R_X 33 (T_X 3).1 (T_X 3).2.1 (T_X 3).2.2.1 ∈ mt_T := mt_in2 35 (by decide +kernel) rfl
theorem wf_M_43 : Cond.fieldLink R_M 43 (T_M 0).1 (T_M 0).2.1 (T_M 0).2.2.1 ∈ mt_T := mt_in4 135 (by decide +kernel) rfl
theorem wf_M_47 : Cond.fieldLink R_M 47 (T_M 1).1 (T_M 1).2.1 (T_M 1).2.2.1 ∈ mt_T := mt_in4 136 (by decide +kernel) rfl
theorem wf_M_7 : Cond.fieldLink R_M 7 (T_M 2).1 (T_M 2).2.1 (T_M 2).2.2.1 ∈ mt_T := mt_in4 137 (by decide +kernel) rfl
theorem wf_M_217 : Cond.fieldLink R_M 217 (T_M 3).1 (T_M 3).2.1 (T_M 3).2.2.1 ∈ mt_T := mt_in4 138 (by decide +kernel) rfl
theorem wf_M_13 : Cond.fieldLink R_M 13 (T_M 4).1 (T_M 4).2.1 (T_M 4).2.2.1 ∈ mt_T := mt_in4 139 (by decide +kernel) rfl
theorem wf_M_196 : Cond.fieldLink R_M 196 (T_M 5).1 (T_M 5).2.1 (T_M 5).2.2.1 ∈ mt_T := mt_in4 140 (by decide +kernel) rfl
theorem wf_M_16 : Cond.fieldLink R_M 16 (T_M 6).1 (T_M 6).2.1 (T_M 6).2.2.1 ∈ mt_T := mt_in4 141 (by decide +kernel) rfl
theorem wf_M_19 : Cond.fieldLink R_M 19 (T_M 7).1 (T_M 7).2.1 (T_M 7).2.2.1 ∈ mt_T := mt_in4 142 (by decide +kernel) rfl
theorem wf_M_22 : Cond.fieldLink R_M 22 (T_M 8).1 (T_M 8).2.1 (T_M 8).2.2.1 ∈ mt_T := mt_in4 143 (by decide +kernel) rfl
theorem wf_M_56 : Cond.fieldLink R_M 56 (T_M 9).1 (T_M 9).2.1 (T_M 9).2.2.1 ∈ mt_T := mt_in4 144 (by decide +kernel) rfl
theorem wf_M_175 : Cond.fieldLink R_M 175 (T_M 10).1 (T_M 10).2.1 (T_M 10).2.2.1 ∈ mt_T := mt_in4 145 (by decide +kernel) rfl
theorem wf_M_25 : Cond.fieldLink R_M 25 (T_M 11).1 (T_M 11).2.1 (T_M 11).2.2.1 ∈ mt_T := mt_in4 146 (by decide +kernel) rfl
theorem wf_M_28 : Cond.fieldLink R_M 28 (T_M 12).1 (T_M 12).2.1 (T_M 12).2.2.1 ∈ mt_T := mt_in4 147 (by decide +kernel) rfl
theorem wf_M_93 : Cond.fieldLink R_M 93 (T_M 13).1 (T_M 13).2.1 (T_M 13).2.2.1 ∈ mt_T := mt_in4 148 (by decide +kernel) rfl
theorem wf_M_96 : Cond.fieldLink R_M 96 (T_M 14).1 (T_M 14).2.1 (T_M 14).2.2.1 ∈ mt_T := mt_in4 149 (by decide +kernel) rfl
theorem wf_M_106 : Cond.fieldLink R_M 106 (T_M 15).1 (T_M 15).2.1 (T_M 15).2.2.1 ∈ mt_T := mt_in4 150 (by decide +kernel) rfl
theorem wf_M_112 : Cond.fieldLink R_M 112 (T_M 16).1 (T_M 16).2.1 (T_M 16).2.2.1 ∈ mt_T := mt_in4 151 (by decide +kernel) rfl
theorem wf_M_235 : Cond.fieldLink R_M 235 (T_M 17).1 (T_M 17).2.1 (T_M 17).2.2.1 ∈ mt_T := mt_in4 152 (by decide +kernel) rfl
theorem wf_M_31 : Cond.fieldLink R_M 31 (T_M 18).1 (T_M 18).2.1 (T_M 18).2.2.1 ∈ mt_T := mt_in4 153 (by decide +kernel) rfl
theorem wf_M_241 : Cond.fieldLink R_M 241 (T_M 19).1 (T_M 19).2.1 (T_M 19).2.2.1 ∈ mt_T := mt_in4 154 (by decide +kernel) rfl
theorem wf_M_285 : Cond.fieldLink R_M 285 (T_M 20).1 (T_M 20).2.1 (T_M 20).2.2.1 ∈ mt_T := mt_in4 155 (by decide +kernel) rfl
theorem wf_M_34 : Cond.fieldLink R_M 34 (T_M 21).1 (T_M 21).2.1 (T_M 21).2.2.1 ∈ mt_T := mt_in4 156 (by decide +kernel) rfl
theorem wf_M_269 : Cond.fieldLink R_M 269 (T_M 22).1 (T_M 22).2.1 (T_M 22).2.2.1 ∈ mt_T := mt_in4 157 (by decide +kernel) rfl
theorem wf_M_37 : Cond.fieldLink R_M 37 (T_M 23).1 (T_M 23).2.1 (T_M 23).2.2.1 ∈ mt_T := mt_in4 158 (by decide +kernel) rfl
theorem wf_M_40 : Cond.fieldLink R_M 40 (T_M 24).1 (T_M 24).2.1 (T_M 24).2.2.1 ∈ mt_T := mt_in4 159 (by decide +kernel) rfl
theorem fl_B_9 : fk_ R_B 9 R_B T_B 3 0 := ⟨uw_B, by decide, wf_B_9⟩
theorem fl_B_15 : fk_ R_B 15 R_B T_B 3 1 := ⟨uw_B, by decide, wf_B_15⟩
theorem fl_D_18 : fk_ R_D 18 R_B T_B 3 1 := ⟨uw_B, by decide, wf_D_18⟩
theorem fl_X_37 : fk_ R_X 37 R_B T_B 3 1 := ⟨uw_B, by decide, wf_X_37⟩
theorem fl_T_68 : fk_ R_T 68 R_B T_B 3 1 := ⟨uw_B, by decide, wf_T_68⟩
theorem fl_S_55 : fk_ R_S 55 R_B T_B 3 1 := ⟨uw_B, by decide, wf_S_55⟩
theorem fl_B_19 : fk_ R_B 19 R_B T_B 3 2 := ⟨uw_B, by decide, wf_B_19⟩
theorem fl_X_162 : fk_ R_X 162 R_B T_B 3 2 := ⟨uw_B, by decide, wf_X_162⟩
theorem fl_S_9 : fk_ R_S 9 R_S T_S 5 0 := ⟨uw_S, by decide, wf_S_9⟩
theorem fl_S_20 : fk_ R_S 20 R_S T_S 5 1 := ⟨uw_S, by decide, wf_S_20⟩
theorem fl_T_230 : fk_ R_T 230 R_S T_S 5 1 := ⟨uw_S, by decide, wf_T_230⟩
theorem fl_S_29 : fk_ R_S 29 R_S T_S 5 2 := ⟨uw_S, by decide, wf_S_29⟩
theorem fl_T_191 : fk_ R_T 191 R_S T_S 5 2 := ⟨uw_S, by decide, wf_T_191⟩
theorem fl_S_35 : fk_ R_S 35 R_S T_S 5 3 := ⟨uw_S, by decide, wf_S_35⟩
theorem fl_T_194 : fk_ R_T 194 R_S T_S 5 3 := ⟨uw_S, by decide, wf_T_194⟩
theorem fl_S_61 : fk_ R_S 61 R_S T_S 5 4 := ⟨uw_S, by decide, wf_S_61⟩
theorem fl_T_220 : fk_ R_T 220 R_S T_S 5 4 := ⟨uw_S, by decide, wf_T_220⟩
theorem fl_D_9 : fk_ R_D 9 R_D T_D 2 0 := ⟨uw_D, by decide, wf_D_9⟩
theorem fl_D_15 : fk_ R_D 15 R_D T_D 2 1 := ⟨uw_D, by decide, wf_D_15⟩
theorem fl_P_75 : fk_ R_P 75 R_F T_F 4 0 := ⟨uw_F, by decide, wf_P_75⟩
theorem fl_T_159 : fk_ R_T 159 R_F T_F 4 0 := ⟨uw_F, by decide, wf_T_159⟩
theorem fl_X_118 : fk_ R_X 118 R_F T_F 4 0 := ⟨uw_F, by decide, wf_X_118⟩
theorem fl_P_80 : fk_ R_P 80 R_F T_F 4 1 := ⟨uw_F, by decide, wf_P_80⟩
theorem fl_X_105 : fk_ R_X 105 R_F T_F 4 1 := ⟨uw_F, by decide, wf_X_105⟩
theorem fl_T_162 : fk_ R_T 162 R_F T_F 4 1 := ⟨uw_F, by decide, wf_T_162⟩
theorem fl_S_23 : fk_ R_S 23 R_F T_F 4 2 := ⟨uw_F, by decide, wf_S_23⟩
theorem fl_P_92 : fk_ R_P 92 R_F T_F 4 2 := ⟨uw_F, by decide, wf_P_92⟩
theorem fl_T_165 : fk_ R_T 165 R_F T_F 4 2 := ⟨uw_F, by decide, wf_T_165⟩
theorem fl_X_128 : fk_ R_X 128 R_F T_F 4 2 := ⟨uw_F, by decide, wf_X_128⟩
theorem fl_S_32 : fk_ R_S 32 R_F T_F 4 3 := ⟨uw_F, by decide, wf_S_32⟩
theorem fl_P_95 : fk_ R_P 95 R_F T_F 4 3 := ⟨uw_F, by decide, wf_P_95⟩
theorem fl_T_151 : fk_ R_T 151 R_F T_F 4 3 := ⟨uw_F, by decide, wf_T_151⟩
theorem fl_X_110 : fk_ R_X 110 R_F T_F 4 3 := ⟨uw_F, by decide, wf_X_110⟩
theorem fl_E_18 : fk_ R_E 18 R_E T_E 14 0 := ⟨uw_E, by decide, wf_E_18⟩
theorem fl_P_44 : fk_ R_P 44 R_E T_E 14 0 := ⟨uw_E, by decide, wf_P_44⟩
theorem fl_T_103 : fk_ R_T 103 R_E T_E 14 0 := ⟨uw_E, by decide, wf_T_103⟩
theorem fl_X_62 : fk_ R_X 62 R_E T_E 14 0 := ⟨uw_E, by decide, wf_X_62⟩
theorem fl_E_22 : fk_ R_E 22 R_E T_E 14 1 := ⟨uw_E, by decide, wf_E_22⟩
theorem fl_X_67 : fk_ R_X 67 R_E T_E 14 1 := ⟨uw_E, by decide, wf_X_67⟩
theorem fl_T_245 : fk_ R_T 245 R_E T_E 14 1 := ⟨uw_E, by decide, wf_T_245⟩
theorem fl_E_25 : fk_ R_E 25 R_E T_E 14 2 := ⟨uw_E, by decide, wf_E_25⟩
theorem fl_P_52 : fk_ R_P 52 R_E T_E 14 2 := ⟨uw_E, by decide, wf_P_52⟩
theorem fl_X_70 : fk_ R_X 70 R_E T_E 14 2 := ⟨uw_E, by decide, wf_X_70⟩
theorem fl_D_29 : fk_ R_D 29 R_E T_E 14 3 := ⟨uw_E, by decide, wf_D_29⟩
theorem fl_E_28 : fk_ R_E 28 R_E T_E 14 3 := ⟨uw_E, by decide, wf_E_28⟩
theorem fl_P_113 : fk_ R_P 113 R_E T_E 14 3 := ⟨uw_E, by decide, wf_P_113⟩
theorem fl_X_76 : fk_ R_X 76 R_E T_E 14 3 := ⟨uw_E, by decide, wf_X_76⟩
theorem fl_T_201 : fk_ R_T 201 R_E T_E 14 3 := ⟨uw_E, by decide, wf_T_201⟩
theorem fl_E_31 : fk_ R_E 31 R_E T_E 14 4 := ⟨uw_E, by decide, wf_E_31⟩
theorem fl_T_79 : fk_ R_T 79 R_E T_E 14 4 := ⟨uw_E, by decide, wf_T_79⟩
theorem fl_X_82 : fk_ R_X 82 R_E T_E 14 4 := ⟨uw_E, by decide, wf_X_82⟩
theorem fl_E_34 : fk_ R_E 34 R_E T_E 14 5 := ⟨uw_E, by decide, wf_E_34⟩
theorem fl_T_116 : fk_ R_T 116 R_E T_E 14 5 := ⟨uw_E, by decide, wf_T_116⟩
theorem fl_X_85 : fk_ R_X 85 R_E T_E 14 5 := ⟨uw_E, by decide, wf_X_85⟩
theorem fl_D_32 : fk_ R_D 32 R_E T_E 14 6 := ⟨uw_E, by decide, wf_D_32⟩
theorem fl_E_37 : fk_ R_E 37 R_E T_E 14 6 := ⟨uw_E, by decide, wf_E_37⟩
theorem fl_T_86 : fk_ R_T 86 R_E T_E 14 6 := ⟨uw_E, by decide, wf_T_86⟩
theorem fl_X_88 : fk_ R_X 88 R_E T_E 14 6 := ⟨uw_E, by decide, wf_X_88⟩
theorem fl_D_35 : fk_ R_D 35 R_E T_E 14 7 := ⟨uw_E, by decide, wf_D_35⟩
theorem fl_E_40 : fk_ R_E 40 R_E T_E 14 7 := ⟨uw_E, by decide, wf_E_40⟩
theorem fl_T_119 : fk_ R_T 119 R_E T_E 14 7 := ⟨uw_E, by decide, wf_T_119⟩
theorem fl_X_91 : fk_ R_X 91 R_E T_E 14 7 := ⟨uw_E, by decide, wf_X_91⟩
theorem fl_D_24 : fk_ R_D 24 R_E T_E 14 8 := ⟨uw_E, by decide, wf_D_24⟩
theorem fl_E_43 : fk_ R_E 43 R_E T_E 14 8 := ⟨uw_E, by decide, wf_E_43⟩
theorem fl_P_107 : fk_ R_P 107 R_E T_E 14 8 := ⟨uw_E, by decide, wf_P_107⟩
theorem fl_X_134 : fk_ R_X 134 R_E T_E 14 8 := ⟨uw_E, by decide, wf_X_134⟩
theorem fl_E_46 : fk_ R_E 46 R_E T_E 14 9 := ⟨uw_E, by decide, wf_E_46⟩
theorem fl_D_49 : fk_ R_D 49 R_E T_E 14 9 := ⟨uw_E, by decide, wf_D_49⟩
theorem fl_P_110 : fk_ R_P 110 R_E T_E 14 9 := ⟨uw_E, by decide, wf_P_110⟩
theorem fl_X_79 : fk_ R_X 79 R_E T_E 14 9 := ⟨uw_E, by decide, wf_X_79⟩
theorem fl_E_49 : fk_ R_E 49 R_E T_E 14 10 := ⟨uw_E, by decide, wf_E_49⟩
theorem fl_P_101 : fk_ R_P 101 R_E T_E 14 10 := ⟨uw_E, by decide, wf_P_101⟩
theorem fl_X_143 : fk_ R_X 143 R_E T_E 14 10 := ⟨uw_E, by decide, wf_X_143⟩
theorem fl_T_227 : fk_ R_T 227 R_E T_E 14 10 := ⟨uw_E, by decide, wf_T_227⟩
theorem fl_E_52 : fk_ R_E 52 R_E T_E 14 11 := ⟨uw_E, by decide, wf_E_52⟩
theorem fl_P_104 : fk_ R_P 104 R_E T_E 14 11 := ⟨uw_E, by decide, wf_P_104⟩
theorem fl_X_137 : fk_ R_X 137 R_E T_E 14 11 := ⟨uw_E, by decide, wf_X_137⟩
theorem fl_T_233 : fk_ R_T 233 R_E T_E 14 11 := ⟨uw_E, by decide, wf_T_233⟩
theorem fl_E_55 : fk_ R_E 55 R_E T_E 14 12 := ⟨uw_E, by decide, wf_E_55⟩
theorem fl_P_65 : fk_ R_P 65 R_E T_E 14 12 := ⟨uw_E, by decide, wf_P_65⟩
theorem fl_T_144 : fk_ R_T 144 R_E T_E 14 12 := ⟨uw_E, by decide, wf_T_144⟩
theorem fl_X_73 : fk_ R_X 73 R_E T_E 14 12 := ⟨uw_E, by decide, wf_X_73⟩
theorem fl_E_11 : fk_ R_E 11 R_E T_E 14 13 := ⟨uw_E, by decide, wf_E_11⟩
theorem fl_P_68 : fk_ R_P 68 R_E T_E 14 13 := ⟨uw_E, by decide, wf_P_68⟩
theorem fl_T_147 : fk_ R_T 147 R_E T_E 14 13 := ⟨uw_E, by decide, wf_T_147⟩
theorem fl_T_14 : fk_ R_T 14 R_T T_T 8 0 := ⟨uw_T, by decide, wf_T_14⟩
theorem fl_P_72 : fk_ R_P 72 R_T T_T 8 0 := ⟨uw_T, by decide, wf_P_72⟩
theorem fl_X_115 : fk_ R_X 115 R_T T_T 8 0 := ⟨uw_T, by decide, wf_X_115⟩
theorem fl_T_20 : fk_ R_T 20 R_T T_T 8 1 := ⟨uw_T, by decide, wf_T_20⟩
theorem fl_P_89 : fk_ R_P 89 R_T T_T 8 1 := ⟨uw_T, by decide, wf_P_89⟩
theorem fl_X_125 : fk_ R_X 125 R_T T_T 8 1 := ⟨uw_T, by decide, wf_X_125⟩
theorem fl_T_23 : fk_ R_T 23 R_T T_T 8 2 := ⟨uw_T, by decide, wf_T_23⟩
theorem fl_P_122 : fk_ R_P 122 R_T T_T 8 2 := ⟨uw_T, by decide, wf_P_122⟩
theorem fl_X_131 : fk_ R_X 131 R_T T_T 8 2 := ⟨uw_T, by decide, wf_X_131⟩
theorem fl_T_26 : fk_ R_T 26 R_T T_T 8 3 := ⟨uw_T, by decide, wf_T_26⟩
theorem fl_P_98 : fk_ R_P 98 R_T T_T 8 3 := ⟨uw_T, by decide, wf_P_98⟩
theorem fl_X_140 : fk_ R_X 140 R_T T_T 8 3 := ⟨uw_T, by decide, wf_X_140⟩
theorem fl_T_49 : fk_ R_T 49 R_T T_T 8 4 := ⟨uw_T, by decide, wf_T_49⟩
theorem fl_P_30 : fk_ R_P 30 R_T T_T 8 4 := ⟨uw_T, by decide, wf_P_30⟩
theorem fl_T_34 : fk_ R_T 34 R_T T_T 8 5 := ⟨uw_T, by decide, wf_T_34⟩
theorem fl_T_43 : fk_ R_T 43 R_T T_T 8 6 := ⟨uw_T, by decide, wf_T_43⟩
theorem fl_T_54 : fk_ R_T 54 R_T T_T 8 7 := ⟨uw_T, by decide, wf_T_54⟩
theorem fl_P_24 : fk_ R_P 24 R_T T_T 8 7 := ⟨uw_T, by decide, wf_P_24⟩
theorem fl_X_55 : fk_ R_X 55 R_T T_T 8 7 := ⟨uw_T, by decide, wf_X_55⟩
theorem fl_P_9 : fk_ R_P 9 R_P T_P 2 0 := ⟨uw_P, by decide, wf_P_9⟩
theorem fl_P_20 : fk_ R_P 20 R_P T_P 2 1 := ⟨uw_P, by decide, wf_P_20⟩
theorem fl_X_155 : fk_ R_X 155 R_P T_P 2 1 := ⟨uw_P, by decide, wf_X_155⟩
theorem fl_X_14 : fk_ R_X 14 R_X T_X 4 0 := ⟨uw_X, by decide, wf_X_14⟩
theorem fl_X_18 : fk_ R_X 18 R_X T_X 4 1 := ⟨uw_X, by decide, wf_X_18⟩
theorem fl_X_24 : fk_ R_X 24 R_X T_X 4 2 := ⟨uw_X, by decide, wf_X_24⟩
theorem fl_X_33 : fk_ R_X 33 R_X T_X 4 3 := ⟨uw_X, by decide, wf_X_33⟩
theorem fl_M_43 : fk_ R_M 43 R_M T_M 25 0 := ⟨uw_M, by decide, wf_M_43⟩
theorem fl_M_47 : fk_ R_M 47 R_M T_M 25 1 := ⟨uw_M, by decide, wf_M_47⟩
theorem fl_M_7 : fk_ R_M 7 R_M T_M 25 2 := ⟨uw_M, by decide, wf_M_7⟩
theorem fl_M_217 : fk_ R_M 217 R_M T_M 25 3 := ⟨uw_M, by decide, wf_M_217⟩
theorem fl_M_13 : fk_ R_M 13 R_M T_M 25 4 := ⟨uw_M, by decide, wf_M_13⟩
theorem fl_M_196 : fk_ R_M 196 R_M T_M 25 5 := ⟨uw_M, by decide, wf_M_196⟩
theorem fl_M_16 : fk_ R_M 16 R_M T_M 25 6 := ⟨uw_M, by decide, wf_M_16⟩
theorem fl_M_19 : fk_ R_M 19 R_M T_M 25 7 := ⟨uw_M, by decide, wf_M_19⟩
theorem fl_M_22 : fk_ R_M 22 R_M T_M 25 8 := ⟨uw_M, by decide, wf_M_22⟩
theorem fl_M_56 : fk_ R_M 56 R_M T_M 25 9 := ⟨uw_M, by decide, wf_M_56⟩
theorem fl_M_175 : fk_ R_M 175 R_M T_M 25 10 := ⟨uw_M, by decide, wf_M_175⟩
theorem fl_M_25 : fk_ R_M 25 R_M T_M 25 11 := ⟨uw_M, by decide, wf_M_25⟩
theorem fl_M_28 : fk_ R_M 28 R_M T_M 25 12 := ⟨uw_M, by decide, wf_M_28⟩
theorem fl_M_93 : fk_ R_M 93 R_M T_M 25 13 := ⟨uw_M, by decide, wf_M_93⟩
theorem fl_M_96 : fk_ R_M 96 R_M T_M 25 14 := ⟨uw_M, by decide, wf_M_96⟩
theorem fl_M_106 : fk_ R_M 106 R_M T_M 25 15 := ⟨uw_M, by decide, wf_M_106⟩
theorem fl_M_112 : fk_ R_M 112 R_M T_M 25 16 := ⟨uw_M, by decide, wf_M_112⟩
theorem fl_M_235 : fk_ R_M 235 R_M T_M 25 17 := ⟨uw_M, by decide, wf_M_235⟩
theorem fl_M_31 : fk_ R_M 31 R_M T_M 25 18 := ⟨uw_M, by decide, wf_M_31⟩
theorem fl_M_241 : fk_ R_M 241 R_M T_M 25 19 := ⟨uw_M, by decide, wf_M_241⟩
theorem fl_M_285 : fk_ R_M 285 R_M T_M 25 20 := ⟨uw_M, by decide, wf_M_285⟩
theorem fl_M_34 : fk_ R_M 34 R_M T_M 25 21 := ⟨uw_M, by decide, wf_M_34⟩
theorem fl_M_269 : fk_ R_M 269 R_M T_M 25 22 := ⟨uw_M, by decide, wf_M_269⟩
theorem fl_M_37 : fk_ R_M 37 R_M T_M 25 23 := ⟨uw_M, by decide, wf_M_37⟩
theorem fl_M_40 : fk_ R_M 40 R_M T_M 25 24 := ⟨uw_M, by decide, wf_M_40⟩
theorem wc_X_init : Cond.code y_X_init c_X_init 1 none ∈ mt_T := mt_in1 27 (by decide +kernel) rfl
theorem wi_X : Cond.initialized R_X ∈ mt_T := mt_in1 1 (by decide +kernel) rfl
theorem wm_L_39 : Cond.methodLink R_L 39 y_X_init ∈ mt_T := mt_in1 25 (by decide +kernel) rfl
theorem wc_B_init : Cond.code y_B_init c_B_init 2 none ∈ mt_T := mt_in1 35 (by decide +kernel) rfl
theorem wi_B : Cond.initialized R_B ∈ mt_T := mt_in1 2 (by decide +kernel) rfl
theorem wm_X_11 : Cond.methodLink R_X 11 y_B_init ∈ mt_T := mt_in1 33 (by decide +kernel) rfl
theorem wc_T_init : Cond.code y_T_init c_T_init 2 none ∈ mt_T := mt_in1 57 (by decide +kernel) rfl
theorem wi_T : Cond.initialized R_T ∈ mt_T := mt_in1 3 (by decide +kernel) rfl
theorem wm_X_23 : Cond.methodLink R_X 23 y_T_init ∈ mt_T := mt_in1 55 (by decide +kernel) rfl
theorem wm_T_11 : Cond.methodLink R_T 11 y_B_init ∈ mt_T := mt_in1 60 (by decide +kernel) rfl
theorem wc_S_init : Cond.code y_S_init c_S_init 2 none ∈ mt_T := mt_in1 65 (by decide +kernel) rfl
theorem wi_S : Cond.initialized R_S ∈ mt_T := mt_in1 4 (by decide +kernel) rfl
theorem wm_T_31 : Cond.methodLink R_T 31 y_S_init ∈ mt_T := mt_in1 63 (by decide +kernel) rfl
theorem wm_S_17 : Cond.methodLink R_S 17 y_B_init ∈ mt_T := mt_in1 68 (by decide +kernel) rfl
theorem wc_D_init : Cond.code y_D_init c_D_init 3 none ∈ mt_T := mt_in1 93 (by decide +kernel) rfl
theorem wi_D : Cond.initialized R_D ∈ mt_T := mt_in1 5 (by decide +kernel) rfl
theorem wm_T_40 : Cond.methodLink R_T 40 y_D_init ∈ mt_T := mt_in1 91 (by decide +kernel) rfl
theorem wc_E_init : Cond.code y_E_init c_E_init 2 none ∈ mt_T := mt_in1 107 (by decide +kernel) rfl
theorem wi_E : Cond.initialized R_E ∈ mt_T := mt_in1 6 (by decide +kernel) rfl
theorem wm_T_53 : Cond.methodLink R_T 53 y_E_init ∈ mt_T := mt_in1 105 (by decide +kernel) rfl
theorem wc_F_init : Cond.code y_F_init c_F_init 1 none ∈ mt_T := mt_in1 114 (by decide +kernel) rfl
theorem wi_F : Cond.initialized R_F ∈ mt_T := mt_in1 7 (by decide +kernel) rfl
theorem wc_P_init : Cond.code y_P_init c_P_init 2 none ∈ mt_T := mt_in2 20 (by decide +kernel) rfl
theorem wi_P : Cond.initialized R_P ∈ mt_T := mt_in1 8 (by decide +kernel) rfl
theorem wm_X_30 : Cond.methodLink R_X 30 y_P_init ∈ mt_T := mt_in2 18 (by decide +kernel) rfl
theorem wm_P_17 : Cond.methodLink R_P 17 y_B_init ∈ mt_T := mt_in2 23 (by decide +kernel) rfl
theorem wc_X_feed : Cond.code y_X_feed c_X_feed 5 (some .boolean) ∈ mt_T := mt_in2 48 (by decide +kernel) rfl
theorem wm_L_45 : Cond.methodLink R_L 45 y_X_feed ∈ mt_T := mt_in2 45 (by decide +kernel) rfl
theorem wn_X_feed : Cond.instanceMethod y_X_feed ∈ mt_T := mt_in2 46 (by decide +kernel) rfl
theorem ws_X_feed : Cond.selects R_X y_X_feed y_X_feed ∈ mt_T := mt_in2 47 (by decide +kernel) rfl
theorem cv_L_45 : cV_ R_L 45 y_X_feed c_X_feed 5 (some .boolean) 2 := ⟨fa5 wm_L_45 wn_X_feed ws_X_feed wi_X wc_X_feed, by decide, by decide, by decide +kernel⟩
theorem wc_B_put : Cond.code y_B_put c_B_put 2 none ∈ mt_T := mt_in2 52 (by decide +kernel) rfl
theorem wm_X_41 : Cond.methodLink R_X 41 y_B_put ∈ mt_T := mt_in2 49 (by decide +kernel) rfl
theorem wn_B_put : Cond.instanceMethod y_B_put ∈ mt_T := mt_in2 50 (by decide +kernel) rfl
theorem ws_B_put : Cond.selects R_B y_B_put y_B_put ∈ mt_T := mt_in2 51 (by decide +kernel) rfl
theorem cv_X_41 : cV_ R_X 41 y_B_put c_B_put 2 none 1 := ⟨fa5 wm_X_41 wn_B_put ws_B_put wi_B wc_B_put, by decide, by decide, by decide +kernel⟩
theorem wc_X_clear : Cond.code y_X_clear c_X_clear 2 (some .int) ∈ mt_T := mt_in2 56 (by decide +kernel) rfl
theorem wm_L_50 : Cond.methodLink R_L 50 y_X_clear ∈ mt_T := mt_in2 53 (by decide +kernel) rfl
theorem wn_X_clear : Cond.instanceMethod y_X_clear ∈ mt_T := mt_in2 54 (by decide +kernel) rfl
theorem ws_X_clear : Cond.selects R_X y_X_clear y_X_clear ∈ mt_T := mt_in2 55 (by decide +kernel) rfl
theorem cv_L_50 : cV_ R_L 50 y_X_clear c_X_clear 2 (some .int) 0 := ⟨fa5 wm_L_50 wn_X_clear ws_X_clear wi_X wc_X_clear, by decide, by decide, by decide +kernel⟩
theorem wc_B_empty : Cond.code y_B_empty c_B_empty 1 none ∈ mt_T := mt_in2 60 (by decide +kernel) rfl
theorem wm_X_44 : Cond.methodLink R_X 44 y_B_empty ∈ mt_T := mt_in2 57 (by decide +kernel) rfl
theorem wn_B_empty : Cond.instanceMethod y_B_empty ∈ mt_T := mt_in2 58 (by decide +kernel) rfl
theorem ws_B_empty : Cond.selects R_B y_B_empty y_B_empty ∈ mt_T := mt_in2 59 (by decide +kernel) rfl
theorem cv_X_44 : cV_ R_X 44 y_B_empty c_B_empty 1 none 0 := ⟨fa5 wm_X_44 wn_B_empty ws_B_empty wi_B wc_B_empty, by decide, by decide, by decide +kernel⟩
theorem wc_X_read : Cond.code y_X_read c_X_read 1 (some .int) ∈ mt_T := mt_in2 64 (by decide +kernel) rfl
theorem wm_L_54 : Cond.methodLink R_L 54 y_X_read ∈ mt_T := mt_in2 61 (by decide +kernel) rfl
theorem wn_X_read : Cond.instanceMethod y_X_read ∈ mt_T := mt_in2 62 (by decide +kernel) rfl
theorem ws_X_read : Cond.selects R_X y_X_read y_X_read ∈ mt_T := mt_in2 63 (by decide +kernel) rfl
theorem cv_L_54 : cV_ R_L 54 y_X_read c_X_read 1 (some .int) 0 := ⟨fa5 wm_L_54 wn_X_read ws_X_read wi_X wc_X_read, by decide, by decide, by decide +kernel⟩
theorem wc_T_start : Cond.code y_T_start c_T_start 2 none ∈ mt_T := mt_in2 68 (by decide +kernel) rfl
theorem wm_X_47 : Cond.methodLink R_X 47 y_T_start ∈ mt_T := mt_in2 65 (by decide +kernel) rfl
theorem wn_T_start : Cond.instanceMethod y_T_start ∈ mt_T := mt_in2 66 (by decide +kernel) rfl
theorem ws_T_start : Cond.selects R_T y_T_start y_T_start ∈ mt_T := mt_in2 67 (by decide +kernel) rfl
theorem cv_X_47 : cV_ R_X 47 y_T_start c_T_start 2 none 1 := ⟨fa5 wm_X_47 wn_T_start ws_T_start wi_T wc_T_start, by decide, by decide, by decide +kernel⟩
theorem wm_T_65 : Cond.methodLink R_T 65 y_B_empty ∈ mt_T := mt_in2 69 (by decide +kernel) rfl
theorem cv_T_65 : cV_ R_T 65 y_B_empty c_B_empty 1 none 0 := ⟨fa5 wm_T_65 wn_B_empty ws_B_empty wi_B wc_B_empty, by decide, by decide, by decide +kernel⟩
theorem wc_B_putRange : Cond.code y_B_putRange c_B_putRange 5 none ∈ mt_T := mt_in2 73 (by decide +kernel) rfl
theorem wm_T_71 : Cond.methodLink R_T 71 y_B_putRange ∈ mt_T := mt_in2 70 (by decide +kernel) rfl
theorem wn_B_putRange : Cond.instanceMethod y_B_putRange ∈ mt_T := mt_in2 71 (by decide +kernel) rfl
theorem ws_B_putRange : Cond.selects R_B y_B_putRange y_B_putRange ∈ mt_T := mt_in2 72 (by decide +kernel) rfl
theorem cv_T_71 : cV_ R_T 71 y_B_putRange c_B_putRange 5 none 3 := ⟨fa5 wm_T_71 wn_B_putRange ws_B_putRange wi_B wc_B_putRange, by decide, by decide, by decide +kernel⟩
theorem wc_B_at : Cond.code y_B_at c_B_at 2 (some .int) ∈ mt_T := mt_in2 77 (by decide +kernel) rfl
theorem wm_B_23 : Cond.methodLink R_B 23 y_B_at ∈ mt_T := mt_in2 74 (by decide +kernel) rfl
theorem wn_B_at : Cond.instanceMethod y_B_at ∈ mt_T := mt_in2 75 (by decide +kernel) rfl
theorem ws_B_at : Cond.selects R_B y_B_at y_B_at ∈ mt_T := mt_in2 76 (by decide +kernel) rfl
theorem cv_B_23 : cV_ R_B 23 y_B_at c_B_at 2 (some .int) 1 := ⟨fa5 wm_B_23 wn_B_at ws_B_at wi_B wc_B_at, by decide, by decide, by decide +kernel⟩
theorem wm_B_27 : Cond.methodLink R_B 27 y_B_put ∈ mt_T := mt_in2 78 (by decide +kernel) rfl
theorem cv_B_27 : cV_ R_B 27 y_B_put c_B_put 2 none 1 := ⟨fa5 wm_B_27 wn_B_put ws_B_put wi_B wc_B_put, by decide, by decide, by decide +kernel⟩
theorem wc_T_readEntity : Cond.code y_T_readEntity c_T_readEntity 7 none ∈ mt_T := mt_in2 82 (by decide +kernel) rfl
theorem wm_X_51 : Cond.methodLink R_X 51 y_T_readEntity ∈ mt_T := mt_in2 79 (by decide +kernel) rfl
theorem wn_T_readEntity : Cond.instanceMethod y_T_readEntity ∈ mt_T := mt_in2 80 (by decide +kernel) rfl
theorem ws_T_readEntity : Cond.selects R_T y_T_readEntity y_T_readEntity ∈ mt_T := mt_in2 81 (by decide +kernel) rfl
theorem cv_X_51 : cV_ R_X 51 y_T_readEntity c_T_readEntity 7 none 4 := ⟨fa5 wm_X_51 wn_T_readEntity ws_T_readEntity wi_T wc_T_readEntity, by decide, by decide, by decide +kernel⟩
theorem wc_E_start : Cond.code y_E_start c_E_start 5 none ∈ mt_T := mt_in2 86 (by decide +kernel) rfl
theorem wm_T_75 : Cond.methodLink R_T 75 y_E_start ∈ mt_T := mt_in2 83 (by decide +kernel) rfl
theorem wn_E_start : Cond.instanceMethod y_E_start ∈ mt_T := mt_in2 84 (by decide +kernel) rfl
theorem ws_E_start : Cond.selects R_E y_E_start y_E_start ∈ mt_T := mt_in2 85 (by decide +kernel) rfl
theorem cv_T_75 : cV_ R_T 75 y_E_start c_E_start 5 none 4 := ⟨fa5 wm_T_75 wn_E_start ws_E_start wi_E wc_E_start, by decide, by decide, by decide +kernel⟩
theorem wc_T_readFields : Cond.code y_T_readFields c_T_readFields 7 (some .int) ∈ mt_T := mt_in2 90 (by decide +kernel) rfl
theorem wm_T_82 : Cond.methodLink R_T 82 y_T_readFields ∈ mt_T := mt_in2 87 (by decide +kernel) rfl
theorem wn_T_readFields : Cond.instanceMethod y_T_readFields ∈ mt_T := mt_in2 89 (by decide +kernel) rfl
theorem ws_T_readFields : Cond.selects R_T y_T_readFields y_T_readFields ∈ mt_T := mt_inp 0 (by decide +kernel) rfl
theorem cv_T_82 : cV_ R_T 82 y_T_readFields c_T_readFields 7 (some .int) 1 := ⟨fa5 wm_T_82 wn_T_readFields ws_T_readFields wi_T wc_T_readFields, by decide, by decide, by decide +kernel⟩
theorem wc_B_lineEnd : Cond.code y_B_lineEnd c_B_lineEnd 4 (some .int) ∈ mt_T := mt_in2 94 (by decide +kernel) rfl
theorem wm_T_122 : Cond.methodLink R_T 122 y_B_lineEnd ∈ mt_T := mt_in2 91 (by decide +kernel) rfl
theorem wn_B_lineEnd : Cond.instanceMethod y_B_lineEnd ∈ mt_T := mt_in2 92 (by decide +kernel) rfl
theorem ws_B_lineEnd : Cond.selects R_B y_B_lineEnd y_B_lineEnd ∈ mt_T := mt_in2 93 (by decide +kernel) rfl
theorem cv_T_122 : cV_ R_T 122 y_B_lineEnd c_B_lineEnd 4 (some .int) 2 := ⟨fa5 wm_T_122 wn_B_lineEnd ws_B_lineEnd wi_B wc_B_lineEnd, by decide, by decide, by decide +kernel⟩
theorem wc_B_textEnd : Cond.code y_B_textEnd c_B_textEnd 4 (some .int) ∈ mt_T := mt_in2 98 (by decide +kernel) rfl
theorem wm_T_126 : Cond.methodLink R_T 126 y_B_textEnd ∈ mt_T := mt_in2 95 (by decide +kernel) rfl
theorem wn_B_textEnd : Cond.instanceMethod y_B_textEnd ∈ mt_T := mt_in2 96 (by decide +kernel) rfl
theorem ws_B_textEnd : Cond.selects R_B y_B_textEnd y_B_textEnd ∈ mt_T := mt_in2 97 (by decide +kernel) rfl
theorem cv_T_126 : cV_ R_T 126 y_B_textEnd c_B_textEnd 4 (some .int) 2 := ⟨fa5 wm_T_126 wn_B_textEnd ws_B_textEnd wi_B wc_B_textEnd, by decide, by decide, by decide +kernel⟩
theorem wm_T_129 : Cond.methodLink R_T 129 y_B_at ∈ mt_T := mt_in2 99 (by decide +kernel) rfl
theorem cv_T_129 : cV_ R_T 129 y_B_at c_B_at 2 (some .int) 1 := ⟨fa5 wm_T_129 wn_B_at ws_B_at wi_B wc_B_at, by decide, by decide, by decide +kernel⟩
theorem wc_X_isBlank : Cond.code y_X_isBlank c_X_isBlank 1 (some .boolean) ∈ mt_T := mt_in2 102 (by decide +kernel) rfl
theorem wt_X_isBlank : Cond.static y_X_isBlank ∈ mt_T := mt_in2 101 (by decide +kernel) rfl
theorem cv_T_133 : cN_ R_T 133 y_X_isBlank c_X_isBlank 1 (some .boolean) 1 := ⟨fa3 wt_X_isBlank wi_X wc_X_isBlank, ⟨by decide, by decide, by decide +kernel⟩, "MailTree", List.mem_filter.mpr ⟨mt_tb2 (List.mem_of_getElem? (i := 100) (by decide +kernel)), rfl⟩⟩
theorem wc_T_goOnWithField : Cond.code y_T_goOnWithField c_T_goOnWithField 5 (some .boolean) ∈ mt_T := mt_in2 106 (by decide +kernel) rfl
theorem wm_T_137 : Cond.methodLink R_T 137 y_T_goOnWithField ∈ mt_T := mt_in2 103 (by decide +kernel) rfl
theorem wn_T_goOnWithField : Cond.instanceMethod y_T_goOnWithField ∈ mt_T := mt_in2 105 (by decide +kernel) rfl
theorem ws_T_goOnWithField : Cond.selects R_T y_T_goOnWithField y_T_goOnWithField ∈ mt_T := mt_inp 1 (by decide +kernel) rfl
theorem cv_T_137 : cV_ R_T 137 y_T_goOnWithField c_T_goOnWithField 5 (some .boolean) 3 := ⟨fa5 wm_T_137 wn_T_goOnWithField ws_T_goOnWithField wi_T wc_T_goOnWithField, by decide, by decide, by decide +kernel⟩
theorem wc_T_beginField : Cond.code y_T_beginField c_T_beginField 8 (some .boolean) ∈ mt_T := mt_in2 110 (by decide +kernel) rfl
theorem wm_T_141 : Cond.methodLink R_T 141 y_T_beginField ∈ mt_T := mt_in2 107 (by decide +kernel) rfl
theorem wn_T_beginField : Cond.instanceMethod y_T_beginField ∈ mt_T := mt_in2 109 (by decide +kernel) rfl
theorem ws_T_beginField : Cond.selects R_T y_T_beginField y_T_beginField ∈ mt_T := mt_inp 2 (by decide +kernel) rfl
theorem cv_T_141 : cV_ R_T 141 y_T_beginField c_T_beginField 8 (some .boolean) 3 := ⟨fa5 wm_T_141 wn_T_beginField ws_T_beginField wi_T wc_T_beginField, by decide, by decide, by decide +kernel⟩
theorem wc_X_isNameByte : Cond.code y_X_isNameByte c_X_isNameByte 1 (some .boolean) ∈ mt_T := mt_in2 113 (by decide +kernel) rfl
theorem wt_X_isNameByte : Cond.static y_X_isNameByte ∈ mt_T := mt_in2 112 (by decide +kernel) rfl
theorem cv_T_156 : cN_ R_T 156 y_X_isNameByte c_X_isNameByte 1 (some .boolean) 1 := ⟨fa3 wt_X_isNameByte wi_X wc_X_isNameByte, ⟨by decide, by decide, by decide +kernel⟩, "MailTree", List.mem_filter.mpr ⟨mt_tb2 (List.mem_of_getElem? (i := 111) (by decide +kernel)), rfl⟩⟩
theorem wc_T_trimValues : Cond.code y_T_trimValues c_T_trimValues 7 none ∈ mt_T := mt_in2 117 (by decide +kernel) rfl
theorem wm_T_89 : Cond.methodLink R_T 89 y_T_trimValues ∈ mt_T := mt_in2 114 (by decide +kernel) rfl
theorem wn_T_trimValues : Cond.instanceMethod y_T_trimValues ∈ mt_T := mt_in2 116 (by decide +kernel) rfl
theorem ws_T_trimValues : Cond.selects R_T y_T_trimValues y_T_trimValues ∈ mt_T := mt_inp 3 (by decide +kernel) rfl
theorem cv_T_89 : cV_ R_T 89 y_T_trimValues c_T_trimValues 7 none 1 := ⟨fa5 wm_T_89 wn_T_trimValues ws_T_trimValues wi_T wc_T_trimValues, by decide, by decide, by decide +kernel⟩
theorem wc_B_skipBlanks : Cond.code y_B_skipBlanks c_B_skipBlanks 4 (some .int) ∈ mt_T := mt_in2 121 (by decide +kernel) rfl
theorem wm_T_168 : Cond.methodLink R_T 168 y_B_skipBlanks ∈ mt_T := mt_in2 118 (by decide +kernel) rfl
theorem wn_B_skipBlanks : Cond.instanceMethod y_B_skipBlanks ∈ mt_T := mt_in2 119 (by decide +kernel) rfl
theorem ws_B_skipBlanks : Cond.selects R_B y_B_skipBlanks y_B_skipBlanks ∈ mt_T := mt_in2 120 (by decide +kernel) rfl
theorem cv_T_168 : cV_ R_T 168 y_B_skipBlanks c_B_skipBlanks 4 (some .int) 2 := ⟨fa5 wm_T_168 wn_B_skipBlanks ws_B_skipBlanks wi_B wc_B_skipBlanks, by decide, by decide, by decide +kernel⟩
theorem cv_B_44 : cN_ R_B 44 y_X_isBlank c_X_isBlank 1 (some .boolean) 1 := ⟨fa3 wt_X_isBlank wi_X wc_X_isBlank, ⟨by decide, by decide, by decide +kernel⟩, "MailTree", List.mem_filter.mpr ⟨mt_tb2 (List.mem_of_getElem? (i := 122) (by decide +kernel)), rfl⟩⟩
theorem wc_T_readEncoding : Cond.code y_T_readEncoding c_T_readEncoding 3 none ∈ mt_T := mt_in2 126 (by decide +kernel) rfl
theorem wm_T_93 : Cond.methodLink R_T 93 y_T_readEncoding ∈ mt_T := mt_in2 123 (by decide +kernel) rfl
theorem wn_T_readEncoding : Cond.instanceMethod y_T_readEncoding ∈ mt_T := mt_in2 125 (by decide +kernel) rfl
theorem ws_T_readEncoding : Cond.selects R_T y_T_readEncoding y_T_readEncoding ∈ mt_T := mt_inp 4 (by decide +kernel) rfl
theorem cv_T_93 : cV_ R_T 93 y_T_readEncoding c_T_readEncoding 3 none 1 := ⟨fa5 wm_T_93 wn_T_readEncoding ws_T_readEncoding wi_T wc_T_readEncoding, by decide, by decide, by decide +kernel⟩
theorem wc_T_fieldNamed : Cond.code y_T_fieldNamed c_T_fieldNamed 5 (some (.object "MailTree$Field")) ∈ mt_T := mt_in2 131 (by decide +kernel) rfl
theorem wm_T_177 : Cond.methodLink R_T 177 y_T_fieldNamed ∈ mt_T := mt_in2 128 (by decide +kernel) rfl
theorem wn_T_fieldNamed : Cond.instanceMethod y_T_fieldNamed ∈ mt_T := mt_in2 130 (by decide +kernel) rfl
theorem ws_T_fieldNamed : Cond.selects R_T y_T_fieldNamed y_T_fieldNamed ∈ mt_T := mt_inp 5 (by decide +kernel) rfl
theorem cv_T_177 : cV_ R_T 177 y_T_fieldNamed c_T_fieldNamed 5 (some (.object "MailTree$Field")) 2 := ⟨fa5 wm_T_177 wn_T_fieldNamed ws_T_fieldNamed wi_T wc_T_fieldNamed, by decide, by decide, by decide +kernel⟩
theorem wc_B_spells : Cond.code y_B_spells c_B_spells 5 (some .boolean) ∈ mt_T := mt_in2 135 (by decide +kernel) rfl
theorem wm_T_171 : Cond.methodLink R_T 171 y_B_spells ∈ mt_T := mt_in2 132 (by decide +kernel) rfl
theorem wn_B_spells : Cond.instanceMethod y_B_spells ∈ mt_T := mt_in2 133 (by decide +kernel) rfl
theorem ws_B_spells : Cond.selects R_B y_B_spells y_B_spells ∈ mt_T := mt_in2 134 (by decide +kernel) rfl
theorem cv_T_171 : cV_ R_T 171 y_B_spells c_B_spells 5 (some .boolean) 3 := ⟨fa5 wm_T_171 wn_B_spells ws_B_spells wi_B wc_B_spells, by decide, by decide, by decide +kernel⟩
theorem wc_X_small : Cond.code y_X_small c_X_small 1 (some .int) ∈ mt_T := mt_in2 148 (by decide +kernel) rfl
theorem wt_X_small : Cond.static y_X_small ∈ mt_T := mt_in2 147 (by decide +kernel) rfl
theorem cv_B_41 : cN_ R_B 41 y_X_small c_X_small 1 (some .int) 1 := ⟨fa3 wt_X_small wi_X wc_X_small, ⟨by decide, by decide, by decide +kernel⟩, "MailTree", List.mem_filter.mpr ⟨mt_tb2 (List.mem_of_getElem? (i := 146) (by decide +kernel)), rfl⟩⟩
theorem wc_S_start : Cond.code y_S_start c_S_start 2 none ∈ mt_T := mt_in2 190 (by decide +kernel) rfl
theorem wm_T_181 : Cond.methodLink R_T 181 y_S_start ∈ mt_T := mt_in2 187 (by decide +kernel) rfl
theorem wn_S_start : Cond.instanceMethod y_S_start ∈ mt_T := mt_in2 188 (by decide +kernel) rfl
theorem ws_S_start : Cond.selects R_S y_S_start y_S_start ∈ mt_T := mt_in2 189 (by decide +kernel) rfl
theorem cv_T_181 : cV_ R_T 181 y_S_start c_S_start 2 none 1 := ⟨fa5 wm_T_181 wn_S_start ws_S_start wi_S wc_S_start, by decide, by decide, by decide +kernel⟩
theorem wc_S_skipSpace : Cond.code y_S_skipSpace c_S_skipSpace 3 none ∈ mt_T := mt_in2 194 (by decide +kernel) rfl
theorem wm_T_184 : Cond.methodLink R_T 184 y_S_skipSpace ∈ mt_T := mt_in2 191 (by decide +kernel) rfl
theorem wn_S_skipSpace : Cond.instanceMethod y_S_skipSpace ∈ mt_T := mt_in2 192 (by decide +kernel) rfl
theorem ws_S_skipSpace : Cond.selects R_S y_S_skipSpace y_S_skipSpace ∈ mt_T := mt_in2 193 (by decide +kernel) rfl
theorem cv_T_184 : cV_ R_T 184 y_S_skipSpace c_S_skipSpace 3 none 0 := ⟨fa5 wm_T_184 wn_S_skipSpace ws_S_skipSpace wi_S wc_S_skipSpace, by decide, by decide, by decide +kernel⟩
theorem wm_S_38 : Cond.methodLink R_S 38 y_B_at ∈ mt_T := mt_in2 195 (by decide +kernel) rfl
theorem cv_S_38 : cV_ R_S 38 y_B_at c_B_at 2 (some .int) 1 := ⟨fa5 wm_S_38 wn_B_at ws_B_at wi_B wc_B_at, by decide, by decide, by decide +kernel⟩
theorem cv_S_42 : cN_ R_S 42 y_X_isBlank c_X_isBlank 1 (some .boolean) 1 := ⟨fa3 wt_X_isBlank wi_X wc_X_isBlank, ⟨by decide, by decide, by decide +kernel⟩, "MailTree", List.mem_filter.mpr ⟨mt_tb2 (List.mem_of_getElem? (i := 196) (by decide +kernel)), rfl⟩⟩
theorem wc_S_takeAtom : Cond.code y_S_takeAtom c_S_takeAtom 1 (some .boolean) ∈ mt_T := mt_in2 200 (by decide +kernel) rfl
theorem wm_T_187 : Cond.methodLink R_T 187 y_S_takeAtom ∈ mt_T := mt_in2 197 (by decide +kernel) rfl
theorem wn_S_takeAtom : Cond.instanceMethod y_S_takeAtom ∈ mt_T := mt_in2 198 (by decide +kernel) rfl
theorem ws_S_takeAtom : Cond.selects R_S y_S_takeAtom y_S_takeAtom ∈ mt_T := mt_in2 199 (by decide +kernel) rfl
theorem cv_T_187 : cV_ R_T 187 y_S_takeAtom c_S_takeAtom 1 (some .boolean) 0 := ⟨fa5 wm_T_187 wn_S_takeAtom ws_S_takeAtom wi_S wc_S_takeAtom, by decide, by decide, by decide +kernel⟩
theorem wm_S_46 : Cond.methodLink R_S 46 y_B_empty ∈ mt_T := mt_in2 201 (by decide +kernel) rfl
theorem cv_S_46 : cV_ R_S 46 y_B_empty c_B_empty 1 none 0 := ⟨fa5 wm_S_46 wn_B_empty ws_B_empty wi_B wc_B_empty, by decide, by decide, by decide +kernel⟩
theorem wc_X_isAtomByte : Cond.code y_X_isAtomByte c_X_isAtomByte 1 (some .boolean) ∈ mt_T := mt_in2 204 (by decide +kernel) rfl
theorem wt_X_isAtomByte : Cond.static y_X_isAtomByte ∈ mt_T := mt_in2 203 (by decide +kernel) rfl
theorem cv_S_49 : cN_ R_S 49 y_X_isAtomByte c_X_isAtomByte 1 (some .boolean) 1 := ⟨fa3 wt_X_isAtomByte wi_X wc_X_isAtomByte, ⟨by decide, by decide, by decide +kernel⟩, "MailTree", List.mem_filter.mpr ⟨mt_tb2 (List.mem_of_getElem? (i := 202) (by decide +kernel)), rfl⟩⟩
theorem wm_S_52 : Cond.methodLink R_S 52 y_B_put ∈ mt_T := mt_in3 25 (by decide +kernel) rfl
theorem cv_S_52 : cV_ R_S 52 y_B_put c_B_put 2 none 1 := ⟨fa5 wm_S_52 wn_B_put ws_B_put wi_B wc_B_put, by decide, by decide, by decide +kernel⟩
theorem wc_S_wordIs : Cond.code y_S_wordIs c_S_wordIs 2 (some .boolean) ∈ mt_T := mt_in3 30 (by decide +kernel) rfl
theorem wm_T_197 : Cond.methodLink R_T 197 y_S_wordIs ∈ mt_T := mt_in3 27 (by decide +kernel) rfl
theorem wn_S_wordIs : Cond.instanceMethod y_S_wordIs ∈ mt_T := mt_in3 28 (by decide +kernel) rfl
theorem ws_S_wordIs : Cond.selects R_S y_S_wordIs y_S_wordIs ∈ mt_T := mt_in3 29 (by decide +kernel) rfl
theorem cv_T_197 : cV_ R_T 197 y_S_wordIs c_S_wordIs 2 (some .boolean) 1 := ⟨fa5 wm_T_197 wn_S_wordIs ws_S_wordIs wi_S wc_S_wordIs, by decide, by decide, by decide +kernel⟩
theorem wm_S_81 : Cond.methodLink R_S 81 y_B_spells ∈ mt_T := mt_in3 31 (by decide +kernel) rfl
theorem cv_S_81 : cV_ R_S 81 y_B_spells c_B_spells 5 (some .boolean) 3 := ⟨fa5 wm_S_81 wn_B_spells ws_B_spells wi_B wc_B_spells, by decide, by decide, by decide +kernel⟩
theorem wc_T_readKind : Cond.code y_T_readKind c_T_readKind 5 (some .boolean) ∈ mt_T := mt_in3 36 (by decide +kernel) rfl
theorem wm_T_96 : Cond.methodLink R_T 96 y_T_readKind ∈ mt_T := mt_in3 33 (by decide +kernel) rfl
theorem wn_T_readKind : Cond.instanceMethod y_T_readKind ∈ mt_T := mt_in3 35 (by decide +kernel) rfl
theorem ws_T_readKind : Cond.selects R_T y_T_readKind y_T_readKind ∈ mt_T := mt_inp 6 (by decide +kernel) rfl
theorem cv_T_96 : cV_ R_T 96 y_T_readKind c_T_readKind 5 (some .boolean) 1 := ⟨fa5 wm_T_96 wn_T_readKind ws_T_readKind wi_T wc_T_readKind, by decide, by decide, by decide +kernel⟩
theorem wc_S_take : Cond.code y_S_take c_S_take 2 (some .boolean) ∈ mt_T := mt_in3 43 (by decide +kernel) rfl
theorem wm_T_212 : Cond.methodLink R_T 212 y_S_take ∈ mt_T := mt_in3 40 (by decide +kernel) rfl
theorem wn_S_take : Cond.instanceMethod y_S_take ∈ mt_T := mt_in3 41 (by decide +kernel) rfl
theorem ws_S_take : Cond.selects R_S y_S_take y_S_take ∈ mt_T := mt_in3 42 (by decide +kernel) rfl
theorem cv_T_212 : cV_ R_T 212 y_S_take c_S_take 2 (some .boolean) 1 := ⟨fa5 wm_T_212 wn_S_take ws_S_take wi_S wc_S_take, by decide, by decide, by decide +kernel⟩
theorem wc_T_readBoundary : Cond.code y_T_readBoundary c_T_readBoundary 4 none ∈ mt_T := mt_in3 48 (by decide +kernel) rfl
theorem wm_T_100 : Cond.methodLink R_T 100 y_T_readBoundary ∈ mt_T := mt_in3 45 (by decide +kernel) rfl
theorem wn_T_readBoundary : Cond.instanceMethod y_T_readBoundary ∈ mt_T := mt_in3 47 (by decide +kernel) rfl
theorem ws_T_readBoundary : Cond.selects R_T y_T_readBoundary y_T_readBoundary ∈ mt_T := mt_inp 7 (by decide +kernel) rfl
theorem cv_T_100 : cV_ R_T 100 y_T_readBoundary c_T_readBoundary 4 none 1 := ⟨fa5 wm_T_100 wn_T_readBoundary ws_T_readBoundary wi_T wc_T_readBoundary, by decide, by decide, by decide +kernel⟩
theorem wc_S_takeParameter : Cond.code y_S_takeParameter c_S_takeParameter 1 (some .boolean) ∈ mt_T := mt_in3 52 (by decide +kernel) rfl
theorem wm_T_217 : Cond.methodLink R_T 217 y_S_takeParameter ∈ mt_T := mt_in3 49 (by decide +kernel) rfl
theorem wn_S_takeParameter : Cond.instanceMethod y_S_takeParameter ∈ mt_T := mt_in3 50 (by decide +kernel) rfl
theorem ws_S_takeParameter : Cond.selects R_S y_S_takeParameter y_S_takeParameter ∈ mt_T := mt_in3 51 (by decide +kernel) rfl
theorem cv_T_217 : cV_ R_T 217 y_S_takeParameter c_S_takeParameter 1 (some .boolean) 0 := ⟨fa5 wm_T_217 wn_S_takeParameter ws_S_takeParameter wi_S wc_S_takeParameter, by decide, by decide, by decide +kernel⟩
theorem wm_S_58 : Cond.methodLink R_S 58 y_S_take ∈ mt_T := mt_in3 53 (by decide +kernel) rfl
theorem cv_S_58 : cV_ R_S 58 y_S_take c_S_take 2 (some .boolean) 1 := ⟨fa5 wm_S_58 wn_S_take ws_S_take wi_S wc_S_take, by decide, by decide, by decide +kernel⟩
theorem wm_S_65 : Cond.methodLink R_S 65 y_S_skipSpace ∈ mt_T := mt_in3 54 (by decide +kernel) rfl
theorem cv_S_65 : cV_ R_S 65 y_S_skipSpace c_S_skipSpace 3 none 0 := ⟨fa5 wm_S_65 wn_S_skipSpace ws_S_skipSpace wi_S wc_S_skipSpace, by decide, by decide, by decide +kernel⟩
theorem wm_S_68 : Cond.methodLink R_S 68 y_S_takeAtom ∈ mt_T := mt_in3 55 (by decide +kernel) rfl
theorem cv_S_68 : cV_ R_S 68 y_S_takeAtom c_S_takeAtom 1 (some .boolean) 0 := ⟨fa5 wm_S_68 wn_S_takeAtom ws_S_takeAtom wi_S wc_S_takeAtom, by decide, by decide, by decide +kernel⟩
theorem wm_S_74 : Cond.methodLink R_S 74 y_S_wordIs ∈ mt_T := mt_in3 57 (by decide +kernel) rfl
theorem cv_S_74 : cV_ R_S 74 y_S_wordIs c_S_wordIs 2 (some .boolean) 1 := ⟨fa5 wm_S_74 wn_S_wordIs ws_S_wordIs wi_S wc_S_wordIs, by decide, by decide, by decide +kernel⟩
theorem wc_S_takeQuoted : Cond.code y_S_takeQuoted c_S_takeQuoted 1 (some .boolean) ∈ mt_T := mt_in3 61 (by decide +kernel) rfl
theorem wm_S_78 : Cond.methodLink R_S 78 y_S_takeQuoted ∈ mt_T := mt_in3 58 (by decide +kernel) rfl
theorem wn_S_takeQuoted : Cond.instanceMethod y_S_takeQuoted ∈ mt_T := mt_in3 59 (by decide +kernel) rfl
theorem ws_S_takeQuoted : Cond.selects R_S y_S_takeQuoted y_S_takeQuoted ∈ mt_T := mt_in3 60 (by decide +kernel) rfl
theorem cv_S_78 : cV_ R_S 78 y_S_takeQuoted c_S_takeQuoted 1 (some .boolean) 0 := ⟨fa5 wm_S_78 wn_S_takeQuoted ws_S_takeQuoted wi_S wc_S_takeQuoted, by decide, by decide, by decide +kernel⟩
theorem wc_S_wordCanBeBoundary : Cond.code y_S_wordCanBeBoundary c_S_wordCanBeBoundary 2 (some .boolean) ∈ mt_T := mt_in3 65 (by decide +kernel) rfl
theorem wm_T_224 : Cond.methodLink R_T 224 y_S_wordCanBeBoundary ∈ mt_T := mt_in3 62 (by decide +kernel) rfl
theorem wn_S_wordCanBeBoundary : Cond.instanceMethod y_S_wordCanBeBoundary ∈ mt_T := mt_in3 63 (by decide +kernel) rfl
theorem ws_S_wordCanBeBoundary : Cond.selects R_S y_S_wordCanBeBoundary y_S_wordCanBeBoundary ∈ mt_T := mt_in3 64 (by decide +kernel) rfl
theorem cv_T_224 : cV_ R_T 224 y_S_wordCanBeBoundary c_S_wordCanBeBoundary 2 (some .boolean) 0 := ⟨fa5 wm_T_224 wn_S_wordCanBeBoundary ws_S_wordCanBeBoundary wi_S wc_S_wordCanBeBoundary, by decide, by decide, by decide +kernel⟩
theorem wc_D_decode : Cond.code y_D_decode c_D_decode 2 none ∈ mt_T := mt_in3 69 (by decide +kernel) rfl
theorem wm_T_106 : Cond.methodLink R_T 106 y_D_decode ∈ mt_T := mt_in3 66 (by decide +kernel) rfl
theorem wn_D_decode : Cond.instanceMethod y_D_decode ∈ mt_T := mt_in3 67 (by decide +kernel) rfl
theorem ws_D_decode : Cond.selects R_D y_D_decode y_D_decode ∈ mt_T := mt_in3 68 (by decide +kernel) rfl
theorem cv_T_106 : cV_ R_T 106 y_D_decode c_D_decode 2 none 1 := ⟨fa5 wm_T_106 wn_D_decode ws_D_decode wi_D wc_D_decode, by decide, by decide, by decide +kernel⟩
theorem wc_D_decodeBase64 : Cond.code y_D_decodeBase64 c_D_decodeBase64 7 none ∈ mt_T := mt_in3 73 (by decide +kernel) rfl
theorem wm_D_38 : Cond.methodLink R_D 38 y_D_decodeBase64 ∈ mt_T := mt_in3 70 (by decide +kernel) rfl
theorem wn_D_decodeBase64 : Cond.instanceMethod y_D_decodeBase64 ∈ mt_T := mt_in3 72 (by decide +kernel) rfl
theorem ws_D_decodeBase64 : Cond.selects R_D y_D_decodeBase64 y_D_decodeBase64 ∈ mt_T := mt_inp 8 (by decide +kernel) rfl
theorem cv_D_38 : cV_ R_D 38 y_D_decodeBase64 c_D_decodeBase64 7 none 2 := ⟨fa5 wm_D_38 wn_D_decodeBase64 ws_D_decodeBase64 wi_D wc_D_decodeBase64, by decide, by decide, by decide +kernel⟩
theorem wm_D_52 : Cond.methodLink R_D 52 y_B_at ∈ mt_T := mt_in3 74 (by decide +kernel) rfl
theorem cv_D_52 : cV_ R_D 52 y_B_at c_B_at 2 (some .int) 1 := ⟨fa5 wm_D_52 wn_B_at ws_B_at wi_B wc_B_at, by decide, by decide, by decide +kernel⟩
theorem wc_X_base64Digit : Cond.code y_X_base64Digit c_X_base64Digit 1 (some .int) ∈ mt_T := mt_in3 77 (by decide +kernel) rfl
theorem wt_X_base64Digit : Cond.static y_X_base64Digit ∈ mt_T := mt_in3 76 (by decide +kernel) rfl
theorem cv_D_56 : cN_ R_D 56 y_X_base64Digit c_X_base64Digit 1 (some .int) 1 := ⟨fa3 wt_X_base64Digit wi_X wc_X_base64Digit, ⟨by decide, by decide, by decide +kernel⟩, "MailTree", List.mem_filter.mpr ⟨mt_tb3 (List.mem_of_getElem? (i := 75) (by decide +kernel)), rfl⟩⟩
theorem wm_D_60 : Cond.methodLink R_D 60 y_B_put ∈ mt_T := mt_in3 80 (by decide +kernel) rfl
theorem cv_D_60 : cV_ R_D 60 y_B_put c_B_put 2 none 1 := ⟨fa5 wm_D_60 wn_B_put ws_B_put wi_B wc_B_put, by decide, by decide, by decide +kernel⟩
theorem wc_D_decodeQuotedPrintable : Cond.code y_D_decodeQuotedPrintable c_D_decodeQuotedPrintable 6 none ∈ mt_T := mt_in3 84 (by decide +kernel) rfl
theorem wm_D_42 : Cond.methodLink R_D 42 y_D_decodeQuotedPrintable ∈ mt_T := mt_in3 81 (by decide +kernel) rfl
theorem wn_D_decodeQuotedPrintable : Cond.instanceMethod y_D_decodeQuotedPrintable ∈ mt_T := mt_in3 83 (by decide +kernel) rfl
theorem ws_D_decodeQuotedPrintable : Cond.selects R_D y_D_decodeQuotedPrintable y_D_decodeQuotedPrintable ∈ mt_T := mt_inp 9 (by decide +kernel) rfl
theorem cv_D_42 : cV_ R_D 42 y_D_decodeQuotedPrintable c_D_decodeQuotedPrintable 6 none 2 := ⟨fa5 wm_D_42 wn_D_decodeQuotedPrintable ws_D_decodeQuotedPrintable wi_D wc_D_decodeQuotedPrintable, by decide, by decide, by decide +kernel⟩
theorem wc_D_decodeEqualSign : Cond.code y_D_decodeEqualSign c_D_decodeEqualSign 5 (some .int) ∈ mt_T := mt_in3 88 (by decide +kernel) rfl
theorem wm_D_64 : Cond.methodLink R_D 64 y_D_decodeEqualSign ∈ mt_T := mt_in3 85 (by decide +kernel) rfl
theorem wn_D_decodeEqualSign : Cond.instanceMethod y_D_decodeEqualSign ∈ mt_T := mt_in3 87 (by decide +kernel) rfl
theorem ws_D_decodeEqualSign : Cond.selects R_D y_D_decodeEqualSign y_D_decodeEqualSign ∈ mt_T := mt_inp 10 (by decide +kernel) rfl
theorem cv_D_64 : cV_ R_D 64 y_D_decodeEqualSign c_D_decodeEqualSign 5 (some .int) 2 := ⟨fa5 wm_D_64 wn_D_decodeEqualSign ws_D_decodeEqualSign wi_D wc_D_decodeEqualSign, by decide, by decide, by decide +kernel⟩
theorem wc_X_hexDigit : Cond.code y_X_hexDigit c_X_hexDigit 2 (some .int) ∈ mt_T := mt_in3 91 (by decide +kernel) rfl
theorem wt_X_hexDigit : Cond.static y_X_hexDigit ∈ mt_T := mt_in3 90 (by decide +kernel) rfl
theorem cv_D_75 : cN_ R_D 75 y_X_hexDigit c_X_hexDigit 2 (some .int) 1 := ⟨fa3 wt_X_hexDigit wi_X wc_X_hexDigit, ⟨by decide, by decide, by decide +kernel⟩, "MailTree", List.mem_filter.mpr ⟨mt_tb3 (List.mem_of_getElem? (i := 89) (by decide +kernel)), rfl⟩⟩
theorem wm_X_193 : Cond.methodLink R_X 193 y_X_small ∈ mt_T := mt_in3 92 (by decide +kernel) rfl
theorem cv_X_193 : cS_ R_X 193 y_X_small c_X_small 1 (some .int) 1 := ⟨fa4 wm_X_193 wt_X_small wi_X wc_X_small, rfl, by decide, by decide, by decide +kernel⟩
theorem wm_D_78 : Cond.methodLink R_D 78 y_B_skipBlanks ∈ mt_T := mt_in3 93 (by decide +kernel) rfl
theorem cv_D_78 : cV_ R_D 78 y_B_skipBlanks c_B_skipBlanks 4 (some .int) 2 := ⟨fa5 wm_D_78 wn_B_skipBlanks ws_B_skipBlanks wi_B wc_B_skipBlanks, by decide, by decide, by decide +kernel⟩
theorem wc_B_lineEndSize : Cond.code y_B_lineEndSize c_B_lineEndSize 4 (some .int) ∈ mt_T := mt_in3 97 (by decide +kernel) rfl
theorem wm_D_81 : Cond.methodLink R_D 81 y_B_lineEndSize ∈ mt_T := mt_in3 94 (by decide +kernel) rfl
theorem wn_B_lineEndSize : Cond.instanceMethod y_B_lineEndSize ∈ mt_T := mt_in3 95 (by decide +kernel) rfl
theorem ws_B_lineEndSize : Cond.selects R_B y_B_lineEndSize y_B_lineEndSize ∈ mt_T := mt_in3 96 (by decide +kernel) rfl
theorem cv_D_81 : cV_ R_D 81 y_B_lineEndSize c_B_lineEndSize 4 (some .int) 2 := ⟨fa5 wm_D_81 wn_B_lineEndSize ws_B_lineEndSize wi_B wc_B_lineEndSize, by decide, by decide, by decide +kernel⟩
theorem cv_D_68 : cN_ R_D 68 y_X_isBlank c_X_isBlank 1 (some .boolean) 1 := ⟨fa3 wt_X_isBlank wi_X wc_X_isBlank, ⟨by decide, by decide, by decide +kernel⟩, "MailTree", List.mem_filter.mpr ⟨mt_tb3 (List.mem_of_getElem? (i := 98) (by decide +kernel)), rfl⟩⟩
theorem wc_D_decodeBlanks : Cond.code y_D_decodeBlanks c_D_decodeBlanks 4 (some .int) ∈ mt_T := mt_in3 102 (by decide +kernel) rfl
theorem wm_D_72 : Cond.methodLink R_D 72 y_D_decodeBlanks ∈ mt_T := mt_in3 99 (by decide +kernel) rfl
theorem wn_D_decodeBlanks : Cond.instanceMethod y_D_decodeBlanks ∈ mt_T := mt_in3 101 (by decide +kernel) rfl
theorem ws_D_decodeBlanks : Cond.selects R_D y_D_decodeBlanks y_D_decodeBlanks ∈ mt_T := mt_inp 11 (by decide +kernel) rfl
theorem cv_D_72 : cV_ R_D 72 y_D_decodeBlanks c_D_decodeBlanks 4 (some .int) 2 := ⟨fa5 wm_D_72 wn_D_decodeBlanks ws_D_decodeBlanks wi_D wc_D_decodeBlanks, by decide, by decide, by decide +kernel⟩
theorem wm_D_45 : Cond.methodLink R_D 45 y_B_putRange ∈ mt_T := mt_in3 103 (by decide +kernel) rfl
theorem cv_D_45 : cV_ R_D 45 y_B_putRange c_B_putRange 5 none 3 := ⟨fa5 wm_D_45 wn_B_putRange ws_B_putRange wi_B wc_B_putRange, by decide, by decide, by decide +kernel⟩
theorem wm_T_109 : Cond.methodLink R_T 109 y_T_readEntity ∈ mt_T := mt_in3 104 (by decide +kernel) rfl
theorem cv_T_109 : cV_ R_T 109 y_T_readEntity c_T_readEntity 7 none 4 := ⟨fa5 wm_T_109 wn_T_readEntity ws_T_readEntity wi_T wc_T_readEntity, by decide, by decide, by decide +kernel⟩
theorem wc_T_readParts : Cond.code y_T_readParts c_T_readParts 10 none ∈ mt_T := mt_in3 108 (by decide +kernel) rfl
theorem wm_T_112 : Cond.methodLink R_T 112 y_T_readParts ∈ mt_T := mt_in3 105 (by decide +kernel) rfl
theorem wn_T_readParts : Cond.instanceMethod y_T_readParts ∈ mt_T := mt_in3 107 (by decide +kernel) rfl
theorem ws_T_readParts : Cond.selects R_T y_T_readParts y_T_readParts ∈ mt_T := mt_inp 12 (by decide +kernel) rfl
theorem cv_T_112 : cV_ R_T 112 y_T_readParts c_T_readParts 10 none 2 := ⟨fa5 wm_T_112 wn_T_readParts ws_T_readParts wi_T wc_T_readParts, by decide, by decide, by decide +kernel⟩
theorem wc_T_markOf : Cond.code y_T_markOf c_T_markOf 6 (some .int) ∈ mt_T := mt_in3 112 (by decide +kernel) rfl
theorem wm_T_236 : Cond.methodLink R_T 236 y_T_markOf ∈ mt_T := mt_in3 109 (by decide +kernel) rfl
theorem wn_T_markOf : Cond.instanceMethod y_T_markOf ∈ mt_T := mt_in3 111 (by decide +kernel) rfl
theorem ws_T_markOf : Cond.selects R_T y_T_markOf y_T_markOf ∈ mt_T := mt_inp 13 (by decide +kernel) rfl
theorem cv_T_236 : cV_ R_T 236 y_T_markOf c_T_markOf 6 (some .int) 3 := ⟨fa5 wm_T_236 wn_T_markOf ws_T_markOf wi_T wc_T_markOf, by decide, by decide, by decide +kernel⟩
theorem wc_B_has : Cond.code y_B_has c_B_has 5 (some .boolean) ∈ mt_T := mt_in3 118 (by decide +kernel) rfl
theorem wm_T_256 : Cond.methodLink R_T 256 y_B_has ∈ mt_T := mt_in3 115 (by decide +kernel) rfl
theorem wn_B_has : Cond.instanceMethod y_B_has ∈ mt_T := mt_in3 116 (by decide +kernel) rfl
theorem ws_B_has : Cond.selects R_B y_B_has y_B_has ∈ mt_T := mt_in3 117 (by decide +kernel) rfl
theorem cv_T_256 : cV_ R_T 256 y_B_has c_B_has 5 (some .boolean) 3 := ⟨fa5 wm_T_256 wn_B_has ws_B_has wi_B wc_B_has, by decide, by decide, by decide +kernel⟩
theorem wc_X_entities : Cond.code y_X_entities c_X_entities 1 (some .int) ∈ mt_T := mt_in3 124 (by decide +kernel) rfl
theorem wm_L_58 : Cond.methodLink R_L 58 y_X_entities ∈ mt_T := mt_in3 121 (by decide +kernel) rfl
theorem wn_X_entities : Cond.instanceMethod y_X_entities ∈ mt_T := mt_in3 122 (by decide +kernel) rfl
theorem ws_X_entities : Cond.selects R_X y_X_entities y_X_entities ∈ mt_T := mt_in3 123 (by decide +kernel) rfl
theorem cv_L_58 : cV_ R_L 58 y_X_entities c_X_entities 1 (some .int) 0 := ⟨fa5 wm_L_58 wn_X_entities ws_X_entities wi_X wc_X_entities, by decide, by decide, by decide +kernel⟩
theorem wc_X_written : Cond.code y_X_written c_X_written 2 (some .int) ∈ mt_T := mt_in3 128 (by decide +kernel) rfl
theorem wm_L_89 : Cond.methodLink R_L 89 y_X_written ∈ mt_T := mt_in3 125 (by decide +kernel) rfl
theorem wn_X_written : Cond.instanceMethod y_X_written ∈ mt_T := mt_in3 126 (by decide +kernel) rfl
theorem ws_X_written : Cond.selects R_X y_X_written y_X_written ∈ mt_T := mt_in3 127 (by decide +kernel) rfl
theorem cv_L_89 : cV_ R_L 89 y_X_written c_X_written 2 (some .int) 1 := ⟨fa5 wm_L_89 wn_X_written ws_X_written wi_X wc_X_written, by decide, by decide, by decide +kernel⟩
theorem wm_X_146 : Cond.methodLink R_X 146 y_B_at ∈ mt_T := mt_in3 129 (by decide +kernel) rfl
theorem cv_X_146 : cV_ R_X 146 y_B_at c_B_at 2 (some .int) 1 := ⟨fa5 wm_X_146 wn_B_at ws_B_at wi_B wc_B_at, by decide, by decide, by decide +kernel⟩
theorem wc_X_again : Cond.code y_X_again c_X_again 1 (some .int) ∈ mt_T := mt_in3 133 (by decide +kernel) rfl
theorem wm_L_94 : Cond.methodLink R_L 94 y_X_again ∈ mt_T := mt_in3 130 (by decide +kernel) rfl
theorem wn_X_again : Cond.instanceMethod y_X_again ∈ mt_T := mt_in3 131 (by decide +kernel) rfl
theorem ws_X_again : Cond.selects R_X y_X_again y_X_again ∈ mt_T := mt_in3 132 (by decide +kernel) rfl
theorem cv_L_94 : cV_ R_L 94 y_X_again c_X_again 1 (some .int) 0 := ⟨fa5 wm_L_94 wn_X_again ws_X_again wi_X wc_X_again, by decide, by decide, by decide +kernel⟩
theorem wm_X_171 : Cond.methodLink R_X 171 y_B_putRange ∈ mt_T := mt_in3 135 (by decide +kernel) rfl
theorem cv_X_171 : cV_ R_X 171 y_B_putRange c_B_putRange 5 none 3 := ⟨fa5 wm_X_171 wn_B_putRange ws_B_putRange wi_B wc_B_putRange, by decide, by decide, by decide +kernel⟩
theorem wc_X_look : Cond.code y_X_look c_X_look 4 (some .int) ∈ mt_T := mt_in3 144 (by decide +kernel) rfl
theorem wm_L_7 : Cond.methodLink R_L 7 y_X_look ∈ mt_T := mt_in3 141 (by decide +kernel) rfl
theorem wn_X_look : Cond.instanceMethod y_X_look ∈ mt_T := mt_in3 142 (by decide +kernel) rfl
theorem ws_X_look : Cond.selects R_X y_X_look y_X_look ∈ mt_T := mt_in3 143 (by decide +kernel) rfl
theorem cv_L_7 : cV_ R_L 7 y_X_look c_X_look 4 (some .int) 2 := ⟨fa5 wm_L_7 wn_X_look ws_X_look wi_X wc_X_look, by decide, by decide, by decide +kernel⟩
theorem wc_T_entityAt : Cond.code y_T_entityAt c_T_entityAt 2 (some (.object "MailTree$Entity")) ∈ mt_T := mt_in3 148 (by decide +kernel) rfl
theorem wm_X_58 : Cond.methodLink R_X 58 y_T_entityAt ∈ mt_T := mt_in3 145 (by decide +kernel) rfl
theorem wn_T_entityAt : Cond.instanceMethod y_T_entityAt ∈ mt_T := mt_in3 146 (by decide +kernel) rfl
theorem ws_T_entityAt : Cond.selects R_T y_T_entityAt y_T_entityAt ∈ mt_T := mt_in3 147 (by decide +kernel) rfl
theorem cv_X_58 : cV_ R_X 58 y_T_entityAt c_T_entityAt 2 (some (.object "MailTree$Entity")) 1 := ⟨fa5 wm_X_58 wn_T_entityAt ws_T_entityAt wi_T wc_T_entityAt, by decide, by decide, by decide +kernel⟩
theorem wc_X_length : Cond.code y_X_length c_X_length 5 (some .int) ∈ mt_T := mt_in3 239 (by decide +kernel) rfl
theorem wm_L_17 : Cond.methodLink R_L 17 y_X_length ∈ mt_T := mt_in3 236 (by decide +kernel) rfl
theorem wn_X_length : Cond.instanceMethod y_X_length ∈ mt_T := mt_in3 237 (by decide +kernel) rfl
theorem ws_X_length : Cond.selects R_X y_X_length y_X_length ∈ mt_T := mt_in3 238 (by decide +kernel) rfl
theorem cv_L_17 : cV_ R_L 17 y_X_length c_X_length 5 (some .int) 3 := ⟨fa5 wm_L_17 wn_X_length ws_X_length wi_X wc_X_length, by decide, by decide, by decide +kernel⟩
theorem wc_E_fieldAt : Cond.code y_E_fieldAt c_E_fieldAt 2 (some (.object "MailTree$Field")) ∈ mt_T := mt_in4 3 (by decide +kernel) rfl
theorem wm_X_101 : Cond.methodLink R_X 101 y_E_fieldAt ∈ mt_T := mt_in4 0 (by decide +kernel) rfl
theorem wn_E_fieldAt : Cond.instanceMethod y_E_fieldAt ∈ mt_T := mt_in4 1 (by decide +kernel) rfl
theorem ws_E_fieldAt : Cond.selects R_E y_E_fieldAt y_E_fieldAt ∈ mt_T := mt_in4 2 (by decide +kernel) rfl
theorem cv_X_101 : cV_ R_X 101 y_E_fieldAt c_E_fieldAt 2 (some (.object "MailTree$Field")) 1 := ⟨fa5 wm_X_101 wn_E_fieldAt ws_E_fieldAt wi_E wc_E_fieldAt, by decide, by decide, by decide +kernel⟩
theorem wc_X_letter : Cond.code y_X_letter c_X_letter 6 (some .int) ∈ mt_T := mt_in4 14 (by decide +kernel) rfl
theorem wm_L_21 : Cond.methodLink R_L 21 y_X_letter ∈ mt_T := mt_in4 11 (by decide +kernel) rfl
theorem wn_X_letter : Cond.instanceMethod y_X_letter ∈ mt_T := mt_in4 12 (by decide +kernel) rfl
theorem ws_X_letter : Cond.selects R_X y_X_letter y_X_letter ∈ mt_T := mt_in4 13 (by decide +kernel) rfl
theorem cv_L_21 : cV_ R_L 21 y_X_letter c_X_letter 6 (some .int) 4 := ⟨fa5 wm_L_21 wn_X_letter ws_X_letter wi_X wc_X_letter, by decide, by decide, by decide +kernel⟩
theorem wc_X_byteOf : Cond.code y_X_byteOf c_X_byteOf 4 (some .int) ∈ mt_T := mt_in4 17 (by decide +kernel) rfl
theorem wm_X_121 : Cond.methodLink R_X 121 y_X_byteOf ∈ mt_T := mt_in4 15 (by decide +kernel) rfl
theorem wt_X_byteOf : Cond.static y_X_byteOf ∈ mt_T := mt_in4 16 (by decide +kernel) rfl
theorem cv_X_121 : cS_ R_X 121 y_X_byteOf c_X_byteOf 4 (some .int) 4 := ⟨fa4 wm_X_121 wt_X_byteOf wi_X wc_X_byteOf, rfl, by decide, by decide, by decide +kernel⟩
theorem wc_X_content : Cond.code y_X_content c_X_content 4 (some .int) ∈ mt_T := mt_in4 27 (by decide +kernel) rfl
theorem wm_L_25 : Cond.methodLink R_L 25 y_X_content ∈ mt_T := mt_in4 24 (by decide +kernel) rfl
theorem wn_X_content : Cond.instanceMethod y_X_content ∈ mt_T := mt_in4 25 (by decide +kernel) rfl
theorem ws_X_content : Cond.selects R_X y_X_content y_X_content ∈ mt_T := mt_in4 26 (by decide +kernel) rfl
theorem cv_L_25 : cV_ R_L 25 y_X_content c_X_content 4 (some .int) 2 := ⟨fa5 wm_L_25 wn_X_content ws_X_content wi_X wc_X_content, by decide, by decide, by decide +kernel⟩
theorem wc_X_boundary : Cond.code y_X_boundary c_X_boundary 4 (some .int) ∈ mt_T := mt_in4 34 (by decide +kernel) rfl
theorem wm_L_28 : Cond.methodLink R_L 28 y_X_boundary ∈ mt_T := mt_in4 31 (by decide +kernel) rfl
theorem wn_X_boundary : Cond.instanceMethod y_X_boundary ∈ mt_T := mt_in4 32 (by decide +kernel) rfl
theorem ws_X_boundary : Cond.selects R_X y_X_boundary y_X_boundary ∈ mt_T := mt_in4 33 (by decide +kernel) rfl
theorem cv_L_28 : cV_ R_L 28 y_X_boundary c_X_boundary 4 (some .int) 2 := ⟨fa5 wm_L_28 wn_X_boundary ws_X_boundary wi_X wc_X_boundary, by decide, by decide, by decide +kernel⟩
theorem wc_X_write : Cond.code y_X_write c_X_write 2 (some .int) ∈ mt_T := mt_in4 43 (by decide +kernel) rfl
theorem wm_L_31 : Cond.methodLink R_L 31 y_X_write ∈ mt_T := mt_in4 40 (by decide +kernel) rfl
theorem wn_X_write : Cond.instanceMethod y_X_write ∈ mt_T := mt_in4 41 (by decide +kernel) rfl
theorem ws_X_write : Cond.selects R_X y_X_write y_X_write ∈ mt_T := mt_in4 42 (by decide +kernel) rfl
theorem cv_L_31 : cV_ R_L 31 y_X_write c_X_write 2 (some .int) 0 := ⟨fa5 wm_L_31 wn_X_write ws_X_write wi_X wc_X_write, by decide, by decide, by decide +kernel⟩
theorem wc_P_printEntity : Cond.code y_P_printEntity c_P_printEntity 6 none ∈ mt_T := mt_in4 63 (by decide +kernel) rfl
theorem wm_X_158 : Cond.methodLink R_X 158 y_P_printEntity ∈ mt_T := mt_in4 60 (by decide +kernel) rfl
theorem wn_P_printEntity : Cond.instanceMethod y_P_printEntity ∈ mt_T := mt_in4 61 (by decide +kernel) rfl
theorem ws_P_printEntity : Cond.selects R_P y_P_printEntity y_P_printEntity ∈ mt_T := mt_in4 62 (by decide +kernel) rfl
theorem cv_X_158 : cV_ R_X 158 y_P_printEntity c_P_printEntity 6 none 2 := ⟨fa5 wm_X_158 wn_P_printEntity ws_P_printEntity wi_P wc_P_printEntity, by decide, by decide, by decide +kernel⟩
theorem wc_P_printFields : Cond.code y_P_printFields c_P_printFields 4 none ∈ mt_T := mt_in4 67 (by decide +kernel) rfl
theorem wm_P_34 : Cond.methodLink R_P 34 y_P_printFields ∈ mt_T := mt_in4 64 (by decide +kernel) rfl
theorem wn_P_printFields : Cond.instanceMethod y_P_printFields ∈ mt_T := mt_in4 66 (by decide +kernel) rfl
theorem ws_P_printFields : Cond.selects R_P y_P_printFields y_P_printFields ∈ mt_T := mt_inp 15 (by decide +kernel) rfl
theorem cv_P_34 : cV_ R_P 34 y_P_printFields c_P_printFields 4 none 1 := ⟨fa5 wm_P_34 wn_P_printFields ws_P_printFields wi_P wc_P_printFields, by decide, by decide, by decide +kernel⟩
theorem wm_P_83 : Cond.methodLink R_P 83 y_B_putRange ∈ mt_T := mt_in4 68 (by decide +kernel) rfl
theorem cv_P_83 : cV_ R_P 83 y_B_putRange c_B_putRange 5 none 3 := ⟨fa5 wm_P_83 wn_B_putRange ws_B_putRange wi_B wc_B_putRange, by decide, by decide, by decide +kernel⟩
theorem wc_B_putText : Cond.code y_B_putText c_B_putText 3 none ∈ mt_T := mt_in4 73 (by decide +kernel) rfl
theorem wm_P_40 : Cond.methodLink R_P 40 y_B_putText ∈ mt_T := mt_in4 70 (by decide +kernel) rfl
theorem wn_B_putText : Cond.instanceMethod y_B_putText ∈ mt_T := mt_in4 71 (by decide +kernel) rfl
theorem ws_B_putText : Cond.selects R_B y_B_putText y_B_putText ∈ mt_T := mt_in4 72 (by decide +kernel) rfl
theorem cv_P_40 : cV_ R_P 40 y_B_putText c_B_putText 3 none 1 := ⟨fa5 wm_P_40 wn_B_putText ws_B_putText wi_B wc_B_putText, by decide, by decide, by decide +kernel⟩
theorem wc_P_printContent : Cond.code y_P_printContent c_P_printContent 4 none ∈ mt_T := mt_in4 78 (by decide +kernel) rfl
theorem wm_P_49 : Cond.methodLink R_P 49 y_P_printContent ∈ mt_T := mt_in4 75 (by decide +kernel) rfl
theorem wn_P_printContent : Cond.instanceMethod y_P_printContent ∈ mt_T := mt_in4 77 (by decide +kernel) rfl
theorem ws_P_printContent : Cond.selects R_P y_P_printContent y_P_printContent ∈ mt_T := mt_inp 16 (by decide +kernel) rfl
theorem cv_P_49 : cV_ R_P 49 y_P_printContent c_P_printContent 4 none 1 := ⟨fa5 wm_P_49 wn_P_printContent ws_P_printContent wi_P wc_P_printContent, by decide, by decide, by decide +kernel⟩
theorem wc_P_printBase64 : Cond.code y_P_printBase64 c_P_printBase64 5 none ∈ mt_T := mt_in4 82 (by decide +kernel) rfl
theorem wm_P_116 : Cond.methodLink R_P 116 y_P_printBase64 ∈ mt_T := mt_in4 79 (by decide +kernel) rfl
theorem wn_P_printBase64 : Cond.instanceMethod y_P_printBase64 ∈ mt_T := mt_in4 81 (by decide +kernel) rfl
theorem ws_P_printBase64 : Cond.selects R_P y_P_printBase64 y_P_printBase64 ∈ mt_T := mt_inp 17 (by decide +kernel) rfl
theorem cv_P_116 : cV_ R_P 116 y_P_printBase64 c_P_printBase64 5 none 2 := ⟨fa5 wm_P_116 wn_P_printBase64 ws_P_printBase64 wi_P wc_P_printBase64, by decide, by decide, by decide +kernel⟩
theorem wc_P_printThreeBytes : Cond.code y_P_printThreeBytes c_P_printThreeBytes 6 none ∈ mt_T := mt_in4 87 (by decide +kernel) rfl
theorem wm_P_131 : Cond.methodLink R_P 131 y_P_printThreeBytes ∈ mt_T := mt_in4 84 (by decide +kernel) rfl
theorem wn_P_printThreeBytes : Cond.instanceMethod y_P_printThreeBytes ∈ mt_T := mt_in4 86 (by decide +kernel) rfl
theorem ws_P_printThreeBytes : Cond.selects R_P y_P_printThreeBytes y_P_printThreeBytes ∈ mt_T := mt_inp 18 (by decide +kernel) rfl
theorem cv_P_131 : cV_ R_P 131 y_P_printThreeBytes c_P_printThreeBytes 6 none 2 := ⟨fa5 wm_P_131 wn_P_printThreeBytes ws_P_printThreeBytes wi_P wc_P_printThreeBytes, by decide, by decide, by decide +kernel⟩
theorem wm_P_134 : Cond.methodLink R_P 134 y_B_at ∈ mt_T := mt_in4 88 (by decide +kernel) rfl
theorem cv_P_134 : cV_ R_P 134 y_B_at c_B_at 2 (some .int) 1 := ⟨fa5 wm_P_134 wn_B_at ws_B_at wi_B wc_B_at, by decide, by decide, by decide +kernel⟩
theorem wm_P_146 : Cond.methodLink R_P 146 y_B_put ∈ mt_T := mt_in4 91 (by decide +kernel) rfl
theorem cv_P_146 : cV_ R_P 146 y_B_put c_B_put 2 none 1 := ⟨fa5 wm_P_146 wn_B_put ws_B_put wi_B wc_B_put, by decide, by decide, by decide +kernel⟩
theorem wc_P_printQuotedPrintable : Cond.code y_P_printQuotedPrintable c_P_printQuotedPrintable 8 none ∈ mt_T := mt_in4 95 (by decide +kernel) rfl
theorem wm_P_119 : Cond.methodLink R_P 119 y_P_printQuotedPrintable ∈ mt_T := mt_in4 92 (by decide +kernel) rfl
theorem wn_P_printQuotedPrintable : Cond.instanceMethod y_P_printQuotedPrintable ∈ mt_T := mt_in4 94 (by decide +kernel) rfl
theorem ws_P_printQuotedPrintable : Cond.selects R_P y_P_printQuotedPrintable y_P_printQuotedPrintable ∈ mt_T := mt_inp 19 (by decide +kernel) rfl
theorem cv_P_119 : cV_ R_P 119 y_P_printQuotedPrintable c_P_printQuotedPrintable 8 none 2 := ⟨fa5 wm_P_119 wn_P_printQuotedPrintable ws_P_printQuotedPrintable wi_P wc_P_printQuotedPrintable, by decide, by decide, by decide +kernel⟩
theorem wm_P_149 : Cond.methodLink R_P 149 y_B_has ∈ mt_T := mt_in4 96 (by decide +kernel) rfl
theorem cv_P_149 : cV_ R_P 149 y_B_has c_B_has 5 (some .boolean) 3 := ⟨fa5 wm_P_149 wn_B_has ws_B_has wi_B wc_B_has, by decide, by decide, by decide +kernel⟩
theorem wc_P_isPlain : Cond.code y_P_isPlain c_P_isPlain 4 (some .boolean) ∈ mt_T := mt_in4 100 (by decide +kernel) rfl
theorem wm_P_153 : Cond.methodLink R_P 153 y_P_isPlain ∈ mt_T := mt_in4 97 (by decide +kernel) rfl
theorem wn_P_isPlain : Cond.instanceMethod y_P_isPlain ∈ mt_T := mt_in4 99 (by decide +kernel) rfl
theorem ws_P_isPlain : Cond.selects R_P y_P_isPlain y_P_isPlain ∈ mt_T := mt_inp 20 (by decide +kernel) rfl
theorem cv_P_153 : cV_ R_P 153 y_P_isPlain c_P_isPlain 4 (some .boolean) 2 := ⟨fa5 wm_P_153 wn_P_isPlain ws_P_isPlain wi_P wc_P_isPlain, by decide, by decide, by decide +kernel⟩
theorem cv_P_160 : cN_ R_P 160 y_X_isBlank c_X_isBlank 1 (some .boolean) 1 := ⟨fa3 wt_X_isBlank wi_X wc_X_isBlank, ⟨by decide, by decide, by decide +kernel⟩, "MailTree", List.mem_filter.mpr ⟨mt_tb4 (List.mem_of_getElem? (i := 101) (by decide +kernel)), rfl⟩⟩
theorem wc_P_printEscaped : Cond.code y_P_printEscaped c_P_printEscaped 2 none ∈ mt_T := mt_in4 105 (by decide +kernel) rfl
theorem wm_P_157 : Cond.methodLink R_P 157 y_P_printEscaped ∈ mt_T := mt_in4 102 (by decide +kernel) rfl
theorem wn_P_printEscaped : Cond.instanceMethod y_P_printEscaped ∈ mt_T := mt_in4 104 (by decide +kernel) rfl
theorem ws_P_printEscaped : Cond.selects R_P y_P_printEscaped y_P_printEscaped ∈ mt_T := mt_inp 21 (by decide +kernel) rfl
theorem cv_P_157 : cV_ R_P 157 y_P_printEscaped c_P_printEscaped 2 none 1 := ⟨fa5 wm_P_157 wn_P_printEscaped ws_P_printEscaped wi_P wc_P_printEscaped, by decide, by decide, by decide +kernel⟩
theorem wc_P_printMark : Cond.code y_P_printMark c_P_printMark 3 none ∈ mt_T := mt_in4 110 (by decide +kernel) rfl
theorem wm_P_55 : Cond.methodLink R_P 55 y_P_printMark ∈ mt_T := mt_in4 107 (by decide +kernel) rfl
theorem wn_P_printMark : Cond.instanceMethod y_P_printMark ∈ mt_T := mt_in4 109 (by decide +kernel) rfl
theorem ws_P_printMark : Cond.selects R_P y_P_printMark y_P_printMark ∈ mt_T := mt_inp 22 (by decide +kernel) rfl
theorem cv_P_55 : cV_ R_P 55 y_P_printMark c_P_printMark 3 none 2 := ⟨fa5 wm_P_55 wn_P_printMark ws_P_printMark wi_P wc_P_printMark, by decide, by decide, by decide +kernel⟩
theorem wm_P_59 : Cond.methodLink R_P 59 y_P_printEntity ∈ mt_T := mt_in4 112 (by decide +kernel) rfl
theorem cv_P_59 : cV_ R_P 59 y_P_printEntity c_P_printEntity 6 none 2 := ⟨fa5 wm_P_59 wn_P_printEntity ws_P_printEntity wi_P wc_P_printEntity, by decide, by decide, by decide +kernel⟩
theorem wc_M_init : Cond.code y_M_init c_M_init 1 none ∈ mt_T := mt_in4 133 (by decide +kernel) rfl
theorem wi_M : Cond.initialized R_M ∈ mt_T := mt_in1 9 (by decide +kernel) rfl
theorem wm_L_42 : Cond.methodLink R_L 42 y_M_init ∈ mt_T := mt_in4 131 (by decide +kernel) rfl
theorem wc_M_thrown : Cond.code y_M_thrown c_M_thrown 1 (some .int) ∈ mt_T := mt_in4 214 (by decide +kernel) rfl
theorem wm_L_68 : Cond.methodLink R_L 68 y_M_thrown ∈ mt_T := mt_in4 211 (by decide +kernel) rfl
theorem wn_M_thrown : Cond.instanceMethod y_M_thrown ∈ mt_T := mt_in4 212 (by decide +kernel) rfl
theorem ws_M_thrown : Cond.selects R_M y_M_thrown y_M_thrown ∈ mt_T := mt_in4 213 (by decide +kernel) rfl
theorem cv_L_68 : cV_ R_L 68 y_M_thrown c_M_thrown 1 (some .int) 0 := ⟨fa5 wm_L_68 wn_M_thrown ws_M_thrown wi_M wc_M_thrown, by decide, by decide, by decide +kernel⟩
theorem wc_M_feed : Cond.code y_M_feed c_M_feed 5 (some .boolean) ∈ mt_T := mt_in4 218 (by decide +kernel) rfl
theorem wm_L_49 : Cond.methodLink R_L 49 y_M_feed ∈ mt_T := mt_in4 215 (by decide +kernel) rfl
theorem wn_M_feed : Cond.instanceMethod y_M_feed ∈ mt_T := mt_in4 216 (by decide +kernel) rfl
theorem ws_M_feed : Cond.selects R_M y_M_feed y_M_feed ∈ mt_T := mt_in4 217 (by decide +kernel) rfl
theorem cv_L_49 : cV_ R_L 49 y_M_feed c_M_feed 5 (some .boolean) 2 := ⟨fa5 wm_L_49 wn_M_feed ws_M_feed wi_M wc_M_feed, by decide, by decide, by decide +kernel⟩
theorem wc_M_clear : Cond.code y_M_clear c_M_clear 2 (some .int) ∈ mt_T := mt_in4 223 (by decide +kernel) rfl
theorem wm_L_53 : Cond.methodLink R_L 53 y_M_clear ∈ mt_T := mt_in4 220 (by decide +kernel) rfl
theorem wn_M_clear : Cond.instanceMethod y_M_clear ∈ mt_T := mt_in4 221 (by decide +kernel) rfl
theorem ws_M_clear : Cond.selects R_M y_M_clear y_M_clear ∈ mt_T := mt_in4 222 (by decide +kernel) rfl
theorem cv_L_53 : cV_ R_L 53 y_M_clear c_M_clear 2 (some .int) 0 := ⟨fa5 wm_L_53 wn_M_clear ws_M_clear wi_M wc_M_clear, by decide, by decide, by decide +kernel⟩
theorem wc_M_read : Cond.code y_M_read c_M_read 2 (some .int) ∈ mt_T := mt_in4 227 (by decide +kernel) rfl
theorem wm_L_57 : Cond.methodLink R_L 57 y_M_read ∈ mt_T := mt_in4 224 (by decide +kernel) rfl
theorem wn_M_read : Cond.instanceMethod y_M_read ∈ mt_T := mt_in4 225 (by decide +kernel) rfl
theorem ws_M_read : Cond.selects R_M y_M_read y_M_read ∈ mt_T := mt_in4 226 (by decide +kernel) rfl
theorem cv_L_57 : cV_ R_L 57 y_M_read c_M_read 2 (some .int) 0 := ⟨fa5 wm_L_57 wn_M_read ws_M_read wi_M wc_M_read, by decide, by decide, by decide +kernel⟩
theorem wc_M_lay : Cond.code y_M_lay c_M_lay 5 none ∈ mt_T := mt_in4 231 (by decide +kernel) rfl
theorem wm_M_211 : Cond.methodLink R_M 211 y_M_lay ∈ mt_T := mt_in4 228 (by decide +kernel) rfl
theorem wn_M_lay : Cond.instanceMethod y_M_lay ∈ mt_T := mt_in4 230 (by decide +kernel) rfl
theorem ws_M_lay : Cond.selects R_M y_M_lay y_M_lay ∈ mt_T := mt_inp 23 (by decide +kernel) rfl
theorem cv_M_211 : cV_ R_M 211 y_M_lay c_M_lay 5 none 4 := ⟨fa5 wm_M_211 wn_M_lay ws_M_lay wi_M wc_M_lay, by decide, by decide, by decide +kernel⟩
theorem wc_M_takeEntity : Cond.code y_M_takeEntity c_M_takeEntity 8 none ∈ mt_T := mt_in4 235 (by decide +kernel) rfl
theorem wm_M_221 : Cond.methodLink R_M 221 y_M_takeEntity ∈ mt_T := mt_in4 232 (by decide +kernel) rfl
theorem wn_M_takeEntity : Cond.instanceMethod y_M_takeEntity ∈ mt_T := mt_in4 234 (by decide +kernel) rfl
theorem ws_M_takeEntity : Cond.selects R_M y_M_takeEntity y_M_takeEntity ∈ mt_T := mt_inp 24 (by decide +kernel) rfl
theorem cv_M_221 : cV_ R_M 221 y_M_takeEntity c_M_takeEntity 8 none 0 := ⟨fa5 wm_M_221 wn_M_takeEntity ws_M_takeEntity wi_M wc_M_takeEntity, by decide, by decide, by decide +kernel⟩
theorem wc_M_set : Cond.code y_M_set c_M_set 4 none ∈ mt_T := mt_in4 239 (by decide +kernel) rfl
theorem wm_M_70 : Cond.methodLink R_M 70 y_M_set ∈ mt_T := mt_in4 236 (by decide +kernel) rfl
theorem wn_M_set : Cond.instanceMethod y_M_set ∈ mt_T := mt_in4 238 (by decide +kernel) rfl
theorem ws_M_set : Cond.selects R_M y_M_set y_M_set ∈ mt_T := mt_inp 25 (by decide +kernel) rfl
theorem cv_M_70 : cV_ R_M 70 y_M_set c_M_set 4 none 3 := ⟨fa5 wm_M_70 wn_M_set ws_M_set wi_M wc_M_set, by decide, by decide, by decide +kernel⟩
theorem wc_M_of : Cond.code y_M_of c_M_of 3 (some .int) ∈ mt_T := mt_in5 3 (by decide +kernel) rfl
theorem wm_M_59 : Cond.methodLink R_M 59 y_M_of ∈ mt_T := mt_in5 0 (by decide +kernel) rfl
theorem wn_M_of : Cond.instanceMethod y_M_of ∈ mt_T := mt_in5 2 (by decide +kernel) rfl
theorem ws_M_of : Cond.selects R_M y_M_of y_M_of ∈ mt_T := mt_inp 26 (by decide +kernel) rfl
theorem cv_M_59 : cV_ R_M 59 y_M_of c_M_of 3 (some .int) 2 := ⟨fa5 wm_M_59 wn_M_of ws_M_of wi_M wc_M_of, by decide, by decide, by decide +kernel⟩
theorem wc_M_fields : Cond.code y_M_fields c_M_fields 8 (some .int) ∈ mt_T := mt_in5 7 (by decide +kernel) rfl
theorem wm_M_199 : Cond.methodLink R_M 199 y_M_fields ∈ mt_T := mt_in5 4 (by decide +kernel) rfl
theorem wn_M_fields : Cond.instanceMethod y_M_fields ∈ mt_T := mt_in5 6 (by decide +kernel) rfl
theorem ws_M_fields : Cond.selects R_M y_M_fields y_M_fields ∈ mt_T := mt_inp 27 (by decide +kernel) rfl
theorem cv_M_199 : cV_ R_M 199 y_M_fields c_M_fields 8 (some .int) 3 := ⟨fa5 wm_M_199 wn_M_fields ws_M_fields wi_M wc_M_fields, by decide, by decide, by decide +kernel⟩
theorem wc_M_textEnd : Cond.code y_M_textEnd c_M_textEnd 4 (some .int) ∈ mt_T := mt_in5 11 (by decide +kernel) rfl
theorem wm_M_74 : Cond.methodLink R_M 74 y_M_textEnd ∈ mt_T := mt_in5 8 (by decide +kernel) rfl
theorem wn_M_textEnd : Cond.instanceMethod y_M_textEnd ∈ mt_T := mt_in5 10 (by decide +kernel) rfl
theorem ws_M_textEnd : Cond.selects R_M y_M_textEnd y_M_textEnd ∈ mt_T := mt_inp 28 (by decide +kernel) rfl
theorem cv_M_74 : cV_ R_M 74 y_M_textEnd c_M_textEnd 4 (some .int) 2 := ⟨fa5 wm_M_74 wn_M_textEnd ws_M_textEnd wi_M wc_M_textEnd, by decide, by decide, by decide +kernel⟩
theorem wc_M_lineEnd : Cond.code y_M_lineEnd c_M_lineEnd 4 (some .int) ∈ mt_T := mt_in5 15 (by decide +kernel) rfl
theorem wm_M_52 : Cond.methodLink R_M 52 y_M_lineEnd ∈ mt_T := mt_in5 12 (by decide +kernel) rfl
theorem wn_M_lineEnd : Cond.instanceMethod y_M_lineEnd ∈ mt_T := mt_in5 14 (by decide +kernel) rfl
theorem ws_M_lineEnd : Cond.selects R_M y_M_lineEnd y_M_lineEnd ∈ mt_T := mt_inp 29 (by decide +kernel) rfl
theorem cv_M_52 : cV_ R_M 52 y_M_lineEnd c_M_lineEnd 4 (some .int) 2 := ⟨fa5 wm_M_52 wn_M_lineEnd ws_M_lineEnd wi_M wc_M_lineEnd, by decide, by decide, by decide +kernel⟩
theorem wc_M_trims : Cond.code y_M_trims c_M_trims 6 none ∈ mt_T := mt_in5 19 (by decide +kernel) rfl
theorem wm_M_77 : Cond.methodLink R_M 77 y_M_trims ∈ mt_T := mt_in5 16 (by decide +kernel) rfl
theorem wn_M_trims : Cond.instanceMethod y_M_trims ∈ mt_T := mt_in5 18 (by decide +kernel) rfl
theorem ws_M_trims : Cond.selects R_M y_M_trims y_M_trims ∈ mt_T := mt_inp 30 (by decide +kernel) rfl
theorem cv_M_77 : cV_ R_M 77 y_M_trims c_M_trims 6 none 1 := ⟨fa5 wm_M_77 wn_M_trims ws_M_trims wi_M wc_M_trims, by decide, by decide, by decide +kernel⟩
theorem wc_M_isBlank : Cond.code y_M_isBlank c_M_isBlank 1 (some .boolean) ∈ mt_T := mt_in5 22 (by decide +kernel) rfl
theorem wm_M_62 : Cond.methodLink R_M 62 y_M_isBlank ∈ mt_T := mt_in5 20 (by decide +kernel) rfl
theorem wt_M_isBlank : Cond.static y_M_isBlank ∈ mt_T := mt_in5 21 (by decide +kernel) rfl
theorem cv_M_62 : cS_ R_M 62 y_M_isBlank c_M_isBlank 1 (some .boolean) 1 := ⟨fa4 wm_M_62 wt_M_isBlank wi_M wc_M_isBlank, rfl, by decide, by decide, by decide +kernel⟩
theorem wc_M_nameSize : Cond.code y_M_nameSize c_M_nameSize 4 (some .int) ∈ mt_T := mt_in5 26 (by decide +kernel) rfl
theorem wm_M_80 : Cond.methodLink R_M 80 y_M_nameSize ∈ mt_T := mt_in5 23 (by decide +kernel) rfl
theorem wn_M_nameSize : Cond.instanceMethod y_M_nameSize ∈ mt_T := mt_in5 25 (by decide +kernel) rfl
theorem ws_M_nameSize : Cond.selects R_M y_M_nameSize y_M_nameSize ∈ mt_T := mt_inp 31 (by decide +kernel) rfl
theorem cv_M_80 : cV_ R_M 80 y_M_nameSize c_M_nameSize 4 (some .int) 2 := ⟨fa5 wm_M_80 wn_M_nameSize ws_M_nameSize wi_M wc_M_nameSize, by decide, by decide, by decide +kernel⟩
theorem wc_M_begins : Cond.code y_M_begins c_M_begins 7 none ∈ mt_T := mt_in5 30 (by decide +kernel) rfl
theorem wm_M_83 : Cond.methodLink R_M 83 y_M_begins ∈ mt_T := mt_in5 27 (by decide +kernel) rfl
theorem wn_M_begins : Cond.instanceMethod y_M_begins ∈ mt_T := mt_in5 29 (by decide +kernel) rfl
theorem ws_M_begins : Cond.selects R_M y_M_begins y_M_begins ∈ mt_T := mt_inp 32 (by decide +kernel) rfl
theorem cv_M_83 : cV_ R_M 83 y_M_begins c_M_begins 7 none 4 := ⟨fa5 wm_M_83 wn_M_begins ws_M_begins wi_M wc_M_begins, by decide, by decide, by decide +kernel⟩
theorem wc_M_keep : Cond.code y_M_keep c_M_keep 2 none ∈ mt_T := mt_in5 34 (by decide +kernel) rfl
theorem wm_M_66 : Cond.methodLink R_M 66 y_M_keep ∈ mt_T := mt_in5 31 (by decide +kernel) rfl
theorem wn_M_keep : Cond.instanceMethod y_M_keep ∈ mt_T := mt_in5 33 (by decide +kernel) rfl
theorem ws_M_keep : Cond.selects R_M y_M_keep y_M_keep ∈ mt_T := mt_inp 33 (by decide +kernel) rfl
theorem cv_M_66 : cV_ R_M 66 y_M_keep c_M_keep 2 none 1 := ⟨fa5 wm_M_66 wn_M_keep ws_M_keep wi_M wc_M_keep, by decide, by decide, by decide +kernel⟩
theorem wc_M_encoding : Cond.code y_M_encoding c_M_encoding 5 (some .int) ∈ mt_T := mt_in5 38 (by decide +kernel) rfl
theorem wm_M_202 : Cond.methodLink R_M 202 y_M_encoding ∈ mt_T := mt_in5 35 (by decide +kernel) rfl
theorem wn_M_encoding : Cond.instanceMethod y_M_encoding ∈ mt_T := mt_in5 37 (by decide +kernel) rfl
theorem ws_M_encoding : Cond.selects R_M y_M_encoding y_M_encoding ∈ mt_T := mt_inp 34 (by decide +kernel) rfl
theorem cv_M_202 : cV_ R_M 202 y_M_encoding c_M_encoding 5 (some .int) 1 := ⟨fa5 wm_M_202 wn_M_encoding ws_M_encoding wi_M wc_M_encoding, by decide, by decide, by decide +kernel⟩
theorem wc_M_firstField : Cond.code y_M_firstField c_M_firstField 9 (some .int) ∈ mt_T := mt_in5 45 (by decide +kernel) rfl
theorem wm_M_129 : Cond.methodLink R_M 129 y_M_firstField ∈ mt_T := mt_in5 42 (by decide +kernel) rfl
theorem wn_M_firstField : Cond.instanceMethod y_M_firstField ∈ mt_T := mt_in5 44 (by decide +kernel) rfl
theorem ws_M_firstField : Cond.selects R_M y_M_firstField y_M_firstField ∈ mt_T := mt_inp 35 (by decide +kernel) rfl
theorem cv_M_129 : cV_ R_M 129 y_M_firstField c_M_firstField 9 (some .int) 4 := ⟨fa5 wm_M_129 wn_M_firstField ws_M_firstField wi_M wc_M_firstField, by decide, by decide, by decide +kernel⟩
theorem wc_M_fieldOf : Cond.code y_M_fieldOf c_M_fieldOf 4 (some .int) ∈ mt_T := mt_in5 49 (by decide +kernel) rfl
theorem wm_M_115 : Cond.methodLink R_M 115 y_M_fieldOf ∈ mt_T := mt_in5 46 (by decide +kernel) rfl
theorem wn_M_fieldOf : Cond.instanceMethod y_M_fieldOf ∈ mt_T := mt_in5 48 (by decide +kernel) rfl
theorem ws_M_fieldOf : Cond.selects R_M y_M_fieldOf y_M_fieldOf ∈ mt_T := mt_inp 36 (by decide +kernel) rfl
theorem cv_M_115 : cV_ R_M 115 y_M_fieldOf c_M_fieldOf 4 (some .int) 3 := ⟨fa5 wm_M_115 wn_M_fieldOf ws_M_fieldOf wi_M wc_M_fieldOf, by decide, by decide, by decide +kernel⟩
theorem wc_M_isWord : Cond.code y_M_isWord c_M_isWord 15 (some .boolean) ∈ mt_T := mt_in5 53 (by decide +kernel) rfl
theorem wm_M_119 : Cond.methodLink R_M 119 y_M_isWord ∈ mt_T := mt_in5 50 (by decide +kernel) rfl
theorem wn_M_isWord : Cond.instanceMethod y_M_isWord ∈ mt_T := mt_in5 52 (by decide +kernel) rfl
theorem ws_M_isWord : Cond.selects R_M y_M_isWord y_M_isWord ∈ mt_T := mt_inp 37 (by decide +kernel) rfl
theorem cv_M_119 : cV_ R_M 119 y_M_isWord c_M_isWord 15 (some .boolean) 5 := ⟨fa5 wm_M_119 wn_M_isWord ws_M_isWord wi_M wc_M_isWord, by decide, by decide, by decide +kernel⟩
theorem wc_M_small : Cond.code y_M_small c_M_small 1 (some .int) ∈ mt_T := mt_in5 57 (by decide +kernel) rfl
theorem wm_M_89 : Cond.methodLink R_M 89 y_M_small ∈ mt_T := mt_in5 55 (by decide +kernel) rfl
theorem wt_M_small : Cond.static y_M_small ∈ mt_T := mt_in5 56 (by decide +kernel) rfl
theorem cv_M_89 : cS_ R_M 89 y_M_small c_M_small 1 (some .int) 1 := ⟨fa4 wm_M_89 wt_M_small wi_M wc_M_small, rfl, by decide, by decide, by decide +kernel⟩
theorem wc_M_enter : Cond.code y_M_enter c_M_enter 3 none ∈ mt_T := mt_in5 61 (by decide +kernel) rfl
theorem wm_M_133 : Cond.methodLink R_M 133 y_M_enter ∈ mt_T := mt_in5 58 (by decide +kernel) rfl
theorem wn_M_enter : Cond.instanceMethod y_M_enter ∈ mt_T := mt_in5 60 (by decide +kernel) rfl
theorem ws_M_enter : Cond.selects R_M y_M_enter y_M_enter ∈ mt_T := mt_inp 38 (by decide +kernel) rfl
theorem cv_M_133 : cV_ R_M 133 y_M_enter c_M_enter 3 none 2 := ⟨fa5 wm_M_133 wn_M_enter ws_M_enter wi_M wc_M_enter, by decide, by decide, by decide +kernel⟩
theorem wc_M_space : Cond.code y_M_space c_M_space 2 none ∈ mt_T := mt_in5 65 (by decide +kernel) rfl
theorem wm_M_137 : Cond.methodLink R_M 137 y_M_space ∈ mt_T := mt_in5 62 (by decide +kernel) rfl
theorem wn_M_space : Cond.instanceMethod y_M_space ∈ mt_T := mt_in5 64 (by decide +kernel) rfl
theorem ws_M_space : Cond.selects R_M y_M_space y_M_space ∈ mt_T := mt_inp 39 (by decide +kernel) rfl
theorem cv_M_137 : cV_ R_M 137 y_M_space c_M_space 2 none 0 := ⟨fa5 wm_M_137 wn_M_space ws_M_space wi_M wc_M_space, by decide, by decide, by decide +kernel⟩
theorem wc_M_now : Cond.code y_M_now c_M_now 1 (some .int) ∈ mt_T := mt_in5 69 (by decide +kernel) rfl
theorem wm_M_99 : Cond.methodLink R_M 99 y_M_now ∈ mt_T := mt_in5 66 (by decide +kernel) rfl
theorem wn_M_now : Cond.instanceMethod y_M_now ∈ mt_T := mt_in5 68 (by decide +kernel) rfl
theorem ws_M_now : Cond.selects R_M y_M_now y_M_now ∈ mt_T := mt_inp 40 (by decide +kernel) rfl
theorem cv_M_99 : cV_ R_M 99 y_M_now c_M_now 1 (some .int) 0 := ⟨fa5 wm_M_99 wn_M_now ws_M_now wi_M wc_M_now, by decide, by decide, by decide +kernel⟩
theorem wc_M_comment : Cond.code y_M_comment c_M_comment 3 none ∈ mt_T := mt_in5 73 (by decide +kernel) rfl
theorem wm_M_103 : Cond.methodLink R_M 103 y_M_comment ∈ mt_T := mt_in5 70 (by decide +kernel) rfl
theorem wn_M_comment : Cond.instanceMethod y_M_comment ∈ mt_T := mt_in5 72 (by decide +kernel) rfl
theorem ws_M_comment : Cond.selects R_M y_M_comment y_M_comment ∈ mt_T := mt_inp 41 (by decide +kernel) rfl
theorem cv_M_103 : cV_ R_M 103 y_M_comment c_M_comment 3 none 0 := ⟨fa5 wm_M_103 wn_M_comment ws_M_comment wi_M wc_M_comment, by decide, by decide, by decide +kernel⟩
theorem wc_M_atom : Cond.code y_M_atom c_M_atom 1 (some .boolean) ∈ mt_T := mt_in5 77 (by decide +kernel) rfl
theorem wm_M_140 : Cond.methodLink R_M 140 y_M_atom ∈ mt_T := mt_in5 74 (by decide +kernel) rfl
theorem wn_M_atom : Cond.instanceMethod y_M_atom ∈ mt_T := mt_in5 76 (by decide +kernel) rfl
theorem ws_M_atom : Cond.selects R_M y_M_atom y_M_atom ∈ mt_T := mt_inp 42 (by decide +kernel) rfl
theorem cv_M_140 : cV_ R_M 140 y_M_atom c_M_atom 1 (some .boolean) 0 := ⟨fa5 wm_M_140 wn_M_atom ws_M_atom wi_M wc_M_atom, by decide, by decide, by decide +kernel⟩
theorem wc_M_isAtom : Cond.code y_M_isAtom c_M_isAtom 1 (some .boolean) ∈ mt_T := mt_in5 80 (by decide +kernel) rfl
theorem wm_M_109 : Cond.methodLink R_M 109 y_M_isAtom ∈ mt_T := mt_in5 78 (by decide +kernel) rfl
theorem wt_M_isAtom : Cond.static y_M_isAtom ∈ mt_T := mt_in5 79 (by decide +kernel) rfl
theorem cv_M_109 : cS_ R_M 109 y_M_isAtom c_M_isAtom 1 (some .boolean) 1 := ⟨fa4 wm_M_109 wt_M_isAtom wi_M wc_M_isAtom, rfl, by decide, by decide, by decide +kernel⟩
theorem wc_M_kind : Cond.code y_M_kind c_M_kind 8 (some .int) ∈ mt_T := mt_in5 87 (by decide +kernel) rfl
theorem wm_M_205 : Cond.methodLink R_M 205 y_M_kind ∈ mt_T := mt_in5 84 (by decide +kernel) rfl
theorem wn_M_kind : Cond.instanceMethod y_M_kind ∈ mt_T := mt_in5 86 (by decide +kernel) rfl
theorem ws_M_kind : Cond.selects R_M y_M_kind y_M_kind ∈ mt_T := mt_inp 43 (by decide +kernel) rfl
theorem cv_M_205 : cV_ R_M 205 y_M_kind c_M_kind 8 (some .int) 1 := ⟨fa5 wm_M_205 wn_M_kind ws_M_kind wi_M wc_M_kind, by decide, by decide, by decide +kernel⟩
theorem wc_M_takes : Cond.code y_M_takes c_M_takes 2 (some .boolean) ∈ mt_T := mt_in5 92 (by decide +kernel) rfl
theorem wm_M_150 : Cond.methodLink R_M 150 y_M_takes ∈ mt_T := mt_in5 89 (by decide +kernel) rfl
theorem wn_M_takes : Cond.instanceMethod y_M_takes ∈ mt_T := mt_in5 91 (by decide +kernel) rfl
theorem ws_M_takes : Cond.selects R_M y_M_takes y_M_takes ∈ mt_T := mt_inp 44 (by decide +kernel) rfl
theorem cv_M_150 : cV_ R_M 150 y_M_takes c_M_takes 2 (some .boolean) 1 := ⟨fa5 wm_M_150 wn_M_takes ws_M_takes wi_M wc_M_takes, by decide, by decide, by decide +kernel⟩
theorem wc_M_parameter : Cond.code y_M_parameter c_M_parameter 4 (some .int) ∈ mt_T := mt_in5 99 (by decide +kernel) rfl
theorem wm_M_166 : Cond.methodLink R_M 166 y_M_parameter ∈ mt_T := mt_in5 96 (by decide +kernel) rfl
theorem wn_M_parameter : Cond.instanceMethod y_M_parameter ∈ mt_T := mt_in5 98 (by decide +kernel) rfl
theorem ws_M_parameter : Cond.selects R_M y_M_parameter y_M_parameter ∈ mt_T := mt_inp 45 (by decide +kernel) rfl
theorem cv_M_166 : cV_ R_M 166 y_M_parameter c_M_parameter 4 (some .int) 0 := ⟨fa5 wm_M_166 wn_M_parameter ws_M_parameter wi_M wc_M_parameter, by decide, by decide, by decide +kernel⟩
theorem wc_M_quoted : Cond.code y_M_quoted c_M_quoted 1 (some .boolean) ∈ mt_T := mt_in5 104 (by decide +kernel) rfl
theorem wm_M_155 : Cond.methodLink R_M 155 y_M_quoted ∈ mt_T := mt_in5 101 (by decide +kernel) rfl
theorem wn_M_quoted : Cond.instanceMethod y_M_quoted ∈ mt_T := mt_in5 103 (by decide +kernel) rfl
theorem ws_M_quoted : Cond.selects R_M y_M_quoted y_M_quoted ∈ mt_T := mt_inp 46 (by decide +kernel) rfl
theorem cv_M_155 : cV_ R_M 155 y_M_quoted c_M_quoted 1 (some .boolean) 0 := ⟨fa5 wm_M_155 wn_M_quoted ws_M_quoted wi_M wc_M_quoted, by decide, by decide, by decide +kernel⟩
theorem wc_M_isBoundary : Cond.code y_M_isBoundary c_M_isBoundary 3 (some .boolean) ∈ mt_T := mt_in5 108 (by decide +kernel) rfl
theorem wm_M_169 : Cond.methodLink R_M 169 y_M_isBoundary ∈ mt_T := mt_in5 105 (by decide +kernel) rfl
theorem wn_M_isBoundary : Cond.instanceMethod y_M_isBoundary ∈ mt_T := mt_in5 107 (by decide +kernel) rfl
theorem ws_M_isBoundary : Cond.selects R_M y_M_isBoundary y_M_isBoundary ∈ mt_T := mt_inp 47 (by decide +kernel) rfl
theorem cv_M_169 : cV_ R_M 169 y_M_isBoundary c_M_isBoundary 3 (some .boolean) 0 := ⟨fa5 wm_M_169 wn_M_isBoundary ws_M_isBoundary wi_M wc_M_isBoundary, by decide, by decide, by decide +kernel⟩
theorem wc_M_contents : Cond.code y_M_contents c_M_contents 5 none ∈ mt_T := mt_in5 112 (by decide +kernel) rfl
theorem wm_M_208 : Cond.methodLink R_M 208 y_M_contents ∈ mt_T := mt_in5 109 (by decide +kernel) rfl
theorem wn_M_contents : Cond.instanceMethod y_M_contents ∈ mt_T := mt_in5 111 (by decide +kernel) rfl
theorem ws_M_contents : Cond.selects R_M y_M_contents y_M_contents ∈ mt_T := mt_inp 48 (by decide +kernel) rfl
theorem cv_M_208 : cV_ R_M 208 y_M_contents c_M_contents 5 none 1 := ⟨fa5 wm_M_208 wn_M_contents ws_M_contents wi_M wc_M_contents, by decide, by decide, by decide +kernel⟩
theorem wc_M_fromLetters : Cond.code y_M_fromLetters c_M_fromLetters 7 none ∈ mt_T := mt_in5 116 (by decide +kernel) rfl
theorem wm_M_190 : Cond.methodLink R_M 190 y_M_fromLetters ∈ mt_T := mt_in5 113 (by decide +kernel) rfl
theorem wn_M_fromLetters : Cond.instanceMethod y_M_fromLetters ∈ mt_T := mt_in5 115 (by decide +kernel) rfl
theorem ws_M_fromLetters : Cond.selects R_M y_M_fromLetters y_M_fromLetters ∈ mt_T := mt_inp 49 (by decide +kernel) rfl
theorem cv_M_190 : cV_ R_M 190 y_M_fromLetters c_M_fromLetters 7 none 2 := ⟨fa5 wm_M_190 wn_M_fromLetters ws_M_fromLetters wi_M wc_M_fromLetters, by decide, by decide, by decide +kernel⟩
theorem wc_M_letter1 : Cond.code y_M_letter1 c_M_letter1 1 (some .int) ∈ mt_T := mt_in5 119 (by decide +kernel) rfl
theorem wm_M_178 : Cond.methodLink R_M 178 y_M_letter1 ∈ mt_T := mt_in5 117 (by decide +kernel) rfl
theorem wt_M_letter1 : Cond.static y_M_letter1 ∈ mt_T := mt_in5 118 (by decide +kernel) rfl
theorem cv_M_178 : cS_ R_M 178 y_M_letter1 c_M_letter1 1 (some .int) 1 := ⟨fa4 wm_M_178 wt_M_letter1 wi_M wc_M_letter1, rfl, by decide, by decide, by decide +kernel⟩
theorem wc_M_fromQuoted : Cond.code y_M_fromQuoted c_M_fromQuoted 7 none ∈ mt_T := mt_in5 123 (by decide +kernel) rfl
theorem wm_M_193 : Cond.methodLink R_M 193 y_M_fromQuoted ∈ mt_T := mt_in5 120 (by decide +kernel) rfl
theorem wn_M_fromQuoted : Cond.instanceMethod y_M_fromQuoted ∈ mt_T := mt_in5 122 (by decide +kernel) rfl
theorem ws_M_fromQuoted : Cond.selects R_M y_M_fromQuoted y_M_fromQuoted ∈ mt_T := mt_inp 50 (by decide +kernel) rfl
theorem cv_M_193 : cV_ R_M 193 y_M_fromQuoted c_M_fromQuoted 7 none 2 := ⟨fa5 wm_M_193 wn_M_fromQuoted ws_M_fromQuoted wi_M wc_M_fromQuoted, by decide, by decide, by decide +kernel⟩
theorem wc_M_behindBlanks : Cond.code y_M_behindBlanks c_M_behindBlanks 4 (some .int) ∈ mt_T := mt_in5 127 (by decide +kernel) rfl
theorem wm_M_181 : Cond.methodLink R_M 181 y_M_behindBlanks ∈ mt_T := mt_in5 124 (by decide +kernel) rfl
theorem wn_M_behindBlanks : Cond.instanceMethod y_M_behindBlanks ∈ mt_T := mt_in5 126 (by decide +kernel) rfl
theorem ws_M_behindBlanks : Cond.selects R_M y_M_behindBlanks y_M_behindBlanks ∈ mt_T := mt_inp 51 (by decide +kernel) rfl
theorem cv_M_181 : cV_ R_M 181 y_M_behindBlanks c_M_behindBlanks 4 (some .int) 2 := ⟨fa5 wm_M_181 wn_M_behindBlanks ws_M_behindBlanks wi_M wc_M_behindBlanks, by decide, by decide, by decide +kernel⟩
theorem wc_M_lineBreak : Cond.code y_M_lineBreak c_M_lineBreak 3 (some .int) ∈ mt_T := mt_in5 131 (by decide +kernel) rfl
theorem wm_M_184 : Cond.methodLink R_M 184 y_M_lineBreak ∈ mt_T := mt_in5 128 (by decide +kernel) rfl
theorem wn_M_lineBreak : Cond.instanceMethod y_M_lineBreak ∈ mt_T := mt_in5 130 (by decide +kernel) rfl
theorem ws_M_lineBreak : Cond.selects R_M y_M_lineBreak y_M_lineBreak ∈ mt_T := mt_inp 52 (by decide +kernel) rfl
theorem cv_M_184 : cV_ R_M 184 y_M_lineBreak c_M_lineBreak 3 (some .int) 2 := ⟨fa5 wm_M_184 wn_M_lineBreak ws_M_lineBreak wi_M wc_M_lineBreak, by decide, by decide, by decide +kernel⟩
theorem wc_M_hex : Cond.code y_M_hex c_M_hex 1 (some .int) ∈ mt_T := mt_in5 134 (by decide +kernel) rfl
theorem wm_M_187 : Cond.methodLink R_M 187 y_M_hex ∈ mt_T := mt_in5 132 (by decide +kernel) rfl
theorem wt_M_hex : Cond.static y_M_hex ∈ mt_T := mt_in5 133 (by decide +kernel) rfl
theorem cv_M_187 : cS_ R_M 187 y_M_hex c_M_hex 1 (some .int) 1 := ⟨fa4 wm_M_187 wt_M_hex wi_M wc_M_hex, rfl, by decide, by decide, by decide +kernel⟩
theorem wc_M_parts : Cond.code y_M_parts c_M_parts 10 (some .int) ∈ mt_T := mt_in5 138 (by decide +kernel) rfl
theorem wm_M_214 : Cond.methodLink R_M 214 y_M_parts ∈ mt_T := mt_in5 135 (by decide +kernel) rfl
theorem wn_M_parts : Cond.instanceMethod y_M_parts ∈ mt_T := mt_in5 137 (by decide +kernel) rfl
theorem ws_M_parts : Cond.selects R_M y_M_parts y_M_parts ∈ mt_T := mt_inp 53 (by decide +kernel) rfl
theorem cv_M_214 : cV_ R_M 214 y_M_parts c_M_parts 10 (some .int) 1 := ⟨fa5 wm_M_214 wn_M_parts ws_M_parts wi_M wc_M_parts, by decide, by decide, by decide +kernel⟩
theorem wc_M_delimiter : Cond.code y_M_delimiter c_M_delimiter 7 (some .int) ∈ mt_T := mt_in5 142 (by decide +kernel) rfl
theorem wm_M_172 : Cond.methodLink R_M 172 y_M_delimiter ∈ mt_T := mt_in5 139 (by decide +kernel) rfl
theorem wn_M_delimiter : Cond.instanceMethod y_M_delimiter ∈ mt_T := mt_in5 141 (by decide +kernel) rfl
theorem ws_M_delimiter : Cond.selects R_M y_M_delimiter y_M_delimiter ∈ mt_T := mt_inp 54 (by decide +kernel) rfl
theorem cv_M_172 : cV_ R_M 172 y_M_delimiter c_M_delimiter 7 (some .int) 3 := ⟨fa5 wm_M_172 wn_M_delimiter ws_M_delimiter wi_M wc_M_delimiter, by decide, by decide, by decide +kernel⟩
theorem wc_M_entities : Cond.code y_M_entities c_M_entities 1 (some .int) ∈ mt_T := mt_in5 146 (by decide +kernel) rfl
theorem wm_L_61 : Cond.methodLink R_L 61 y_M_entities ∈ mt_T := mt_in5 143 (by decide +kernel) rfl
theorem wn_M_entities : Cond.instanceMethod y_M_entities ∈ mt_T := mt_in5 144 (by decide +kernel) rfl
theorem ws_M_entities : Cond.selects R_M y_M_entities y_M_entities ∈ mt_T := mt_in5 145 (by decide +kernel) rfl
theorem cv_L_61 : cV_ R_L 61 y_M_entities c_M_entities 1 (some .int) 0 := ⟨fa5 wm_L_61 wn_M_entities ws_M_entities wi_M wc_M_entities, by decide, by decide, by decide +kernel⟩
theorem wc_M_look : Cond.code y_M_look c_M_look 4 (some .int) ∈ mt_T := mt_in5 150 (by decide +kernel) rfl
theorem wm_L_67 : Cond.methodLink R_L 67 y_M_look ∈ mt_T := mt_in5 147 (by decide +kernel) rfl
theorem wn_M_look : Cond.instanceMethod y_M_look ∈ mt_T := mt_in5 148 (by decide +kernel) rfl
theorem ws_M_look : Cond.selects R_M y_M_look y_M_look ∈ mt_T := mt_in5 149 (by decide +kernel) rfl
theorem cv_L_67 : cV_ R_L 67 y_M_look c_M_look 4 (some .int) 2 := ⟨fa5 wm_L_67 wn_M_look ws_M_look wi_M wc_M_look, by decide, by decide, by decide +kernel⟩
theorem wc_M_isEntity : Cond.code y_M_isEntity c_M_isEntity 2 (some .boolean) ∈ mt_T := mt_in5 154 (by decide +kernel) rfl
theorem wm_M_224 : Cond.methodLink R_M 224 y_M_isEntity ∈ mt_T := mt_in5 151 (by decide +kernel) rfl
theorem wn_M_isEntity : Cond.instanceMethod y_M_isEntity ∈ mt_T := mt_in5 153 (by decide +kernel) rfl
theorem ws_M_isEntity : Cond.selects R_M y_M_isEntity y_M_isEntity ∈ mt_T := mt_inp 55 (by decide +kernel) rfl
theorem cv_M_224 : cV_ R_M 224 y_M_isEntity c_M_isEntity 2 (some .boolean) 1 := ⟨fa5 wm_M_224 wn_M_isEntity ws_M_isEntity wi_M wc_M_isEntity, by decide, by decide, by decide +kernel⟩
theorem wc_M_fails : Cond.code y_M_fails c_M_fails 3 (some .boolean) ∈ mt_T := mt_in5 158 (by decide +kernel) rfl
theorem wm_M_227 : Cond.methodLink R_M 227 y_M_fails ∈ mt_T := mt_in5 155 (by decide +kernel) rfl
theorem wn_M_fails : Cond.instanceMethod y_M_fails ∈ mt_T := mt_in5 157 (by decide +kernel) rfl
theorem ws_M_fails : Cond.selects R_M y_M_fails y_M_fails ∈ mt_T := mt_inp 56 (by decide +kernel) rfl
theorem cv_M_227 : cV_ R_M 227 y_M_fails c_M_fails 3 (some .boolean) 2 := ⟨fa5 wm_M_227 wn_M_fails ws_M_fails wi_M wc_M_fails, by decide, by decide, by decide +kernel⟩
theorem wc_M_length : Cond.code y_M_length c_M_length 5 (some .int) ∈ mt_T := mt_in5 162 (by decide +kernel) rfl
theorem wm_L_74 : Cond.methodLink R_L 74 y_M_length ∈ mt_T := mt_in5 159 (by decide +kernel) rfl
theorem wn_M_length : Cond.instanceMethod y_M_length ∈ mt_T := mt_in5 160 (by decide +kernel) rfl
theorem ws_M_length : Cond.selects R_M y_M_length y_M_length ∈ mt_T := mt_in5 161 (by decide +kernel) rfl
theorem cv_L_74 : cV_ R_L 74 y_M_length c_M_length 5 (some .int) 3 := ⟨fa5 wm_L_74 wn_M_length ws_M_length wi_M wc_M_length, by decide, by decide, by decide +kernel⟩
theorem wc_M_isField : Cond.code y_M_isField c_M_isField 3 (some .boolean) ∈ mt_T := mt_in5 166 (by decide +kernel) rfl
theorem wm_M_231 : Cond.methodLink R_M 231 y_M_isField ∈ mt_T := mt_in5 163 (by decide +kernel) rfl
theorem wn_M_isField : Cond.instanceMethod y_M_isField ∈ mt_T := mt_in5 165 (by decide +kernel) rfl
theorem ws_M_isField : Cond.selects R_M y_M_isField y_M_isField ∈ mt_T := mt_inp 57 (by decide +kernel) rfl
theorem cv_M_231 : cV_ R_M 231 y_M_isField c_M_isField 3 (some .boolean) 2 := ⟨fa5 wm_M_231 wn_M_isField ws_M_isField wi_M wc_M_isField, by decide, by decide, by decide +kernel⟩
theorem wc_M_letter : Cond.code y_M_letter c_M_letter 6 (some .int) ∈ mt_T := mt_in5 170 (by decide +kernel) rfl
theorem wm_L_78 : Cond.methodLink R_L 78 y_M_letter ∈ mt_T := mt_in5 167 (by decide +kernel) rfl
theorem wn_M_letter : Cond.instanceMethod y_M_letter ∈ mt_T := mt_in5 168 (by decide +kernel) rfl
theorem ws_M_letter : Cond.selects R_M y_M_letter y_M_letter ∈ mt_T := mt_in5 169 (by decide +kernel) rfl
theorem cv_L_78 : cV_ R_L 78 y_M_letter c_M_letter 6 (some .int) 4 := ⟨fa5 wm_L_78 wn_M_letter ws_M_letter wi_M wc_M_letter, by decide, by decide, by decide +kernel⟩
theorem wc_M_content : Cond.code y_M_content c_M_content 4 (some .int) ∈ mt_T := mt_in5 174 (by decide +kernel) rfl
theorem wm_L_81 : Cond.methodLink R_L 81 y_M_content ∈ mt_T := mt_in5 171 (by decide +kernel) rfl
theorem wn_M_content : Cond.instanceMethod y_M_content ∈ mt_T := mt_in5 172 (by decide +kernel) rfl
theorem ws_M_content : Cond.selects R_M y_M_content y_M_content ∈ mt_T := mt_in5 173 (by decide +kernel) rfl
theorem cv_L_81 : cV_ R_L 81 y_M_content c_M_content 4 (some .int) 2 := ⟨fa5 wm_L_81 wn_M_content ws_M_content wi_M wc_M_content, by decide, by decide, by decide +kernel⟩
theorem wc_M_boundary : Cond.code y_M_boundary c_M_boundary 3 (some .int) ∈ mt_T := mt_in5 178 (by decide +kernel) rfl
theorem wm_L_84 : Cond.methodLink R_L 84 y_M_boundary ∈ mt_T := mt_in5 175 (by decide +kernel) rfl
theorem wn_M_boundary : Cond.instanceMethod y_M_boundary ∈ mt_T := mt_in5 176 (by decide +kernel) rfl
theorem ws_M_boundary : Cond.selects R_M y_M_boundary y_M_boundary ∈ mt_T := mt_in5 177 (by decide +kernel) rfl
theorem cv_L_84 : cV_ R_L 84 y_M_boundary c_M_boundary 3 (some .int) 2 := ⟨fa5 wm_L_84 wn_M_boundary ws_M_boundary wi_M wc_M_boundary, by decide, by decide, by decide +kernel⟩
theorem wc_M_write : Cond.code y_M_write c_M_write 2 (some .int) ∈ mt_T := mt_in5 182 (by decide +kernel) rfl
theorem wm_L_88 : Cond.methodLink R_L 88 y_M_write ∈ mt_T := mt_in5 179 (by decide +kernel) rfl
theorem wn_M_write : Cond.instanceMethod y_M_write ∈ mt_T := mt_in5 180 (by decide +kernel) rfl
theorem ws_M_write : Cond.selects R_M y_M_write y_M_write ∈ mt_T := mt_in5 181 (by decide +kernel) rfl
theorem cv_L_88 : cV_ R_L 88 y_M_write c_M_write 2 (some .int) 0 := ⟨fa5 wm_L_88 wn_M_write ws_M_write wi_M wc_M_write, by decide, by decide, by decide +kernel⟩
theorem wc_M_opens : Cond.code y_M_opens c_M_opens 2 none ∈ mt_T := mt_in5 186 (by decide +kernel) rfl
theorem wm_M_279 : Cond.methodLink R_M 279 y_M_opens ∈ mt_T := mt_in5 183 (by decide +kernel) rfl
theorem wn_M_opens : Cond.instanceMethod y_M_opens ∈ mt_T := mt_in5 185 (by decide +kernel) rfl
theorem ws_M_opens : Cond.selects R_M y_M_opens y_M_opens ∈ mt_T := mt_inp 58 (by decide +kernel) rfl
theorem cv_M_279 : cV_ R_M 279 y_M_opens c_M_opens 2 none 1 := ⟨fa5 wm_M_279 wn_M_opens ws_M_opens wi_M wc_M_opens, by decide, by decide, by decide +kernel⟩
theorem wc_M_putHead : Cond.code y_M_putHead c_M_putHead 3 none ∈ mt_T := mt_in5 190 (by decide +kernel) rfl
theorem wm_M_266 : Cond.methodLink R_M 266 y_M_putHead ∈ mt_T := mt_in5 187 (by decide +kernel) rfl
theorem wn_M_putHead : Cond.instanceMethod y_M_putHead ∈ mt_T := mt_in5 189 (by decide +kernel) rfl
theorem ws_M_putHead : Cond.selects R_M y_M_putHead y_M_putHead ∈ mt_T := mt_inp 59 (by decide +kernel) rfl
theorem cv_M_266 : cV_ R_M 266 y_M_putHead c_M_putHead 3 none 1 := ⟨fa5 wm_M_266 wn_M_putHead ws_M_putHead wi_M wc_M_putHead, by decide, by decide, by decide +kernel⟩
theorem wc_M_putText : Cond.code y_M_putText c_M_putText 4 none ∈ mt_T := mt_in5 194 (by decide +kernel) rfl
theorem wm_M_257 : Cond.methodLink R_M 257 y_M_putText ∈ mt_T := mt_in5 191 (by decide +kernel) rfl
theorem wn_M_putText : Cond.instanceMethod y_M_putText ∈ mt_T := mt_in5 193 (by decide +kernel) rfl
theorem ws_M_putText : Cond.selects R_M y_M_putText y_M_putText ∈ mt_T := mt_inp 60 (by decide +kernel) rfl
theorem cv_M_257 : cV_ R_M 257 y_M_putText c_M_putText 4 none 2 := ⟨fa5 wm_M_257 wn_M_putText ws_M_putText wi_M wc_M_putText, by decide, by decide, by decide +kernel⟩
theorem wc_M_put : Cond.code y_M_put c_M_put 2 none ∈ mt_T := mt_in5 198 (by decide +kernel) rfl
theorem wm_M_238 : Cond.methodLink R_M 238 y_M_put ∈ mt_T := mt_in5 195 (by decide +kernel) rfl
theorem wn_M_put : Cond.instanceMethod y_M_put ∈ mt_T := mt_in5 197 (by decide +kernel) rfl
theorem ws_M_put : Cond.selects R_M y_M_put y_M_put ∈ mt_T := mt_inp 61 (by decide +kernel) rfl
theorem cv_M_238 : cV_ R_M 238 y_M_put c_M_put 2 none 1 := ⟨fa5 wm_M_238 wn_M_put ws_M_put wi_M wc_M_put, by decide, by decide, by decide +kernel⟩
theorem wc_M_putLine : Cond.code y_M_putLine c_M_putLine 1 none ∈ mt_T := mt_in5 202 (by decide +kernel) rfl
theorem wm_M_247 : Cond.methodLink R_M 247 y_M_putLine ∈ mt_T := mt_in5 199 (by decide +kernel) rfl
theorem wn_M_putLine : Cond.instanceMethod y_M_putLine ∈ mt_T := mt_in5 201 (by decide +kernel) rfl
theorem ws_M_putLine : Cond.selects R_M y_M_putLine y_M_putLine ∈ mt_T := mt_inp 62 (by decide +kernel) rfl
theorem cv_M_247 : cV_ R_M 247 y_M_putLine c_M_putLine 1 none 0 := ⟨fa5 wm_M_247 wn_M_putLine ws_M_putLine wi_M wc_M_putLine, by decide, by decide, by decide +kernel⟩
theorem wc_M_putLetters : Cond.code y_M_putLetters c_M_putLetters 8 none ∈ mt_T := mt_in5 206 (by decide +kernel) rfl
theorem wm_M_260 : Cond.methodLink R_M 260 y_M_putLetters ∈ mt_T := mt_in5 203 (by decide +kernel) rfl
theorem wn_M_putLetters : Cond.instanceMethod y_M_putLetters ∈ mt_T := mt_in5 205 (by decide +kernel) rfl
theorem ws_M_putLetters : Cond.selects R_M y_M_putLetters y_M_putLetters ∈ mt_T := mt_inp 63 (by decide +kernel) rfl
theorem cv_M_260 : cV_ R_M 260 y_M_putLetters c_M_putLetters 8 none 2 := ⟨fa5 wm_M_260 wn_M_putLetters ws_M_putLetters wi_M wc_M_putLetters, by decide, by decide, by decide +kernel⟩
theorem wc_M_toLetter : Cond.code y_M_toLetter c_M_toLetter 1 (some .int) ∈ mt_T := mt_in5 209 (by decide +kernel) rfl
theorem wm_M_244 : Cond.methodLink R_M 244 y_M_toLetter ∈ mt_T := mt_in5 207 (by decide +kernel) rfl
theorem wt_M_toLetter : Cond.static y_M_toLetter ∈ mt_T := mt_in5 208 (by decide +kernel) rfl
theorem cv_M_244 : cS_ R_M 244 y_M_toLetter c_M_toLetter 1 (some .int) 1 := ⟨fa4 wm_M_244 wt_M_toLetter wi_M wc_M_toLetter, rfl, by decide, by decide, by decide +kernel⟩
theorem wc_M_putQuoted : Cond.code y_M_putQuoted c_M_putQuoted 5 none ∈ mt_T := mt_in5 213 (by decide +kernel) rfl
theorem wm_M_263 : Cond.methodLink R_M 263 y_M_putQuoted ∈ mt_T := mt_in5 210 (by decide +kernel) rfl
theorem wn_M_putQuoted : Cond.instanceMethod y_M_putQuoted ∈ mt_T := mt_in5 212 (by decide +kernel) rfl
theorem ws_M_putQuoted : Cond.selects R_M y_M_putQuoted y_M_putQuoted ∈ mt_T := mt_inp 64 (by decide +kernel) rfl
theorem cv_M_263 : cV_ R_M 263 y_M_putQuoted c_M_putQuoted 5 none 2 := ⟨fa5 wm_M_263 wn_M_putQuoted ws_M_putQuoted wi_M wc_M_putQuoted, by decide, by decide, by decide +kernel⟩
theorem wc_M_plain : Cond.code y_M_plain c_M_plain 6 (some .boolean) ∈ mt_T := mt_in5 217 (by decide +kernel) rfl
theorem wm_M_250 : Cond.methodLink R_M 250 y_M_plain ∈ mt_T := mt_in5 214 (by decide +kernel) rfl
theorem wn_M_plain : Cond.instanceMethod y_M_plain ∈ mt_T := mt_in5 216 (by decide +kernel) rfl
theorem ws_M_plain : Cond.selects R_M y_M_plain y_M_plain ∈ mt_T := mt_inp 65 (by decide +kernel) rfl
theorem cv_M_250 : cV_ R_M 250 y_M_plain c_M_plain 6 (some .boolean) 4 := ⟨fa5 wm_M_250 wn_M_plain ws_M_plain wi_M wc_M_plain, by decide, by decide, by decide +kernel⟩
theorem wc_M_digit : Cond.code y_M_digit c_M_digit 1 (some .int) ∈ mt_T := mt_in5 220 (by decide +kernel) rfl
theorem wm_M_254 : Cond.methodLink R_M 254 y_M_digit ∈ mt_T := mt_in5 218 (by decide +kernel) rfl
theorem wt_M_digit : Cond.static y_M_digit ∈ mt_T := mt_in5 219 (by decide +kernel) rfl
theorem cv_M_254 : cS_ R_M 254 y_M_digit c_M_digit 1 (some .int) 1 := ⟨fa4 wm_M_254 wt_M_digit wi_M wc_M_digit, rfl, by decide, by decide, by decide +kernel⟩
theorem wc_M_goesOn : Cond.code y_M_goesOn c_M_goesOn 4 none ∈ mt_T := mt_in5 224 (by decide +kernel) rfl
theorem wm_M_282 : Cond.methodLink R_M 282 y_M_goesOn ∈ mt_T := mt_in5 221 (by decide +kernel) rfl
theorem wn_M_goesOn : Cond.instanceMethod y_M_goesOn ∈ mt_T := mt_in5 223 (by decide +kernel) rfl
theorem ws_M_goesOn : Cond.selects R_M y_M_goesOn y_M_goesOn ∈ mt_T := mt_inp 66 (by decide +kernel) rfl
theorem cv_M_282 : cV_ R_M 282 y_M_goesOn c_M_goesOn 4 none 0 := ⟨fa5 wm_M_282 wn_M_goesOn ws_M_goesOn wi_M wc_M_goesOn, by decide, by decide, by decide +kernel⟩
theorem wc_M_partOf : Cond.code y_M_partOf c_M_partOf 4 (some .int) ∈ mt_T := mt_in5 228 (by decide +kernel) rfl
theorem wm_M_272 : Cond.methodLink R_M 272 y_M_partOf ∈ mt_T := mt_in5 225 (by decide +kernel) rfl
theorem wn_M_partOf : Cond.instanceMethod y_M_partOf ∈ mt_T := mt_in5 227 (by decide +kernel) rfl
theorem ws_M_partOf : Cond.selects R_M y_M_partOf y_M_partOf ∈ mt_T := mt_inp 67 (by decide +kernel) rfl
theorem cv_M_272 : cV_ R_M 272 y_M_partOf c_M_partOf 4 (some .int) 2 := ⟨fa5 wm_M_272 wn_M_partOf ws_M_partOf wi_M wc_M_partOf, by decide, by decide, by decide +kernel⟩
theorem wc_M_putDelimiter : Cond.code y_M_putDelimiter c_M_putDelimiter 3 none ∈ mt_T := mt_in5 232 (by decide +kernel) rfl
theorem wm_M_275 : Cond.methodLink R_M 275 y_M_putDelimiter ∈ mt_T := mt_in5 229 (by decide +kernel) rfl
theorem wn_M_putDelimiter : Cond.instanceMethod y_M_putDelimiter ∈ mt_T := mt_in5 231 (by decide +kernel) rfl
theorem ws_M_putDelimiter : Cond.selects R_M y_M_putDelimiter y_M_putDelimiter ∈ mt_T := mt_inp 68 (by decide +kernel) rfl
theorem cv_M_275 : cV_ R_M 275 y_M_putDelimiter c_M_putDelimiter 3 none 2 := ⟨fa5 wm_M_275 wn_M_putDelimiter ws_M_putDelimiter wi_M wc_M_putDelimiter, by decide, by decide, by decide +kernel⟩
theorem wc_M_written : Cond.code y_M_written c_M_written 2 (some .int) ∈ mt_T := mt_in5 236 (by decide +kernel) rfl
theorem wm_L_93 : Cond.methodLink R_L 93 y_M_written ∈ mt_T := mt_in5 233 (by decide +kernel) rfl
theorem wn_M_written : Cond.instanceMethod y_M_written ∈ mt_T := mt_in5 234 (by decide +kernel) rfl
theorem ws_M_written : Cond.selects R_M y_M_written y_M_written ∈ mt_T := mt_in5 235 (by decide +kernel) rfl
theorem cv_L_93 : cV_ R_L 93 y_M_written c_M_written 2 (some .int) 1 := ⟨fa5 wm_L_93 wn_M_written ws_M_written wi_M wc_M_written, by decide, by decide, by decide +kernel⟩
theorem wc_M_again : Cond.code y_M_again c_M_again 2 (some .int) ∈ mt_T := mt_in6 0 (by decide +kernel) rfl
theorem wm_L_97 : Cond.methodLink R_L 97 y_M_again ∈ mt_T := mt_in5 237 (by decide +kernel) rfl
theorem wn_M_again : Cond.instanceMethod y_M_again ∈ mt_T := mt_in5 238 (by decide +kernel) rfl
theorem ws_M_again : Cond.selects R_M y_M_again y_M_again ∈ mt_T := mt_in5 239 (by decide +kernel) rfl
theorem cv_L_97 : cV_ R_L 97 y_M_again c_M_again 2 (some .int) 0 := ⟨fa5 wm_L_97 wn_M_again ws_M_again wi_M wc_M_again, by decide, by decide, by decide +kernel⟩
theorem wk_D_59 : Cond.constant R_D 59 (Int32.ofInt (65535)) ∈ mt_T := mt_in3 79 (by decide +kernel) rfl
theorem wk_M_50 : Cond.constantLong R_M 50 (Int64.ofInt (255)) ∈ mt_T := mt_in4 219 (by decide +kernel) rfl
theorem wk_M_123 : Cond.constantLong R_M 123 (Int64.ofInt (7196677052775077620)) ∈ mt_T := mt_in5 39 (by decide +kernel) rfl
theorem wk_M_125 : Cond.constantLong R_M 125 (Int64.ofInt (8269659629885888229)) ∈ mt_T := mt_in5 40 (by decide +kernel) rfl
theorem wk_M_127 : Cond.constantLong R_M 127 (Int64.ofInt (487216738105191)) ∈ mt_T := mt_in5 41 (by decide +kernel) rfl
theorem wk_M_87 : Cond.constantLong R_M 87 (Int64.ofInt (127)) ∈ mt_T := mt_in5 54 (by decide +kernel) rfl
theorem wk_M_144 : Cond.constantLong R_M 144 (Int64.ofInt (3393535433524)) ∈ mt_T := mt_in5 81 (by decide +kernel) rfl
theorem wk_M_146 : Cond.constantLong R_M 146 (Int64.ofInt (8208865467050981490)) ∈ mt_T := mt_in5 82 (by decide +kernel) rfl
theorem wk_M_148 : Cond.constantLong R_M 148 (Int64.ofInt (465605798442597)) ∈ mt_T := mt_in5 83 (by decide +kernel) rfl
theorem wk_M_158 : Cond.constantLong R_M 158 (Int64.ofInt (1996901)) ∈ mt_T := mt_in5 88 (by decide +kernel) rfl
theorem wk_M_160 : Cond.constantLong R_M 160 (Int64.ofInt (482888516137957)) ∈ mt_T := mt_in5 93 (by decide +kernel) rfl
theorem wk_M_162 : Cond.constantLong R_M 162 (Int64.ofInt (3944599132466)) ∈ mt_T := mt_in5 94 (by decide +kernel) rfl
theorem wk_M_164 : Cond.constantLong R_M 164 (Int64.ofInt (7920621897859496308)) ∈ mt_T := mt_in5 95 (by decide +kernel) rfl
theorem wk_M_153 : Cond.constantLong R_M 153 (Int64.ofInt (55661328426629497)) ∈ mt_T := mt_in5 100 (by decide +kernel) rfl
theorem wk_L_43 : Cond.constantLong R_L 43 (Int64.ofInt (4294967295)) ∈ mt_T := mt_in6 1 (by decide +kernel) rfl
end
section
theorem d_B_init_0 : decode c_B_init 0 = .ok (.aload_n 0, 1) := by decide +kernel
theorem d_B_init_1 : decode c_B_init 1 = .ok (.invokespecial 3, 3) := by decide +kernel
theorem d_B_init_4 : decode c_B_init 4 = .ok (.aload_n 0, 1) := by decide +kernel
theorem d_B_init_5 : decode c_B_init 5 = .ok (.iload_n 1, 1) := by decide +kernel
theorem d_B_init_6 : decode c_B_init 6 = .ok (.newarray .int, 2) := by decide +kernel
theorem d_B_init_8 : decode c_B_init 8 = .ok (.putfield 9, 3) := by decide +kernel
theorem d_B_init_11 : decode c_B_init 11 = .ok (.aload_n 0, 1) := by decide +kernel
theorem d_B_init_12 : decode c_B_init 12 = .ok (.iconst 0, 1) := by decide +kernel
theorem d_B_init_13 : decode c_B_init 13 = .ok (.putfield 15, 3) := by decide +kernel
theorem d_B_init_16 : decode c_B_init 16 = .ok (.aload_n 0, 1) := by decide +kernel
theorem d_B_init_17 : decode c_B_init 17 = .ok (.iconst 0, 1) := by decide +kernel
theorem d_B_init_18 : decode c_B_init 18 = .ok (.putfield 19, 3) := by decide +kernel
theorem d_B_init_21 : decode c_B_init 21 = .ok (.return_, 1) := by decide +kernel
theorem d_B_put_0 : decode c_B_put 0 = .ok (.aload_n 0, 1) := by decide +kernel
theorem d_B_put_1 : decode c_B_put 1 = .ok (.getfield 15, 3) := by decide +kernel
theorem d_B_put_4 : decode c_B_put 4 = .ok (.ifCond .lt 15, 3) := by decide +kernel
theorem d_B_put_7 : decode c_B_put 7 = .ok (.aload_n 0, 1) := by decide +kernel
theorem d_B_put_8 : decode c_B_put 8 = .ok (.getfield 15, 3) := by decide +kernel
theorem d_B_put_11 : decode c_B_put 11 = .ok (.aload_n 0, 1) := by decide +kernel
theorem d_B_put_12 : decode c_B_put 12 = .ok (.getfield 9, 3) := by decide +kernel
theorem d_B_put_15 : decode c_B_put 15 = .ok (.arraylength, 1) := by decide +kernel
theorem d_B_put_16 : decode c_B_put 16 = .ok (.if_icmp .lt 9, 3) := by decide +kernel
theorem d_B_put_19 : decode c_B_put 19 = .ok (.aload_n 0, 1) := by decide +kernel
theorem d_B_put_20 : decode c_B_put 20 = .ok (.iconst 1, 1) := by decide +kernel
theorem d_B_put_21 : decode c_B_put 21 = .ok (.putfield 19, 3) := by decide +kernel
theorem d_B_put_24 : decode c_B_put 24 = .ok (.return_, 1) := by decide +kernel
theorem d_B_put_25 : decode c_B_put 25 = .ok (.aload_n 0, 1) := by decide +kernel
theorem d_B_put_26 : decode c_B_put 26 = .ok (.getfield 9, 3) := by decide +kernel
theorem d_B_put_29 : decode c_B_put 29 = .ok (.aload_n 0, 1) := by decide +kernel
theorem d_B_put_30 : decode c_B_put 30 = .ok (.getfield 15, 3) := by decide +kernel
theorem d_B_put_33 : decode c_B_put 33 = .ok (.iload_n 1, 1) := by decide +kernel
theorem d_B_put_34 : decode c_B_put 34 = .ok (.iastore, 1) := by decide +kernel
theorem d_B_put_35 : decode c_B_put 35 = .ok (.aload_n 0, 1) := by decide +kernel
theorem d_B_put_36 : decode c_B_put 36 = .ok (.dup, 1) := by decide +kernel
theorem d_B_put_37 : decode c_B_put 37 = .ok (.getfield 15, 3) := by decide +kernel
theorem d_B_put_40 : decode c_B_put 40 = .ok (.iconst 1, 1) := by decide +kernel
theorem d_B_put_41 : decode c_B_put 41 = .ok (.iadd, 1) := by decide +kernel
theorem d_B_put_42 : decode c_B_put 42 = .ok (.putfield 15, 3) := by decide +kernel
theorem d_B_put_45 : decode c_B_put 45 = .ok (.return_, 1) := by decide +kernel
theorem d_B_empty_0 : decode c_B_empty 0 = .ok (.aload_n 0, 1) := by decide +kernel
theorem d_B_empty_1 : decode c_B_empty 1 = .ok (.iconst 0, 1) := by decide +kernel
theorem d_B_empty_2 : decode c_B_empty 2 = .ok (.putfield 15, 3) := by decide +kernel
theorem d_B_empty_5 : decode c_B_empty 5 = .ok (.aload_n 0, 1) := by decide +kernel
theorem d_B_empty_6 : decode c_B_empty 6 = .ok (.iconst 0, 1) := by decide +kernel
theorem d_B_empty_7 : decode c_B_empty 7 = .ok (.putfield 19, 3) := by decide +kernel
theorem d_B_empty_10 : decode c_B_empty 10 = .ok (.return_, 1) := by decide +kernel
theorem d_B_putRange_0 : decode c_B_putRange 0 = .ok (.iload_n 2, 1) := by decide +kernel
theorem d_B_putRange_1 : decode c_B_putRange 1 = .ok (.istore 4, 2) := by decide +kernel
theorem d_B_putRange_3 : decode c_B_putRange 3 = .ok (.iload 4, 2) := by decide +kernel
theorem d_B_putRange_5 : decode c_B_putRange 5 = .ok (.iload_n 3, 1) := by decide +kernel
theorem d_B_putRange_6 : decode c_B_putRange 6 = .ok (.if_icmp .ge 19, 3) := by decide +kernel
theorem d_B_putRange_9 : decode c_B_putRange 9 = .ok (.aload_n 0, 1) := by decide +kernel
theorem d_B_putRange_10 : decode c_B_putRange 10 = .ok (.aload_n 1, 1) := by decide +kernel
theorem d_B_putRange_11 : decode c_B_putRange 11 = .ok (.iload 4, 2) := by decide +kernel
theorem d_B_putRange_13 : decode c_B_putRange 13 = .ok (.invokevirtual 23, 3) := by decide +kernel
theorem d_B_putRange_16 : decode c_B_putRange 16 = .ok (.invokevirtual 27, 3) := by decide +kernel
theorem d_B_putRange_19 : decode c_B_putRange 19 = .ok (.iinc 4 1, 3) := by decide +kernel
theorem d_B_putRange_22 : decode c_B_putRange 22 = .ok (.goto (-19), 3) := by decide +kernel
theorem d_B_putRange_25 : decode c_B_putRange 25 = .ok (.return_, 1) := by decide +kernel
theorem d_B_at_0 : decode c_B_at 0 = .ok (.iload_n 1, 1) := by decide +kernel
theorem d_B_at_1 : decode c_B_at 1 = .ok (.ifCond .lt 29, 3) := by decide +kernel
theorem d_B_at_4 : decode c_B_at 4 = .ok (.iload_n 1, 1) := by decide +kernel
theorem d_B_at_5 : decode c_B_at 5 = .ok (.aload_n 0, 1) := by decide +kernel
theorem d_B_at_6 : decode c_B_at 6 = .ok (.getfield 15, 3) := by decide +kernel
theorem d_B_at_9 : decode c_B_at 9 = .ok (.if_icmp .ge 21, 3) := by decide +kernel
theorem d_B_at_12 : decode c_B_at 12 = .ok (.iload_n 1, 1) := by decide +kernel
theorem d_B_at_13 : decode c_B_at 13 = .ok (.aload_n 0, 1) := by decide +kernel
theorem d_B_at_14 : decode c_B_at 14 = .ok (.getfield 9, 3) := by decide +kernel
theorem d_B_at_17 : decode c_B_at 17 = .ok (.arraylength, 1) := by decide +kernel
theorem d_B_at_18 : decode c_B_at 18 = .ok (.if_icmp .ge 12, 3) := by decide +kernel
theorem d_B_at_21 : decode c_B_at 21 = .ok (.aload_n 0, 1) := by decide +kernel
theorem d_B_at_22 : decode c_B_at 22 = .ok (.getfield 9, 3) := by decide +kernel
theorem d_B_at_25 : decode c_B_at 25 = .ok (.iload_n 1, 1) := by decide +kernel
theorem d_B_at_26 : decode c_B_at 26 = .ok (.iaload, 1) := by decide +kernel
theorem d_B_at_27 : decode c_B_at 27 = .ok (.goto 4, 3) := by decide +kernel
theorem d_B_at_30 : decode c_B_at 30 = .ok (.iconst (-1), 1) := by decide +kernel
theorem d_B_at_31 : decode c_B_at 31 = .ok (.ireturn, 1) := by decide +kernel
theorem d_B_lineEnd_0 : decode c_B_lineEnd 0 = .ok (.iload_n 1, 1) := by decide +kernel
theorem d_B_lineEnd_1 : decode c_B_lineEnd 1 = .ok (.istore_n 3, 1) := by decide +kernel
theorem d_B_lineEnd_2 : decode c_B_lineEnd 2 = .ok (.iload_n 3, 1) := by decide +kernel
theorem d_B_lineEnd_3 : decode c_B_lineEnd 3 = .ok (.iload_n 2, 1) := by decide +kernel
theorem d_B_lineEnd_4 : decode c_B_lineEnd 4 = .ok (.if_icmp .ge 23, 3) := by decide +kernel
theorem d_B_lineEnd_7 : decode c_B_lineEnd 7 = .ok (.aload_n 0, 1) := by decide +kernel
theorem d_B_lineEnd_8 : decode c_B_lineEnd 8 = .ok (.iload_n 3, 1) := by decide +kernel
theorem d_B_lineEnd_9 : decode c_B_lineEnd 9 = .ok (.invokevirtual 23, 3) := by decide +kernel
theorem d_B_lineEnd_12 : decode c_B_lineEnd 12 = .ok (.bipush 10, 2) := by decide +kernel
theorem d_B_lineEnd_14 : decode c_B_lineEnd 14 = .ok (.if_icmp .ne 7, 3) := by decide +kernel
theorem d_B_lineEnd_17 : decode c_B_lineEnd 17 = .ok (.iload_n 3, 1) := by decide +kernel
theorem d_B_lineEnd_18 : decode c_B_lineEnd 18 = .ok (.iconst 1, 1) := by decide +kernel
theorem d_B_lineEnd_19 : decode c_B_lineEnd 19 = .ok (.iadd, 1) := by decide +kernel
theorem d_B_lineEnd_20 : decode c_B_lineEnd 20 = .ok (.ireturn, 1) := by decide +kernel
theorem d_B_lineEnd_21 : decode c_B_lineEnd 21 = .ok (.iinc 3 1, 3) := by decide +kernel
theorem d_B_lineEnd_24 : decode c_B_lineEnd 24 = .ok (.goto (-22), 3) := by decide +kernel
theorem d_B_lineEnd_27 : decode c_B_lineEnd 27 = .ok (.iload_n 2, 1) := by decide +kernel
theorem d_B_lineEnd_28 : decode c_B_lineEnd 28 = .ok (.ireturn, 1) := by decide +kernel
theorem d_B_textEnd_0 : decode c_B_textEnd 0 = .ok (.iload_n 2, 1) := by decide +kernel
theorem d_B_textEnd_1 : decode c_B_textEnd 1 = .ok (.iload_n 1, 1) := by decide +kernel
theorem d_B_textEnd_2 : decode c_B_textEnd 2 = .ok (.if_icmp .le 15, 3) := by decide +kernel
theorem d_B_textEnd_5 : decode c_B_textEnd 5 = .ok (.aload_n 0, 1) := by decide +kernel
theorem d_B_textEnd_6 : decode c_B_textEnd 6 = .ok (.iload_n 2, 1) := by decide +kernel
theorem d_B_textEnd_7 : decode c_B_textEnd 7 = .ok (.iconst 1, 1) := by decide +kernel
theorem d_B_textEnd_8 : decode c_B_textEnd 8 = .ok (.isub, 1) := by decide +kernel
theorem d_B_textEnd_9 : decode c_B_textEnd 9 = .ok (.invokevirtual 23, 3) := by decide +kernel
theorem d_B_textEnd_12 : decode c_B_textEnd 12 = .ok (.bipush 10, 2) := by decide +kernel
theorem d_B_textEnd_14 : decode c_B_textEnd 14 = .ok (.if_icmp .eq 5, 3) := by decide +kernel
theorem d_B_textEnd_17 : decode c_B_textEnd 17 = .ok (.iload_n 2, 1) := by decide +kernel
theorem d_B_textEnd_18 : decode c_B_textEnd 18 = .ok (.ireturn, 1) := by decide +kernel
theorem d_B_textEnd_19 : decode c_B_textEnd 19 = .ok (.iload_n 2, 1) := by decide +kernel
theorem d_B_textEnd_20 : decode c_B_textEnd 20 = .ok (.iconst 2, 1) := by decide +kernel
theorem d_B_textEnd_21 : decode c_B_textEnd 21 = .ok (.isub, 1) := by decide +kernel
theorem d_B_textEnd_22 : decode c_B_textEnd 22 = .ok (.iload_n 1, 1) := by decide +kernel
theorem d_B_textEnd_23 : decode c_B_textEnd 23 = .ok (.if_icmp .lt 19, 3) := by decide +kernel
theorem d_B_textEnd_26 : decode c_B_textEnd 26 = .ok (.aload_n 0, 1) := by decide +kernel
theorem d_B_textEnd_27 : decode c_B_textEnd 27 = .ok (.iload_n 2, 1) := by decide +kernel
theorem d_B_textEnd_28 : decode c_B_textEnd 28 = .ok (.iconst 2, 1) := by decide +kernel
theorem d_B_textEnd_29 : decode c_B_textEnd 29 = .ok (.isub, 1) := by decide +kernel
theorem d_B_textEnd_30 : decode c_B_textEnd 30 = .ok (.invokevirtual 23, 3) := by decide +kernel
theorem d_B_textEnd_33 : decode c_B_textEnd 33 = .ok (.bipush 13, 2) := by decide +kernel
theorem d_B_textEnd_35 : decode c_B_textEnd 35 = .ok (.if_icmp .ne 7, 3) := by decide +kernel
theorem d_B_textEnd_38 : decode c_B_textEnd 38 = .ok (.iconst 1, 1) := by decide +kernel
theorem d_B_textEnd_39 : decode c_B_textEnd 39 = .ok (.goto 4, 3) := by decide +kernel
theorem d_B_textEnd_42 : decode c_B_textEnd 42 = .ok (.iconst 0, 1) := by decide +kernel
theorem d_B_textEnd_43 : decode c_B_textEnd 43 = .ok (.istore_n 3, 1) := by decide +kernel
theorem d_B_textEnd_44 : decode c_B_textEnd 44 = .ok (.iload_n 3, 1) := by decide +kernel
theorem d_B_textEnd_45 : decode c_B_textEnd 45 = .ok (.ifCond .eq 9, 3) := by decide +kernel
theorem d_B_textEnd_48 : decode c_B_textEnd 48 = .ok (.iload_n 2, 1) := by decide +kernel
theorem d_B_textEnd_49 : decode c_B_textEnd 49 = .ok (.iconst 2, 1) := by decide +kernel
theorem d_B_textEnd_50 : decode c_B_textEnd 50 = .ok (.isub, 1) := by decide +kernel
theorem d_B_textEnd_51 : decode c_B_textEnd 51 = .ok (.goto 6, 3) := by decide +kernel
theorem d_B_textEnd_54 : decode c_B_textEnd 54 = .ok (.iload_n 2, 1) := by decide +kernel
theorem d_B_textEnd_55 : decode c_B_textEnd 55 = .ok (.iconst 1, 1) := by decide +kernel
theorem d_B_textEnd_56 : decode c_B_textEnd 56 = .ok (.isub, 1) := by decide +kernel
theorem d_B_textEnd_57 : decode c_B_textEnd 57 = .ok (.ireturn, 1) := by decide +kernel
theorem d_B_skipBlanks_0 : decode c_B_skipBlanks 0 = .ok (.iload_n 1, 1) := by decide +kernel
theorem d_B_skipBlanks_1 : decode c_B_skipBlanks 1 = .ok (.istore_n 3, 1) := by decide +kernel
theorem d_B_skipBlanks_2 : decode c_B_skipBlanks 2 = .ok (.iload_n 3, 1) := by decide +kernel
theorem d_B_skipBlanks_3 : decode c_B_skipBlanks 3 = .ok (.iload_n 2, 1) := by decide +kernel
theorem d_B_skipBlanks_4 : decode c_B_skipBlanks 4 = .ok (.if_icmp .ge 22, 3) := by decide +kernel
theorem d_B_skipBlanks_7 : decode c_B_skipBlanks 7 = .ok (.aload_n 0, 1) := by decide +kernel
theorem d_B_skipBlanks_8 : decode c_B_skipBlanks 8 = .ok (.iload_n 3, 1) := by decide +kernel
theorem d_B_skipBlanks_9 : decode c_B_skipBlanks 9 = .ok (.invokevirtual 23, 3) := by decide +kernel
theorem d_B_skipBlanks_12 : decode c_B_skipBlanks 12 = .ok (.invokestatic 44, 3) := by decide +kernel
theorem d_B_skipBlanks_15 : decode c_B_skipBlanks 15 = .ok (.ifCond .ne 5, 3) := by decide +kernel
theorem d_B_skipBlanks_18 : decode c_B_skipBlanks 18 = .ok (.iload_n 3, 1) := by decide +kernel
theorem d_B_skipBlanks_19 : decode c_B_skipBlanks 19 = .ok (.ireturn, 1) := by decide +kernel
theorem d_B_skipBlanks_20 : decode c_B_skipBlanks 20 = .ok (.iinc 3 1, 3) := by decide +kernel
theorem d_B_skipBlanks_23 : decode c_B_skipBlanks 23 = .ok (.goto (-21), 3) := by decide +kernel
theorem d_B_skipBlanks_26 : decode c_B_skipBlanks 26 = .ok (.iload_n 2, 1) := by decide +kernel
theorem d_B_skipBlanks_27 : decode c_B_skipBlanks 27 = .ok (.ireturn, 1) := by decide +kernel
theorem d_B_spells_0 : decode c_B_spells 0 = .ok (.iload_n 3, 1) := by decide +kernel
theorem d_B_spells_1 : decode c_B_spells 1 = .ok (.iload_n 2, 1) := by decide +kernel
theorem d_B_spells_2 : decode c_B_spells 2 = .ok (.isub, 1) := by decide +kernel
theorem d_B_spells_3 : decode c_B_spells 3 = .ok (.aload_n 1, 1) := by decide +kernel
theorem d_B_spells_4 : decode c_B_spells 4 = .ok (.invokevirtual 31, 3) := by decide +kernel
theorem d_B_spells_7 : decode c_B_spells 7 = .ok (.if_icmp .eq 5, 3) := by decide +kernel
theorem d_B_spells_10 : decode c_B_spells 10 = .ok (.iconst 0, 1) := by decide +kernel
theorem d_B_spells_11 : decode c_B_spells 11 = .ok (.ireturn, 1) := by decide +kernel
theorem d_B_spells_12 : decode c_B_spells 12 = .ok (.iconst 0, 1) := by decide +kernel
theorem d_B_spells_13 : decode c_B_spells 13 = .ok (.istore 4, 2) := by decide +kernel
theorem d_B_spells_15 : decode c_B_spells 15 = .ok (.iload 4, 2) := by decide +kernel
theorem d_B_spells_17 : decode c_B_spells 17 = .ok (.aload_n 1, 1) := by decide +kernel
theorem d_B_spells_18 : decode c_B_spells 18 = .ok (.invokevirtual 31, 3) := by decide +kernel
theorem d_B_spells_21 : decode c_B_spells 21 = .ok (.if_icmp .ge 31, 3) := by decide +kernel
theorem d_B_spells_24 : decode c_B_spells 24 = .ok (.aload_n 0, 1) := by decide +kernel
theorem d_B_spells_25 : decode c_B_spells 25 = .ok (.iload_n 2, 1) := by decide +kernel
theorem d_B_spells_26 : decode c_B_spells 26 = .ok (.iload 4, 2) := by decide +kernel
theorem d_B_spells_28 : decode c_B_spells 28 = .ok (.iadd, 1) := by decide +kernel
theorem d_B_spells_29 : decode c_B_spells 29 = .ok (.invokevirtual 23, 3) := by decide +kernel
theorem d_B_spells_32 : decode c_B_spells 32 = .ok (.invokestatic 41, 3) := by decide +kernel
theorem d_B_spells_35 : decode c_B_spells 35 = .ok (.aload_n 1, 1) := by decide +kernel
theorem d_B_spells_36 : decode c_B_spells 36 = .ok (.iload 4, 2) := by decide +kernel
theorem d_B_spells_38 : decode c_B_spells 38 = .ok (.invokevirtual 37, 3) := by decide +kernel
theorem d_B_spells_41 : decode c_B_spells 41 = .ok (.if_icmp .eq 5, 3) := by decide +kernel
theorem d_B_spells_44 : decode c_B_spells 44 = .ok (.iconst 0, 1) := by decide +kernel
theorem d_B_spells_45 : decode c_B_spells 45 = .ok (.ireturn, 1) := by decide +kernel
theorem d_B_spells_46 : decode c_B_spells 46 = .ok (.iinc 4 1, 3) := by decide +kernel
theorem d_B_spells_49 : decode c_B_spells 49 = .ok (.goto (-34), 3) := by decide +kernel
theorem d_B_spells_52 : decode c_B_spells 52 = .ok (.iconst 1, 1) := by decide +kernel
theorem d_B_spells_53 : decode c_B_spells 53 = .ok (.ireturn, 1) := by decide +kernel
theorem d_B_lineEndSize_0 : decode c_B_lineEndSize 0 = .ok (.iload_n 1, 1) := by decide +kernel
theorem d_B_lineEndSize_1 : decode c_B_lineEndSize 1 = .ok (.iload_n 2, 1) := by decide +kernel
theorem d_B_lineEndSize_2 : decode c_B_lineEndSize 2 = .ok (.if_icmp .ge 15, 3) := by decide +kernel
theorem d_B_lineEndSize_5 : decode c_B_lineEndSize 5 = .ok (.aload_n 0, 1) := by decide +kernel
theorem d_B_lineEndSize_6 : decode c_B_lineEndSize 6 = .ok (.iload_n 1, 1) := by decide +kernel
theorem d_B_lineEndSize_7 : decode c_B_lineEndSize 7 = .ok (.invokevirtual 23, 3) := by decide +kernel
theorem d_B_lineEndSize_10 : decode c_B_lineEndSize 10 = .ok (.bipush 10, 2) := by decide +kernel
theorem d_B_lineEndSize_12 : decode c_B_lineEndSize 12 = .ok (.if_icmp .ne 5, 3) := by decide +kernel
theorem d_B_lineEndSize_15 : decode c_B_lineEndSize 15 = .ok (.iconst 1, 1) := by decide +kernel
theorem d_B_lineEndSize_16 : decode c_B_lineEndSize 16 = .ok (.ireturn, 1) := by decide +kernel
theorem d_B_lineEndSize_17 : decode c_B_lineEndSize 17 = .ok (.iload_n 1, 1) := by decide +kernel
theorem d_B_lineEndSize_18 : decode c_B_lineEndSize 18 = .ok (.iconst 1, 1) := by decide +kernel
theorem d_B_lineEndSize_19 : decode c_B_lineEndSize 19 = .ok (.iadd, 1) := by decide +kernel
theorem d_B_lineEndSize_20 : decode c_B_lineEndSize 20 = .ok (.iload_n 2, 1) := by decide +kernel
theorem d_B_lineEndSize_21 : decode c_B_lineEndSize 21 = .ok (.if_icmp .ge 29, 3) := by decide +kernel
theorem d_B_lineEndSize_24 : decode c_B_lineEndSize 24 = .ok (.aload_n 0, 1) := by decide +kernel
theorem d_B_lineEndSize_25 : decode c_B_lineEndSize 25 = .ok (.iload_n 1, 1) := by decide +kernel
theorem d_B_lineEndSize_26 : decode c_B_lineEndSize 26 = .ok (.invokevirtual 23, 3) := by decide +kernel
theorem d_B_lineEndSize_29 : decode c_B_lineEndSize 29 = .ok (.bipush 13, 2) := by decide +kernel
theorem d_B_lineEndSize_31 : decode c_B_lineEndSize 31 = .ok (.if_icmp .ne 19, 3) := by decide +kernel
theorem d_B_lineEndSize_34 : decode c_B_lineEndSize 34 = .ok (.aload_n 0, 1) := by decide +kernel
theorem d_B_lineEndSize_35 : decode c_B_lineEndSize 35 = .ok (.iload_n 1, 1) := by decide +kernel
theorem d_B_lineEndSize_36 : decode c_B_lineEndSize 36 = .ok (.iconst 1, 1) := by decide +kernel
theorem d_B_lineEndSize_37 : decode c_B_lineEndSize 37 = .ok (.iadd, 1) := by decide +kernel
theorem d_B_lineEndSize_38 : decode c_B_lineEndSize 38 = .ok (.invokevirtual 23, 3) := by decide +kernel
theorem d_B_lineEndSize_41 : decode c_B_lineEndSize 41 = .ok (.bipush 10, 2) := by decide +kernel
theorem d_B_lineEndSize_43 : decode c_B_lineEndSize 43 = .ok (.if_icmp .ne 7, 3) := by decide +kernel
theorem d_B_lineEndSize_46 : decode c_B_lineEndSize 46 = .ok (.iconst 1, 1) := by decide +kernel
theorem d_B_lineEndSize_47 : decode c_B_lineEndSize 47 = .ok (.goto 4, 3) := by decide +kernel
theorem d_B_lineEndSize_50 : decode c_B_lineEndSize 50 = .ok (.iconst 0, 1) := by decide +kernel
theorem d_B_lineEndSize_51 : decode c_B_lineEndSize 51 = .ok (.istore_n 3, 1) := by decide +kernel
theorem d_B_lineEndSize_52 : decode c_B_lineEndSize 52 = .ok (.iload_n 3, 1) := by decide +kernel
theorem d_B_lineEndSize_53 : decode c_B_lineEndSize 53 = .ok (.ifCond .eq 7, 3) := by decide +kernel
theorem d_B_lineEndSize_56 : decode c_B_lineEndSize 56 = .ok (.iconst 2, 1) := by decide +kernel
theorem d_B_lineEndSize_57 : decode c_B_lineEndSize 57 = .ok (.goto 4, 3) := by decide +kernel
theorem d_B_lineEndSize_60 : decode c_B_lineEndSize 60 = .ok (.iconst 0, 1) := by decide +kernel
theorem d_B_lineEndSize_61 : decode c_B_lineEndSize 61 = .ok (.ireturn, 1) := by decide +kernel
theorem d_B_has_0 : decode c_B_has 0 = .ok (.iload_n 3, 1) := by decide +kernel
theorem d_B_has_1 : decode c_B_has 1 = .ok (.iload_n 2, 1) := by decide +kernel
theorem d_B_has_2 : decode c_B_has 2 = .ok (.isub, 1) := by decide +kernel
theorem d_B_has_3 : decode c_B_has 3 = .ok (.aload_n 1, 1) := by decide +kernel
theorem d_B_has_4 : decode c_B_has 4 = .ok (.invokevirtual 31, 3) := by decide +kernel
theorem d_B_has_7 : decode c_B_has 7 = .ok (.if_icmp .ge 5, 3) := by decide +kernel
theorem d_B_has_10 : decode c_B_has 10 = .ok (.iconst 0, 1) := by decide +kernel
theorem d_B_has_11 : decode c_B_has 11 = .ok (.ireturn, 1) := by decide +kernel
theorem d_B_has_12 : decode c_B_has 12 = .ok (.iconst 0, 1) := by decide +kernel
theorem d_B_has_13 : decode c_B_has 13 = .ok (.istore 4, 2) := by decide +kernel
theorem d_B_has_15 : decode c_B_has 15 = .ok (.iload 4, 2) := by decide +kernel
theorem d_B_has_17 : decode c_B_has 17 = .ok (.aload_n 1, 1) := by decide +kernel
theorem d_B_has_18 : decode c_B_has 18 = .ok (.invokevirtual 31, 3) := by decide +kernel
theorem d_B_has_21 : decode c_B_has 21 = .ok (.if_icmp .ge 28, 3) := by decide +kernel
theorem d_B_has_24 : decode c_B_has 24 = .ok (.aload_n 0, 1) := by decide +kernel
theorem d_B_has_25 : decode c_B_has 25 = .ok (.iload_n 2, 1) := by decide +kernel
theorem d_B_has_26 : decode c_B_has 26 = .ok (.iload 4, 2) := by decide +kernel
theorem d_B_has_28 : decode c_B_has 28 = .ok (.iadd, 1) := by decide +kernel
theorem d_B_has_29 : decode c_B_has 29 = .ok (.invokevirtual 23, 3) := by decide +kernel
theorem d_B_has_32 : decode c_B_has 32 = .ok (.aload_n 1, 1) := by decide +kernel
theorem d_B_has_33 : decode c_B_has 33 = .ok (.iload 4, 2) := by decide +kernel
theorem d_B_has_35 : decode c_B_has 35 = .ok (.invokevirtual 37, 3) := by decide +kernel
theorem d_B_has_38 : decode c_B_has 38 = .ok (.if_icmp .eq 5, 3) := by decide +kernel
theorem d_B_has_41 : decode c_B_has 41 = .ok (.iconst 0, 1) := by decide +kernel
theorem d_B_has_42 : decode c_B_has 42 = .ok (.ireturn, 1) := by decide +kernel
theorem d_B_has_43 : decode c_B_has 43 = .ok (.iinc 4 1, 3) := by decide +kernel
theorem d_B_has_46 : decode c_B_has 46 = .ok (.goto (-31), 3) := by decide +kernel
theorem d_B_has_49 : decode c_B_has 49 = .ok (.iconst 1, 1) := by decide +kernel
theorem d_B_has_50 : decode c_B_has 50 = .ok (.ireturn, 1) := by decide +kernel
theorem d_B_putText_0 : decode c_B_putText 0 = .ok (.iconst 0, 1) := by decide +kernel
theorem d_B_putText_1 : decode c_B_putText 1 = .ok (.istore_n 2, 1) := by decide +kernel
theorem d_B_putText_2 : decode c_B_putText 2 = .ok (.iload_n 2, 1) := by decide +kernel
theorem d_B_putText_3 : decode c_B_putText 3 = .ok (.aload_n 1, 1) := by decide +kernel
theorem d_B_putText_4 : decode c_B_putText 4 = .ok (.invokevirtual 31, 3) := by decide +kernel
theorem d_B_putText_7 : decode c_B_putText 7 = .ok (.if_icmp .ge 18, 3) := by decide +kernel
theorem d_B_putText_10 : decode c_B_putText 10 = .ok (.aload_n 0, 1) := by decide +kernel
theorem d_B_putText_11 : decode c_B_putText 11 = .ok (.aload_n 1, 1) := by decide +kernel
theorem d_B_putText_12 : decode c_B_putText 12 = .ok (.iload_n 2, 1) := by decide +kernel
theorem d_B_putText_13 : decode c_B_putText 13 = .ok (.invokevirtual 37, 3) := by decide +kernel
theorem d_B_putText_16 : decode c_B_putText 16 = .ok (.invokevirtual 27, 3) := by decide +kernel
theorem d_B_putText_19 : decode c_B_putText 19 = .ok (.iinc 2 1, 3) := by decide +kernel
theorem d_B_putText_22 : decode c_B_putText 22 = .ok (.goto (-20), 3) := by decide +kernel
theorem d_B_putText_25 : decode c_B_putText 25 = .ok (.return_, 1) := by decide +kernel
end
