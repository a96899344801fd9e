section
-- ===== PART A: goes FIRST, ahead of the names: the tables' words, and 'selects' of the private methods out of them =====
/-- a private method of a class that the tables say can be made, by its rows of tables_1 -/
def lw_okq (q : MethodName × Nat) : Prop := (q.1.cls ≠ "java/lang/invoke/MethodHandle" ∧ q.1.cls ≠ "java/lang/invoke/VarHandle") ∧ Cond.instantiable q.1.cls q.2 ∈ tables_1 ∧ Cond.privateMethod q.1 ∈ tables_1 ∧ Cond.instanceMethod q.1 ∈ tables_1
theorem lw_p0 : lw_okq (⟨"MailTree$Tree", "readFields", "(LMailTree$Entity;)I"⟩, 8) := ⟨⟨by decide +kernel, by decide +kernel⟩, List.mem_of_getElem? (i := 54) (by decide +kernel), List.mem_of_getElem? (i := 328) (by decide +kernel), List.mem_of_getElem? (i := 329) (by decide +kernel)⟩
theorem lw_p1 : lw_okq (⟨"MailTree$Tree", "goOnWithField", "(LMailTree$Entity;II)Z"⟩, 8) := ⟨⟨by decide +kernel, by decide +kernel⟩, List.mem_of_getElem? (i := 54) (by decide +kernel), List.mem_of_getElem? (i := 344) (by decide +kernel), List.mem_of_getElem? (i := 345) (by decide +kernel)⟩
theorem lw_p2 : lw_okq (⟨"MailTree$Tree", "beginField", "(LMailTree$Entity;II)Z"⟩, 8) := ⟨⟨by decide +kernel, by decide +kernel⟩, List.mem_of_getElem? (i := 54) (by decide +kernel), List.mem_of_getElem? (i := 348) (by decide +kernel), List.mem_of_getElem? (i := 349) (by decide +kernel)⟩
theorem lw_p3 : lw_okq (⟨"MailTree$Tree", "trimValues", "(LMailTree$Entity;)V"⟩, 8) := ⟨⟨by decide +kernel, by decide +kernel⟩, List.mem_of_getElem? (i := 54) (by decide +kernel), List.mem_of_getElem? (i := 355) (by decide +kernel), List.mem_of_getElem? (i := 356) (by decide +kernel)⟩
theorem lw_p4 : lw_okq (⟨"MailTree$Tree", "readEncoding", "(LMailTree$Entity;)V"⟩, 8) := ⟨⟨by decide +kernel, by decide +kernel⟩, List.mem_of_getElem? (i := 54) (by decide +kernel), List.mem_of_getElem? (i := 364) (by decide +kernel), List.mem_of_getElem? (i := 365) (by decide +kernel)⟩
theorem lw_p5 : lw_okq (⟨"MailTree$Tree", "fieldNamed", "(LMailTree$Entity;Ljava/lang/String;)LMailTree$Field;"⟩, 8) := ⟨⟨by decide +kernel, by decide +kernel⟩, List.mem_of_getElem? (i := 54) (by decide +kernel), List.mem_of_getElem? (i := 369) (by decide +kernel), List.mem_of_getElem? (i := 370) (by decide +kernel)⟩
theorem lw_p6 : lw_okq (⟨"MailTree$Tree", "readKind", "(LMailTree$Entity;)Z"⟩, 8) := ⟨⟨by decide +kernel, by decide +kernel⟩, List.mem_of_getElem? (i := 54) (by decide +kernel), List.mem_of_getElem? (i := 514) (by decide +kernel), List.mem_of_getElem? (i := 515) (by decide +kernel)⟩
theorem lw_p7 : lw_okq (⟨"MailTree$Tree", "readBoundary", "(LMailTree$Entity;)V"⟩, 8) := ⟨⟨by decide +kernel, by decide +kernel⟩, List.mem_of_getElem? (i := 54) (by decide +kernel), List.mem_of_getElem? (i := 526) (by decide +kernel), List.mem_of_getElem? (i := 527) (by decide +kernel)⟩
theorem lw_p8 : lw_okq (⟨"MailTree$Decoder", "decodeBase64", "(II)V"⟩, 2) := ⟨⟨by decide +kernel, by decide +kernel⟩, List.mem_of_getElem? (i := 90) (by decide +kernel), List.mem_of_getElem? (i := 551) (by decide +kernel), List.mem_of_getElem? (i := 552) (by decide +kernel)⟩
theorem lw_p9 : lw_okq (⟨"MailTree$Decoder", "decodeQuotedPrintable", "(II)V"⟩, 2) := ⟨⟨by decide +kernel, by decide +kernel⟩, List.mem_of_getElem? (i := 90) (by decide +kernel), List.mem_of_getElem? (i := 562) (by decide +kernel), List.mem_of_getElem? (i := 563) (by decide +kernel)⟩
theorem lw_p10 : lw_okq (⟨"MailTree$Decoder", "decodeEqualSign", "(II)I"⟩, 2) := ⟨⟨by decide +kernel, by decide +kernel⟩, List.mem_of_getElem? (i := 90) (by decide +kernel), List.mem_of_getElem? (i := 566) (by decide +kernel), List.mem_of_getElem? (i := 567) (by decide +kernel)⟩
theorem lw_p11 : lw_okq (⟨"MailTree$Decoder", "decodeBlanks", "(II)I"⟩, 2) := ⟨⟨by decide +kernel, by decide +kernel⟩, List.mem_of_getElem? (i := 90) (by decide +kernel), List.mem_of_getElem? (i := 580) (by decide +kernel), List.mem_of_getElem? (i := 581) (by decide +kernel)⟩
theorem lw_p12 : lw_okq (⟨"MailTree$Tree", "readParts", "(LMailTree$Entity;I)V"⟩, 8) := ⟨⟨by decide +kernel, by decide +kernel⟩, List.mem_of_getElem? (i := 54) (by decide +kernel), List.mem_of_getElem? (i := 586) (by decide +kernel), List.mem_of_getElem? (i := 587) (by decide +kernel)⟩
theorem lw_p13 : lw_okq (⟨"MailTree$Tree", "markOf", "(LMailTree$Entity;II)I"⟩, 8) := ⟨⟨by decide +kernel, by decide +kernel⟩, List.mem_of_getElem? (i := 54) (by decide +kernel), List.mem_of_getElem? (i := 590) (by decide +kernel), List.mem_of_getElem? (i := 591) (by decide +kernel)⟩
theorem lw_p14 : lw_okq (⟨"java/lang/Throwable", "fillInStackTrace", "(I)Ljava/lang/Throwable;"⟩, 6) := ⟨⟨by decide +kernel, by decide +kernel⟩, List.mem_of_getElem? (i := 669) (by decide +kernel), List.mem_of_getElem? (i := 667) (by decide +kernel), List.mem_of_getElem? (i := 668) (by decide +kernel)⟩
theorem lw_p15 : lw_okq (⟨"MailTree$Printer", "printFields", "(LMailTree$Entity;)V"⟩, 2) := ⟨⟨by decide +kernel, by decide +kernel⟩, List.mem_of_getElem? (i := 257) (by decide +kernel), List.mem_of_getElem? (i := 785) (by decide +kernel), List.mem_of_getElem? (i := 786) (by decide +kernel)⟩
def lw_privs_1 : List (MethodName × Nat) := [(⟨"MailTree$Tree", "readFields", "(LMailTree$Entity;)I"⟩, 8), (⟨"MailTree$Tree", "goOnWithField", "(LMailTree$Entity;II)Z"⟩, 8), (⟨"MailTree$Tree", "beginField", "(LMailTree$Entity;II)Z"⟩, 8), (⟨"MailTree$Tree", "trimValues", "(LMailTree$Entity;)V"⟩, 8), (⟨"MailTree$Tree", "readEncoding", "(LMailTree$Entity;)V"⟩, 8), (⟨"MailTree$Tree", "fieldNamed", "(LMailTree$Entity;Ljava/lang/String;)LMailTree$Field;"⟩, 8), (⟨"MailTree$Tree", "readKind", "(LMailTree$Entity;)Z"⟩, 8), (⟨"MailTree$Tree", "readBoundary", "(LMailTree$Entity;)V"⟩, 8), (⟨"MailTree$Decoder", "decodeBase64", "(II)V"⟩, 2), (⟨"MailTree$Decoder", "decodeQuotedPrintable", "(II)V"⟩, 2), (⟨"MailTree$Decoder", "decodeEqualSign", "(II)I"⟩, 2), (⟨"MailTree$Decoder", "decodeBlanks", "(II)I"⟩, 2), (⟨"MailTree$Tree", "readParts", "(LMailTree$Entity;I)V"⟩, 8), (⟨"MailTree$Tree", "markOf", "(LMailTree$Entity;II)I"⟩, 8), (⟨"java/lang/Throwable", "fillInStackTrace", "(I)Ljava/lang/Throwable;"⟩, 6), (⟨"MailTree$Printer", "printFields", "(LMailTree$Entity;)V"⟩, 2)]
theorem lw_r1 : ∀ q ∈ lw_privs_1, lw_okq q := List.forall_mem_cons.mpr ⟨lw_p0, List.forall_mem_cons.mpr ⟨lw_p1, List.forall_mem_cons.mpr ⟨lw_p2, List.forall_mem_cons.mpr ⟨lw_p3, List.forall_mem_cons.mpr ⟨lw_p4, List.forall_mem_cons.mpr ⟨lw_p5, List.forall_mem_cons.mpr ⟨lw_p6, List.forall_mem_cons.mpr ⟨lw_p7, List.forall_mem_cons.mpr ⟨lw_p8, List.forall_mem_cons.mpr ⟨lw_p9, List.forall_mem_cons.mpr ⟨lw_p10, List.forall_mem_cons.mpr ⟨lw_p11, List.forall_mem_cons.mpr ⟨lw_p12, List.forall_mem_cons.mpr ⟨lw_p13, List.forall_mem_cons.mpr ⟨lw_p14, List.forall_mem_cons.mpr ⟨lw_p15, fun _ h => absurd h List.not_mem_nil⟩⟩⟩⟩⟩⟩⟩⟩⟩⟩⟩⟩⟩⟩⟩⟩
theorem lw_p16 : lw_okq (⟨"MailTree$Printer", "printContent", "(LMailTree$Entity;)V"⟩, 2) := ⟨⟨by decide +kernel, by decide +kernel⟩, List.mem_of_getElem? (i := 257) (by decide +kernel), List.mem_of_getElem? (i := 796) (by decide +kernel), List.mem_of_getElem? (i := 797) (by decide +kernel)⟩
theorem lw_p17 : lw_okq (⟨"MailTree$Printer", "printBase64", "(II)V"⟩, 2) := ⟨⟨by decide +kernel, by decide +kernel⟩, List.mem_of_getElem? (i := 257) (by decide +kernel), List.mem_of_getElem? (i := 800) (by decide +kernel), List.mem_of_getElem? (i := 801) (by decide +kernel)⟩
theorem lw_p18 : lw_okq (⟨"MailTree$Printer", "printThreeBytes", "(II)V"⟩, 2) := ⟨⟨by decide +kernel, by decide +kernel⟩, List.mem_of_getElem? (i := 257) (by decide +kernel), List.mem_of_getElem? (i := 805) (by decide +kernel), List.mem_of_getElem? (i := 806) (by decide +kernel)⟩
theorem lw_p19 : lw_okq (⟨"MailTree$Printer", "printQuotedPrintable", "(II)V"⟩, 2) := ⟨⟨by decide +kernel, by decide +kernel⟩, List.mem_of_getElem? (i := 257) (by decide +kernel), List.mem_of_getElem? (i := 813) (by decide +kernel), List.mem_of_getElem? (i := 814) (by decide +kernel)⟩
theorem lw_p20 : lw_okq (⟨"MailTree$Printer", "isPlain", "(II)Z"⟩, 2) := ⟨⟨by decide +kernel, by decide +kernel⟩, List.mem_of_getElem? (i := 257) (by decide +kernel), List.mem_of_getElem? (i := 818) (by decide +kernel), List.mem_of_getElem? (i := 819) (by decide +kernel)⟩
theorem lw_p21 : lw_okq (⟨"MailTree$Printer", "printEscaped", "(I)V"⟩, 2) := ⟨⟨by decide +kernel, by decide +kernel⟩, List.mem_of_getElem? (i := 257) (by decide +kernel), List.mem_of_getElem? (i := 823) (by decide +kernel), List.mem_of_getElem? (i := 824) (by decide +kernel)⟩
theorem lw_p22 : lw_okq (⟨"MailTree$Printer", "printMark", "(LMailTree$Entity;Ljava/lang/String;)V"⟩, 2) := ⟨⟨by decide +kernel, by decide +kernel⟩, List.mem_of_getElem? (i := 257) (by decide +kernel), List.mem_of_getElem? (i := 828) (by decide +kernel), List.mem_of_getElem? (i := 829) (by decide +kernel)⟩
theorem lw_p23 : lw_okq (⟨"MailTreeModel", "lay", "(IIII)V"⟩, 25) := ⟨⟨by decide +kernel, by decide +kernel⟩, List.mem_of_getElem? (i := 850) (by decide +kernel), List.mem_of_getElem? (i := 949) (by decide +kernel), List.mem_of_getElem? (i := 950) (by decide +kernel)⟩
theorem lw_p24 : lw_okq (⟨"MailTreeModel", "takeEntity", "()V"⟩, 25) := ⟨⟨by decide +kernel, by decide +kernel⟩, List.mem_of_getElem? (i := 850) (by decide +kernel), List.mem_of_getElem? (i := 953) (by decide +kernel), List.mem_of_getElem? (i := 954) (by decide +kernel)⟩
theorem lw_p25 : lw_okq (⟨"MailTreeModel", "set", "(III)V"⟩, 25) := ⟨⟨by decide +kernel, by decide +kernel⟩, List.mem_of_getElem? (i := 850) (by decide +kernel), List.mem_of_getElem? (i := 957) (by decide +kernel), List.mem_of_getElem? (i := 958) (by decide +kernel)⟩
theorem lw_p26 : lw_okq (⟨"MailTreeModel", "of", "(II)I"⟩, 25) := ⟨⟨by decide +kernel, by decide +kernel⟩, List.mem_of_getElem? (i := 850) (by decide +kernel), List.mem_of_getElem? (i := 961) (by decide +kernel), List.mem_of_getElem? (i := 962) (by decide +kernel)⟩
theorem lw_p27 : lw_okq (⟨"MailTreeModel", "fields", "(III)I"⟩, 25) := ⟨⟨by decide +kernel, by decide +kernel⟩, List.mem_of_getElem? (i := 850) (by decide +kernel), List.mem_of_getElem? (i := 965) (by decide +kernel), List.mem_of_getElem? (i := 966) (by decide +kernel)⟩
theorem lw_p28 : lw_okq (⟨"MailTreeModel", "textEnd", "(II)I"⟩, 25) := ⟨⟨by decide +kernel, by decide +kernel⟩, List.mem_of_getElem? (i := 850) (by decide +kernel), List.mem_of_getElem? (i := 969) (by decide +kernel), List.mem_of_getElem? (i := 970) (by decide +kernel)⟩
theorem lw_p29 : lw_okq (⟨"MailTreeModel", "lineEnd", "(II)I"⟩, 25) := ⟨⟨by decide +kernel, by decide +kernel⟩, List.mem_of_getElem? (i := 850) (by decide +kernel), List.mem_of_getElem? (i := 973) (by decide +kernel), List.mem_of_getElem? (i := 974) (by decide +kernel)⟩
theorem lw_p30 : lw_okq (⟨"MailTreeModel", "trims", "(I)V"⟩, 25) := ⟨⟨by decide +kernel, by decide +kernel⟩, List.mem_of_getElem? (i := 850) (by decide +kernel), List.mem_of_getElem? (i := 977) (by decide +kernel), List.mem_of_getElem? (i := 978) (by decide +kernel)⟩
theorem lw_p31 : lw_okq (⟨"MailTreeModel", "nameSize", "(II)I"⟩, 25) := ⟨⟨by decide +kernel, by decide +kernel⟩, List.mem_of_getElem? (i := 850) (by decide +kernel), List.mem_of_getElem? (i := 984) (by decide +kernel), List.mem_of_getElem? (i := 985) (by decide +kernel)⟩
def lw_privs_2 : List (MethodName × Nat) := [(⟨"MailTree$Printer", "printContent", "(LMailTree$Entity;)V"⟩, 2), (⟨"MailTree$Printer", "printBase64", "(II)V"⟩, 2), (⟨"MailTree$Printer", "printThreeBytes", "(II)V"⟩, 2), (⟨"MailTree$Printer", "printQuotedPrintable", "(II)V"⟩, 2), (⟨"MailTree$Printer", "isPlain", "(II)Z"⟩, 2), (⟨"MailTree$Printer", "printEscaped", "(I)V"⟩, 2), (⟨"MailTree$Printer", "printMark", "(LMailTree$Entity;Ljava/lang/String;)V"⟩, 2), (⟨"MailTreeModel", "lay", "(IIII)V"⟩, 25), (⟨"MailTreeModel", "takeEntity", "()V"⟩, 25), (⟨"MailTreeModel", "set", "(III)V"⟩, 25), (⟨"MailTreeModel", "of", "(II)I"⟩, 25), (⟨"MailTreeModel", "fields", "(III)I"⟩, 25), (⟨"MailTreeModel", "textEnd", "(II)I"⟩, 25), (⟨"MailTreeModel", "lineEnd", "(II)I"⟩, 25), (⟨"MailTreeModel", "trims", "(I)V"⟩, 25), (⟨"MailTreeModel", "nameSize", "(II)I"⟩, 25)]
theorem lw_r2 : ∀ q ∈ lw_privs_2, lw_okq q := List.forall_mem_cons.mpr ⟨lw_p16, List.forall_mem_cons.mpr ⟨lw_p17, List.forall_mem_cons.mpr ⟨lw_p18, List.forall_mem_cons.mpr ⟨lw_p19, List.forall_mem_cons.mpr ⟨lw_p20, List.forall_mem_cons.mpr ⟨lw_p21, List.forall_mem_cons.mpr ⟨lw_p22, List.forall_mem_cons.mpr ⟨lw_p23, List.forall_mem_cons.mpr ⟨lw_p24, List.forall_mem_cons.mpr ⟨lw_p25, List.forall_mem_cons.mpr ⟨lw_p26, List.forall_mem_cons.mpr ⟨lw_p27, List.forall_mem_cons.mpr ⟨lw_p28, List.forall_mem_cons.mpr ⟨lw_p29, List.forall_mem_cons.mpr ⟨lw_p30, List.forall_mem_cons.mpr ⟨lw_p31, fun _ h => absurd h List.not_mem_nil⟩⟩⟩⟩⟩⟩⟩⟩⟩⟩⟩⟩⟩⟩⟩⟩
theorem lw_p32 : lw_okq (⟨"MailTreeModel", "begins", "(IIII)V"⟩, 25) := ⟨⟨by decide +kernel, by decide +kernel⟩, List.mem_of_getElem? (i := 850) (by decide +kernel), List.mem_of_getElem? (i := 988) (by decide +kernel), List.mem_of_getElem? (i := 989) (by decide +kernel)⟩
theorem lw_p33 : lw_okq (⟨"MailTreeModel", "keep", "(I)V"⟩, 25) := ⟨⟨by decide +kernel, by decide +kernel⟩, List.mem_of_getElem? (i := 850) (by decide +kernel), List.mem_of_getElem? (i := 992) (by decide +kernel), List.mem_of_getElem? (i := 993) (by decide +kernel)⟩
theorem lw_p34 : lw_okq (⟨"MailTreeModel", "encoding", "(I)I"⟩, 25) := ⟨⟨by decide +kernel, by decide +kernel⟩, List.mem_of_getElem? (i := 850) (by decide +kernel), List.mem_of_getElem? (i := 996) (by decide +kernel), List.mem_of_getElem? (i := 997) (by decide +kernel)⟩
theorem lw_p35 : lw_okq (⟨"MailTreeModel", "firstField", "(IJJJ)I"⟩, 25) := ⟨⟨by decide +kernel, by decide +kernel⟩, List.mem_of_getElem? (i := 850) (by decide +kernel), List.mem_of_getElem? (i := 1003) (by decide +kernel), List.mem_of_getElem? (i := 1004) (by decide +kernel)⟩
theorem lw_p36 : lw_okq (⟨"MailTreeModel", "fieldOf", "(III)I"⟩, 25) := ⟨⟨by decide +kernel, by decide +kernel⟩, List.mem_of_getElem? (i := 850) (by decide +kernel), List.mem_of_getElem? (i := 1007) (by decide +kernel), List.mem_of_getElem? (i := 1008) (by decide +kernel)⟩
theorem lw_p37 : lw_okq (⟨"MailTreeModel", "isWord", "(IIJJJ)Z"⟩, 25) := ⟨⟨by decide +kernel, by decide +kernel⟩, List.mem_of_getElem? (i := 850) (by decide +kernel), List.mem_of_getElem? (i := 1011) (by decide +kernel), List.mem_of_getElem? (i := 1012) (by decide +kernel)⟩
theorem lw_p38 : lw_okq (⟨"MailTreeModel", "enter", "(II)V"⟩, 25) := ⟨⟨by decide +kernel, by decide +kernel⟩, List.mem_of_getElem? (i := 850) (by decide +kernel), List.mem_of_getElem? (i := 1019) (by decide +kernel), List.mem_of_getElem? (i := 1020) (by decide +kernel)⟩
theorem lw_p39 : lw_okq (⟨"MailTreeModel", "space", "()V"⟩, 25) := ⟨⟨by decide +kernel, by decide +kernel⟩, List.mem_of_getElem? (i := 850) (by decide +kernel), List.mem_of_getElem? (i := 1023) (by decide +kernel), List.mem_of_getElem? (i := 1024) (by decide +kernel)⟩
theorem lw_p40 : lw_okq (⟨"MailTreeModel", "now", "()I"⟩, 25) := ⟨⟨by decide +kernel, by decide +kernel⟩, List.mem_of_getElem? (i := 850) (by decide +kernel), List.mem_of_getElem? (i := 1027) (by decide +kernel), List.mem_of_getElem? (i := 1028) (by decide +kernel)⟩
theorem lw_p41 : lw_okq (⟨"MailTreeModel", "comment", "()V"⟩, 25) := ⟨⟨by decide +kernel, by decide +kernel⟩, List.mem_of_getElem? (i := 850) (by decide +kernel), List.mem_of_getElem? (i := 1031) (by decide +kernel), List.mem_of_getElem? (i := 1032) (by decide +kernel)⟩
theorem lw_p42 : lw_okq (⟨"MailTreeModel", "atom", "()Z"⟩, 25) := ⟨⟨by decide +kernel, by decide +kernel⟩, List.mem_of_getElem? (i := 850) (by decide +kernel), List.mem_of_getElem? (i := 1035) (by decide +kernel), List.mem_of_getElem? (i := 1036) (by decide +kernel)⟩
theorem lw_p43 : lw_okq (⟨"MailTreeModel", "kind", "(I)I"⟩, 25) := ⟨⟨by decide +kernel, by decide +kernel⟩, List.mem_of_getElem? (i := 850) (by decide +kernel), List.mem_of_getElem? (i := 1045) (by decide +kernel), List.mem_of_getElem? (i := 1046) (by decide +kernel)⟩
theorem lw_p44 : lw_okq (⟨"MailTreeModel", "takes", "(I)Z"⟩, 25) := ⟨⟨by decide +kernel, by decide +kernel⟩, List.mem_of_getElem? (i := 850) (by decide +kernel), List.mem_of_getElem? (i := 1050) (by decide +kernel), List.mem_of_getElem? (i := 1051) (by decide +kernel)⟩
theorem lw_p45 : lw_okq (⟨"MailTreeModel", "parameter", "()I"⟩, 25) := ⟨⟨by decide +kernel, by decide +kernel⟩, List.mem_of_getElem? (i := 850) (by decide +kernel), List.mem_of_getElem? (i := 1057) (by decide +kernel), List.mem_of_getElem? (i := 1058) (by decide +kernel)⟩
theorem lw_p46 : lw_okq (⟨"MailTreeModel", "quoted", "()Z"⟩, 25) := ⟨⟨by decide +kernel, by decide +kernel⟩, List.mem_of_getElem? (i := 850) (by decide +kernel), List.mem_of_getElem? (i := 1062) (by decide +kernel), List.mem_of_getElem? (i := 1063) (by decide +kernel)⟩
theorem lw_p47 : lw_okq (⟨"MailTreeModel", "isBoundary", "()Z"⟩, 25) := ⟨⟨by decide +kernel, by decide +kernel⟩, List.mem_of_getElem? (i := 850) (by decide +kernel), List.mem_of_getElem? (i := 1066) (by decide +kernel), List.mem_of_getElem? (i := 1067) (by decide +kernel)⟩
def lw_privs_3 : List (MethodName × Nat) := [(⟨"MailTreeModel", "begins", "(IIII)V"⟩, 25), (⟨"MailTreeModel", "keep", "(I)V"⟩, 25), (⟨"MailTreeModel", "encoding", "(I)I"⟩, 25), (⟨"MailTreeModel", "firstField", "(IJJJ)I"⟩, 25), (⟨"MailTreeModel", "fieldOf", "(III)I"⟩, 25), (⟨"MailTreeModel", "isWord", "(IIJJJ)Z"⟩, 25), (⟨"MailTreeModel", "enter", "(II)V"⟩, 25), (⟨"MailTreeModel", "space", "()V"⟩, 25), (⟨"MailTreeModel", "now", "()I"⟩, 25), (⟨"MailTreeModel", "comment", "()V"⟩, 25), (⟨"MailTreeModel", "atom", "()Z"⟩, 25), (⟨"MailTreeModel", "kind", "(I)I"⟩, 25), (⟨"MailTreeModel", "takes", "(I)Z"⟩, 25), (⟨"MailTreeModel", "parameter", "()I"⟩, 25), (⟨"MailTreeModel", "quoted", "()Z"⟩, 25), (⟨"MailTreeModel", "isBoundary", "()Z"⟩, 25)]
theorem lw_r3 : ∀ q ∈ lw_privs_3, lw_okq q := List.forall_mem_cons.mpr ⟨lw_p32, List.forall_mem_cons.mpr ⟨lw_p33, List.forall_mem_cons.mpr ⟨lw_p34, List.forall_mem_cons.mpr ⟨lw_p35, List.forall_mem_cons.mpr ⟨lw_p36, List.forall_mem_cons.mpr ⟨lw_p37, List.forall_mem_cons.mpr ⟨lw_p38, List.forall_mem_cons.mpr ⟨lw_p39, List.forall_mem_cons.mpr ⟨lw_p40, List.forall_mem_cons.mpr ⟨lw_p41, List.forall_mem_cons.mpr ⟨lw_p42, List.forall_mem_cons.mpr ⟨lw_p43, List.forall_mem_cons.mpr ⟨lw_p44, List.forall_mem_cons.mpr ⟨lw_p45, List.forall_mem_cons.mpr ⟨lw_p46, List.forall_mem_cons.mpr ⟨lw_p47, fun _ h => absurd h List.not_mem_nil⟩⟩⟩⟩⟩⟩⟩⟩⟩⟩⟩⟩⟩⟩⟩⟩
theorem lw_p48 : lw_okq (⟨"MailTreeModel", "contents", "(I)V"⟩, 25) := ⟨⟨by decide +kernel, by decide +kernel⟩, List.mem_of_getElem? (i := 850) (by decide +kernel), List.mem_of_getElem? (i := 1070) (by decide +kernel), List.mem_of_getElem? (i := 1071) (by decide +kernel)⟩
theorem lw_p49 : lw_okq (⟨"MailTreeModel", "fromLetters", "(II)V"⟩, 25) := ⟨⟨by decide +kernel, by decide +kernel⟩, List.mem_of_getElem? (i := 850) (by decide +kernel), List.mem_of_getElem? (i := 1074) (by decide +kernel), List.mem_of_getElem? (i := 1075) (by decide +kernel)⟩
theorem lw_p50 : lw_okq (⟨"MailTreeModel", "fromQuoted", "(II)V"⟩, 25) := ⟨⟨by decide +kernel, by decide +kernel⟩, List.mem_of_getElem? (i := 850) (by decide +kernel), List.mem_of_getElem? (i := 1081) (by decide +kernel), List.mem_of_getElem? (i := 1082) (by decide +kernel)⟩
theorem lw_p51 : lw_okq (⟨"MailTreeModel", "behindBlanks", "(II)I"⟩, 25) := ⟨⟨by decide +kernel, by decide +kernel⟩, List.mem_of_getElem? (i := 850) (by decide +kernel), List.mem_of_getElem? (i := 1085) (by decide +kernel), List.mem_of_getElem? (i := 1086) (by decide +kernel)⟩
theorem lw_p52 : lw_okq (⟨"MailTreeModel", "lineBreak", "(II)I"⟩, 25) := ⟨⟨by decide +kernel, by decide +kernel⟩, List.mem_of_getElem? (i := 850) (by decide +kernel), List.mem_of_getElem? (i := 1089) (by decide +kernel), List.mem_of_getElem? (i := 1090) (by decide +kernel)⟩
theorem lw_p53 : lw_okq (⟨"MailTreeModel", "parts", "(I)I"⟩, 25) := ⟨⟨by decide +kernel, by decide +kernel⟩, List.mem_of_getElem? (i := 850) (by decide +kernel), List.mem_of_getElem? (i := 1096) (by decide +kernel), List.mem_of_getElem? (i := 1097) (by decide +kernel)⟩
theorem lw_p54 : lw_okq (⟨"MailTreeModel", "delimiter", "(III)I"⟩, 25) := ⟨⟨by decide +kernel, by decide +kernel⟩, List.mem_of_getElem? (i := 850) (by decide +kernel), List.mem_of_getElem? (i := 1100) (by decide +kernel), List.mem_of_getElem? (i := 1101) (by decide +kernel)⟩
theorem lw_p55 : lw_okq (⟨"MailTreeModel", "isEntity", "(I)Z"⟩, 25) := ⟨⟨by decide +kernel, by decide +kernel⟩, List.mem_of_getElem? (i := 850) (by decide +kernel), List.mem_of_getElem? (i := 1112) (by decide +kernel), List.mem_of_getElem? (i := 1113) (by decide +kernel)⟩
theorem lw_p56 : lw_okq (⟨"MailTreeModel", "fails", "(ZZ)Z"⟩, 25) := ⟨⟨by decide +kernel, by decide +kernel⟩, List.mem_of_getElem? (i := 850) (by decide +kernel), List.mem_of_getElem? (i := 1116) (by decide +kernel), List.mem_of_getElem? (i := 1117) (by decide +kernel)⟩
theorem lw_p57 : lw_okq (⟨"MailTreeModel", "isField", "(II)Z"⟩, 25) := ⟨⟨by decide +kernel, by decide +kernel⟩, List.mem_of_getElem? (i := 850) (by decide +kernel), List.mem_of_getElem? (i := 1124) (by decide +kernel), List.mem_of_getElem? (i := 1125) (by decide +kernel)⟩
theorem lw_p58 : lw_okq (⟨"MailTreeModel", "opens", "(I)V"⟩, 25) := ⟨⟨by decide +kernel, by decide +kernel⟩, List.mem_of_getElem? (i := 850) (by decide +kernel), List.mem_of_getElem? (i := 1144) (by decide +kernel), List.mem_of_getElem? (i := 1145) (by decide +kernel)⟩
theorem lw_p59 : lw_okq (⟨"MailTreeModel", "putHead", "(I)V"⟩, 25) := ⟨⟨by decide +kernel, by decide +kernel⟩, List.mem_of_getElem? (i := 850) (by decide +kernel), List.mem_of_getElem? (i := 1148) (by decide +kernel), List.mem_of_getElem? (i := 1149) (by decide +kernel)⟩
theorem lw_p60 : lw_okq (⟨"MailTreeModel", "putText", "(II)V"⟩, 25) := ⟨⟨by decide +kernel, by decide +kernel⟩, List.mem_of_getElem? (i := 850) (by decide +kernel), List.mem_of_getElem? (i := 1152) (by decide +kernel), List.mem_of_getElem? (i := 1153) (by decide +kernel)⟩
theorem lw_p61 : lw_okq (⟨"MailTreeModel", "put", "(I)V"⟩, 25) := ⟨⟨by decide +kernel, by decide +kernel⟩, List.mem_of_getElem? (i := 850) (by decide +kernel), List.mem_of_getElem? (i := 1156) (by decide +kernel), List.mem_of_getElem? (i := 1157) (by decide +kernel)⟩
theorem lw_p62 : lw_okq (⟨"MailTreeModel", "putLine", "()V"⟩, 25) := ⟨⟨by decide +kernel, by decide +kernel⟩, List.mem_of_getElem? (i := 850) (by decide +kernel), List.mem_of_getElem? (i := 1160) (by decide +kernel), List.mem_of_getElem? (i := 1161) (by decide +kernel)⟩
theorem lw_p63 : lw_okq (⟨"MailTreeModel", "putLetters", "(II)V"⟩, 25) := ⟨⟨by decide +kernel, by decide +kernel⟩, List.mem_of_getElem? (i := 850) (by decide +kernel), List.mem_of_getElem? (i := 1164) (by decide +kernel), List.mem_of_getElem? (i := 1165) (by decide +kernel)⟩
def lw_privs_4 : List (MethodName × Nat) := [(⟨"MailTreeModel", "contents", "(I)V"⟩, 25), (⟨"MailTreeModel", "fromLetters", "(II)V"⟩, 25), (⟨"MailTreeModel", "fromQuoted", "(II)V"⟩, 25), (⟨"MailTreeModel", "behindBlanks", "(II)I"⟩, 25), (⟨"MailTreeModel", "lineBreak", "(II)I"⟩, 25), (⟨"MailTreeModel", "parts", "(I)I"⟩, 25), (⟨"MailTreeModel", "delimiter", "(III)I"⟩, 25), (⟨"MailTreeModel", "isEntity", "(I)Z"⟩, 25), (⟨"MailTreeModel", "fails", "(ZZ)Z"⟩, 25), (⟨"MailTreeModel", "isField", "(II)Z"⟩, 25), (⟨"MailTreeModel", "opens", "(I)V"⟩, 25), (⟨"MailTreeModel", "putHead", "(I)V"⟩, 25), (⟨"MailTreeModel", "putText", "(II)V"⟩, 25), (⟨"MailTreeModel", "put", "(I)V"⟩, 25), (⟨"MailTreeModel", "putLine", "()V"⟩, 25), (⟨"MailTreeModel", "putLetters", "(II)V"⟩, 25)]
theorem lw_r4 : ∀ q ∈ lw_privs_4, lw_okq q := List.forall_mem_cons.mpr ⟨lw_p48, List.forall_mem_cons.mpr ⟨lw_p49, List.forall_mem_cons.mpr ⟨lw_p50, List.forall_mem_cons.mpr ⟨lw_p51, List.forall_mem_cons.mpr ⟨lw_p52, List.forall_mem_cons.mpr ⟨lw_p53, List.forall_mem_cons.mpr ⟨lw_p54, List.forall_mem_cons.mpr ⟨lw_p55, List.forall_mem_cons.mpr ⟨lw_p56, List.forall_mem_cons.mpr ⟨lw_p57, List.forall_mem_cons.mpr ⟨lw_p58, List.forall_mem_cons.mpr ⟨lw_p59, List.forall_mem_cons.mpr ⟨lw_p60, List.forall_mem_cons.mpr ⟨lw_p61, List.forall_mem_cons.mpr ⟨lw_p62, List.forall_mem_cons.mpr ⟨lw_p63, fun _ h => absurd h List.not_mem_nil⟩⟩⟩⟩⟩⟩⟩⟩⟩⟩⟩⟩⟩⟩⟩⟩
theorem lw_p64 : lw_okq (⟨"MailTreeModel", "putQuoted", "(II)V"⟩, 25) := ⟨⟨by decide +kernel, by decide +kernel⟩, List.mem_of_getElem? (i := 850) (by decide +kernel), List.mem_of_getElem? (i := 1171) (by decide +kernel), List.mem_of_getElem? (i := 1172) (by decide +kernel)⟩
theorem lw_p65 : lw_okq (⟨"MailTreeModel", "plain", "(IIII)Z"⟩, 25) := ⟨⟨by decide +kernel, by decide +kernel⟩, List.mem_of_getElem? (i := 850) (by decide +kernel), List.mem_of_getElem? (i := 1175) (by decide +kernel), List.mem_of_getElem? (i := 1176) (by decide +kernel)⟩
theorem lw_p66 : lw_okq (⟨"MailTreeModel", "goesOn", "()V"⟩, 25) := ⟨⟨by decide +kernel, by decide +kernel⟩, List.mem_of_getElem? (i := 850) (by decide +kernel), List.mem_of_getElem? (i := 1182) (by decide +kernel), List.mem_of_getElem? (i := 1183) (by decide +kernel)⟩
theorem lw_p67 : lw_okq (⟨"MailTreeModel", "partOf", "(II)I"⟩, 25) := ⟨⟨by decide +kernel, by decide +kernel⟩, List.mem_of_getElem? (i := 850) (by decide +kernel), List.mem_of_getElem? (i := 1186) (by decide +kernel), List.mem_of_getElem? (i := 1187) (by decide +kernel)⟩
theorem lw_p68 : lw_okq (⟨"MailTreeModel", "putDelimiter", "(IZ)V"⟩, 25) := ⟨⟨by decide +kernel, by decide +kernel⟩, List.mem_of_getElem? (i := 850) (by decide +kernel), List.mem_of_getElem? (i := 1190) (by decide +kernel), List.mem_of_getElem? (i := 1191) (by decide +kernel)⟩
def lw_privs_5 : List (MethodName × Nat) := [(⟨"MailTreeModel", "putQuoted", "(II)V"⟩, 25), (⟨"MailTreeModel", "plain", "(IIII)Z"⟩, 25), (⟨"MailTreeModel", "goesOn", "()V"⟩, 25), (⟨"MailTreeModel", "partOf", "(II)I"⟩, 25), (⟨"MailTreeModel", "putDelimiter", "(IZ)V"⟩, 25)]
theorem lw_r5 : ∀ q ∈ lw_privs_5, lw_okq q := List.forall_mem_cons.mpr ⟨lw_p64, List.forall_mem_cons.mpr ⟨lw_p65, List.forall_mem_cons.mpr ⟨lw_p66, List.forall_mem_cons.mpr ⟨lw_p67, List.forall_mem_cons.mpr ⟨lw_p68, fun _ h => absurd h List.not_mem_nil⟩⟩⟩⟩⟩
def lw_privs : List (MethodName × Nat) := lw_privs_1 ++ (lw_privs_2 ++ (lw_privs_3 ++ (lw_privs_4 ++ (lw_privs_5))))
def lw_tbl : List Cond := k2_sels lw_privs ++ tables_1
theorem lw_privs_ok : ∀ q ∈ lw_privs, lw_okq q := by
  show ∀ q ∈ lw_privs_1 ++ (lw_privs_2 ++ (lw_privs_3 ++ (lw_privs_4 ++ (lw_privs_5)))), lw_okq q
  exact List.forall_mem_append.mpr ⟨lw_r1, List.forall_mem_append.mpr ⟨lw_r2, List.forall_mem_append.mpr ⟨lw_r3, List.forall_mem_append.mpr ⟨lw_r4, lw_r5⟩⟩⟩⟩
end
section
/-! Names, field tables, the words of the tables by their places, calls and field links: by program (wip/whole/gen/genames.py). -/
def R_B : String := "MailTree$Bytes"
def T_B : u_T := fun k => match k with
  | 0 => ("MailTree$Bytes", "cells", "[I", true)
  | 1 => ("MailTree$Bytes", "size", "I", false)
  | _ => ("MailTree$Bytes", "spilled", "Z", false)
def tf_B : Nat → FieldType := fun k => match k with
  | 0 => (.array .int)
  | 1 => .int
  | _ => .boolean
theorem nm_B : ∀ a, a < 3 → ∀ b, b < 3 → a ≠ b → (T_B a).2.1 ≠ (T_B b).2.1 := by decide +kernel
theorem ty_B : ∀ k, k < 3 → parseFieldDescriptor (T_B k).2.2.1 = some (tf_B k) := by decide +kernel
def R_D : String := "MailTree$Decoder"
def T_D : u_T := fun k => match k with
  | 0 => ("MailTree$Decoder", "source", "LMailTree$Bytes;", true)
  | _ => ("MailTree$Decoder", "contents", "LMailTree$Bytes;", true)
def tf_D : Nat → FieldType := fun k => match k with
  | 0 => (.object "MailTree$Bytes")
  | _ => (.object "MailTree$Bytes")
theorem nm_D : ∀ a, a < 2 → ∀ b, b < 2 → a ≠ b → (T_D a).2.1 ≠ (T_D b).2.1 := by decide +kernel
theorem ty_D : ∀ k, k < 2 → parseFieldDescriptor (T_D k).2.2.1 = some (tf_D k) := by decide +kernel
def R_E : String := "MailTree$Entity"
def T_E : u_T := fun k => match k with
  | 0 => ("MailTree$Entity", "kind", "I", false)
  | 1 => ("MailTree$Entity", "depth", "I", false)
  | 2 => ("MailTree$Entity", "parent", "I", false)
  | 3 => ("MailTree$Entity", "encoding", "I", false)
  | 4 => ("MailTree$Entity", "parts", "I", false)
  | 5 => ("MailTree$Entity", "begin", "I", false)
  | 6 => ("MailTree$Entity", "body", "I", false)
  | 7 => ("MailTree$Entity", "end", "I", false)
  | 8 => ("MailTree$Entity", "contentBegin", "I", false)
  | 9 => ("MailTree$Entity", "contentSize", "I", false)
  | 10 => ("MailTree$Entity", "boundaryBegin", "I", false)
  | 11 => ("MailTree$Entity", "boundarySize", "I", false)
  | 12 => ("MailTree$Entity", "fieldCount", "I", false)
  | _ => ("MailTree$Entity", "fields", "[LMailTree$Field;", true)
def tf_E : Nat → FieldType := fun k => match k with
  | 0 => .int
  | 1 => .int
  | 2 => .int
  | 3 => .int
  | 4 => .int
  | 5 => .int
  | 6 => .int
  | 7 => .int
  | 8 => .int
  | 9 => .int
  | 10 => .int
  | 11 => .int
  | 12 => .int
  | _ => (.array (.object "MailTree$Field"))
theorem nm_E : ∀ a, a < 14 → ∀ b, b < 14 → a ≠ b → (T_E a).2.1 ≠ (T_E b).2.1 := by decide +kernel
theorem ty_E : ∀ k, k < 14 → parseFieldDescriptor (T_E k).2.2.1 = some (tf_E k) := by decide +kernel
def R_F : String := "MailTree$Field"
def T_F : u_T := fun k => match k with
  | 0 => ("MailTree$Field", "nameBegin", "I", false)
  | 1 => ("MailTree$Field", "nameSize", "I", false)
  | 2 => ("MailTree$Field", "valueBegin", "I", false)
  | _ => ("MailTree$Field", "valueSize", "I", false)
def tf_F : Nat → FieldType := fun k => match k with
  | 0 => .int
  | 1 => .int
  | 2 => .int
  | _ => .int
theorem nm_F : ∀ a, a < 4 → ∀ b, b < 4 → a ≠ b → (T_F a).2.1 ≠ (T_F b).2.1 := by decide +kernel
theorem ty_F : ∀ k, k < 4 → parseFieldDescriptor (T_F k).2.2.1 = some (tf_F k) := by decide +kernel
def R_P : String := "MailTree$Printer"
def T_P : u_T := fun k => match k with
  | 0 => ("MailTree$Printer", "tree", "LMailTree$Tree;", true)
  | _ => ("MailTree$Printer", "draft", "LMailTree$Bytes;", true)
def tf_P : Nat → FieldType := fun k => match k with
  | 0 => (.object "MailTree$Tree")
  | _ => (.object "MailTree$Bytes")
theorem nm_P : ∀ a, a < 2 → ∀ b, b < 2 → a ≠ b → (T_P a).2.1 ≠ (T_P b).2.1 := by decide +kernel
theorem ty_P : ∀ k, k < 2 → parseFieldDescriptor (T_P k).2.2.1 = some (tf_P k) := by decide +kernel
def R_S : String := "MailTree$Scanner"
def T_S : u_T := fun k => match k with
  | 0 => ("MailTree$Scanner", "values", "LMailTree$Bytes;", true)
  | 1 => ("MailTree$Scanner", "word", "LMailTree$Bytes;", true)
  | 2 => ("MailTree$Scanner", "place", "I", false)
  | 3 => ("MailTree$Scanner", "end", "I", false)
  | _ => ("MailTree$Scanner", "namedBoundary", "Z", false)
def tf_S : Nat → FieldType := fun k => match k with
  | 0 => (.object "MailTree$Bytes")
  | 1 => (.object "MailTree$Bytes")
  | 2 => .int
  | 3 => .int
  | _ => .boolean
theorem nm_S : ∀ a, a < 5 → ∀ b, b < 5 → a ≠ b → (T_S a).2.1 ≠ (T_S b).2.1 := by decide +kernel
theorem ty_S : ∀ k, k < 5 → parseFieldDescriptor (T_S k).2.2.1 = some (tf_S k) := by decide +kernel
def R_T : String := "MailTree$Tree"
def T_T : u_T := fun k => match k with
  | 0 => ("MailTree$Tree", "source", "LMailTree$Bytes;", true)
  | 1 => ("MailTree$Tree", "values", "LMailTree$Bytes;", true)
  | 2 => ("MailTree$Tree", "contents", "LMailTree$Bytes;", true)
  | 3 => ("MailTree$Tree", "boundaries", "LMailTree$Bytes;", true)
  | 4 => ("MailTree$Tree", "entities", "[LMailTree$Entity;", true)
  | 5 => ("MailTree$Tree", "scanner", "LMailTree$Scanner;", true)
  | 6 => ("MailTree$Tree", "decoder", "LMailTree$Decoder;", true)
  | _ => ("MailTree$Tree", "count", "I", false)
def tf_T : Nat → FieldType := fun k => match k with
  | 0 => (.object "MailTree$Bytes")
  | 1 => (.object "MailTree$Bytes")
  | 2 => (.object "MailTree$Bytes")
  | 3 => (.object "MailTree$Bytes")
  | 4 => (.array (.object "MailTree$Entity"))
  | 5 => (.object "MailTree$Scanner")
  | 6 => (.object "MailTree$Decoder")
  | _ => .int
theorem nm_T : ∀ a, a < 8 → ∀ b, b < 8 → a ≠ b → (T_T a).2.1 ≠ (T_T b).2.1 := by decide +kernel
theorem ty_T : ∀ k, k < 8 → parseFieldDescriptor (T_T k).2.2.1 = some (tf_T k) := by decide +kernel
def R_X : String := "MailTree"
def T_X : u_T := fun k => match k with
  | 0 => ("MailTree", "message", "LMailTree$Bytes;", true)
  | 1 => ("MailTree", "latest", "LMailTree$Bytes;", true)
  | 2 => ("MailTree", "tree", "LMailTree$Tree;", true)
  | _ => ("MailTree", "printer", "LMailTree$Printer;", true)
def tf_X : Nat → FieldType := fun k => match k with
  | 0 => (.object "MailTree$Bytes")
  | 1 => (.object "MailTree$Bytes")
  | 2 => (.object "MailTree$Tree")
  | _ => (.object "MailTree$Printer")
theorem nm_X : ∀ a, a < 4 → ∀ b, b < 4 → a ≠ b → (T_X a).2.1 ≠ (T_X b).2.1 := by decide +kernel
theorem ty_X : ∀ k, k < 4 → parseFieldDescriptor (T_X k).2.2.1 = some (tf_X k) := by decide +kernel
def R_M : String := "MailTreeModel"
def T_M : u_T := fun k => match k with
  | 0 => ("MailTreeModel", "thrown", "I", false)
  | 1 => ("MailTreeModel", "fed", "I", false)
  | 2 => ("MailTreeModel", "message", "[I", true)
  | 3 => ("MailTreeModel", "read", "Z", false)
  | 4 => ("MailTreeModel", "src", "[I", true)
  | 5 => ("MailTreeModel", "entities", "I", false)
  | 6 => ("MailTreeModel", "data", "[I", true)
  | 7 => ("MailTreeModel", "field", "[I", true)
  | 8 => ("MailTreeModel", "text", "[I", true)
  | 9 => ("MailTreeModel", "textSize", "I", false)
  | 10 => ("MailTreeModel", "pile", "I", false)
  | 11 => ("MailTreeModel", "range", "[I", true)
  | 12 => ("MailTreeModel", "found", "[I", true)
  | 13 => ("MailTreeModel", "at", "I", false)
  | 14 => ("MailTreeModel", "stop", "I", false)
  | 15 => ("MailTreeModel", "wordAt", "I", false)
  | 16 => ("MailTreeModel", "wordSize", "I", false)
  | 17 => ("MailTreeModel", "out", "I", false)
  | 18 => ("MailTreeModel", "file", "[I", true)
  | 19 => ("MailTreeModel", "column", "I", false)
  | 20 => ("MailTreeModel", "written", "I", false)
  | 21 => ("MailTreeModel", "kept", "[I", true)
  | 22 => ("MailTreeModel", "open", "I", false)
  | 23 => ("MailTreeModel", "openEntity", "[I", true)
  | _ => ("MailTreeModel", "openNext", "[I", true)
def tf_M : Nat → FieldType := fun k => match k with
  | 0 => .int
  | 1 => .int
  | 2 => (.array .int)
  | 3 => .boolean
  | 4 => (.array .int)
  | 5 => .int
  | 6 => (.array .int)
  | 7 => (.array .int)
  | 8 => (.array .int)
  | 9 => .int
  | 10 => .int
  | 11 => (.array .int)
  | 12 => (.array .int)
  | 13 => .int
  | 14 => .int
  | 15 => .int
  | 16 => .int
  | 17 => .int
  | 18 => (.array .int)
  | 19 => .int
  | 20 => .int
  | 21 => (.array .int)
  | 22 => .int
  | 23 => (.array .int)
  | _ => (.array .int)
theorem nm_M : ∀ a, a < 25 → ∀ b, b < 25 → a ≠ b → (T_M a).2.1 ≠ (T_M b).2.1 := by decide +kernel
theorem ty_M : ∀ k, k < 25 → parseFieldDescriptor (T_M k).2.2.1 = some (tf_M k) := by decide +kernel
def R_L : String := "MailTreeLaw"
abbrev vwCl : List vw_C := [(R_B, T_B, 3), (R_D, T_D, 2), (R_E, T_E, 14), (R_F, T_F, 4), (R_P, T_P, 2), (R_S, T_S, 5), (R_T, T_T, 8), (R_X, T_X, 4), (R_M, T_M, 25)]
abbrev c_X_init : ByteArray := prog_1_method_1_code
def y_X_init : MethodName := ⟨R_X, "<init>", "()V"⟩
abbrev c_B_init : ByteArray := prog_2_method_1_code
def y_B_init : MethodName := ⟨R_B, "<init>", "(I)V"⟩
abbrev c_T_init : ByteArray := prog_8_method_1_code
def y_T_init : MethodName := ⟨R_T, "<init>", "()V"⟩
abbrev c_S_init : ByteArray := prog_7_method_1_code
def y_S_init : MethodName := ⟨R_S, "<init>", "(LMailTree$Bytes;)V"⟩
abbrev c_D_init : ByteArray := prog_3_method_1_code
def y_D_init : MethodName := ⟨R_D, "<init>", "(LMailTree$Bytes;LMailTree$Bytes;)V"⟩
abbrev c_E_init : ByteArray := prog_4_method_1_code
def y_E_init : MethodName := ⟨R_E, "<init>", "()V"⟩
abbrev c_F_init : ByteArray := prog_5_method_1_code
def y_F_init : MethodName := ⟨R_F, "<init>", "()V"⟩
abbrev c_P_init : ByteArray := prog_6_method_1_code
def y_P_init : MethodName := ⟨R_P, "<init>", "(LMailTree$Tree;)V"⟩
abbrev c_X_feed : ByteArray := prog_1_method_2_code
def y_X_feed : MethodName := ⟨R_X, "feed", "(JI)Z"⟩
abbrev c_B_put : ByteArray := prog_2_method_3_code
def y_B_put : MethodName := ⟨R_B, "put", "(I)V"⟩
abbrev c_X_clear : ByteArray := prog_1_method_3_code
def y_X_clear : MethodName := ⟨R_X, "clear", "()I"⟩
abbrev c_B_empty : ByteArray := prog_2_method_2_code
def y_B_empty : MethodName := ⟨R_B, "empty", "()V"⟩
abbrev c_X_read : ByteArray := prog_1_method_4_code
def y_X_read : MethodName := ⟨R_X, "read", "()I"⟩
abbrev c_T_start : ByteArray := prog_8_method_3_code
def y_T_start : MethodName := ⟨R_T, "start", "(LMailTree$Bytes;)V"⟩
abbrev c_B_putRange : ByteArray := prog_2_method_4_code
def y_B_putRange : MethodName := ⟨R_B, "putRange", "(LMailTree$Bytes;II)V"⟩
abbrev c_B_at : ByteArray := prog_2_method_6_code
def y_B_at : MethodName := ⟨R_B, "at", "(I)I"⟩
abbrev c_T_readEntity : ByteArray := prog_8_method_4_code
def y_T_readEntity : MethodName := ⟨R_T, "readEntity", "(IIII)V"⟩
abbrev c_E_start : ByteArray := prog_4_method_2_code
def y_E_start : MethodName := ⟨R_E, "start", "(IIII)V"⟩
abbrev c_T_readFields : ByteArray := prog_8_method_5_code
def y_T_readFields : MethodName := ⟨R_T, "readFields", "(LMailTree$Entity;)I"⟩
abbrev c_B_lineEnd : ByteArray := prog_2_method_10_code
def y_B_lineEnd : MethodName := ⟨R_B, "lineEnd", "(II)I"⟩
abbrev c_B_textEnd : ByteArray := prog_2_method_11_code
def y_B_textEnd : MethodName := ⟨R_B, "textEnd", "(II)I"⟩
abbrev c_X_isBlank : ByteArray := prog_1_method_15_code
def y_X_isBlank : MethodName := ⟨R_X, "isBlank", "(I)Z"⟩
abbrev c_T_goOnWithField : ByteArray := prog_8_method_6_code
def y_T_goOnWithField : MethodName := ⟨R_T, "goOnWithField", "(LMailTree$Entity;II)Z"⟩
abbrev c_T_beginField : ByteArray := prog_8_method_7_code
def y_T_beginField : MethodName := ⟨R_T, "beginField", "(LMailTree$Entity;II)Z"⟩
abbrev c_X_isNameByte : ByteArray := prog_1_method_16_code
def y_X_isNameByte : MethodName := ⟨R_X, "isNameByte", "(I)Z"⟩
abbrev c_T_trimValues : ByteArray := prog_8_method_8_code
def y_T_trimValues : MethodName := ⟨R_T, "trimValues", "(LMailTree$Entity;)V"⟩
abbrev c_B_skipBlanks : ByteArray := prog_2_method_9_code
def y_B_skipBlanks : MethodName := ⟨R_B, "skipBlanks", "(II)I"⟩
abbrev c_T_readEncoding : ByteArray := prog_8_method_10_code
def y_T_readEncoding : MethodName := ⟨R_T, "readEncoding", "(LMailTree$Entity;)V"⟩
abbrev c_T_fieldNamed : ByteArray := prog_8_method_9_code
def y_T_fieldNamed : MethodName := ⟨R_T, "fieldNamed", "(LMailTree$Entity;Ljava/lang/String;)LMailTree$Field;"⟩
abbrev c_B_spells : ByteArray := prog_2_method_8_code
def y_B_spells : MethodName := ⟨R_B, "spells", "(Ljava/lang/String;II)Z"⟩
abbrev c_X_small : ByteArray := prog_1_method_18_code
def y_X_small : MethodName := ⟨R_X, "small", "(I)I"⟩
abbrev c_S_start : ByteArray := prog_7_method_2_code
def y_S_start : MethodName := ⟨R_S, "start", "(LMailTree$Field;)V"⟩
abbrev c_S_skipSpace : ByteArray := prog_7_method_3_code
def y_S_skipSpace : MethodName := ⟨R_S, "skipSpace", "()V"⟩
abbrev c_S_takeAtom : ByteArray := prog_7_method_5_code
def y_S_takeAtom : MethodName := ⟨R_S, "takeAtom", "()Z"⟩
abbrev c_X_isAtomByte : ByteArray := prog_1_method_17_code
def y_X_isAtomByte : MethodName := ⟨R_X, "isAtomByte", "(I)Z"⟩
abbrev c_S_wordIs : ByteArray := prog_7_method_8_code
def y_S_wordIs : MethodName := ⟨R_S, "wordIs", "(Ljava/lang/String;)Z"⟩
abbrev c_T_readKind : ByteArray := prog_8_method_11_code
def y_T_readKind : MethodName := ⟨R_T, "readKind", "(LMailTree$Entity;)Z"⟩
abbrev c_S_take : ByteArray := prog_7_method_4_code
def y_S_take : MethodName := ⟨R_S, "take", "(I)Z"⟩
abbrev c_T_readBoundary : ByteArray := prog_8_method_12_code
def y_T_readBoundary : MethodName := ⟨R_T, "readBoundary", "(LMailTree$Entity;)V"⟩
abbrev c_S_takeParameter : ByteArray := prog_7_method_7_code
def y_S_takeParameter : MethodName := ⟨R_S, "takeParameter", "()Z"⟩
abbrev c_S_takeQuoted : ByteArray := prog_7_method_6_code
def y_S_takeQuoted : MethodName := ⟨R_S, "takeQuoted", "()Z"⟩
abbrev c_S_wordCanBeBoundary : ByteArray := prog_7_method_9_code
def y_S_wordCanBeBoundary : MethodName := ⟨R_S, "wordCanBeBoundary", "()Z"⟩
abbrev c_D_decode : ByteArray := prog_3_method_2_code
def y_D_decode : MethodName := ⟨R_D, "decode", "(LMailTree$Entity;)V"⟩
abbrev c_D_decodeBase64 : ByteArray := prog_3_method_3_code
def y_D_decodeBase64 : MethodName := ⟨R_D, "decodeBase64", "(II)V"⟩
abbrev c_X_base64Digit : ByteArray := prog_1_method_20_code
def y_X_base64Digit : MethodName := ⟨R_X, "base64Digit", "(I)I"⟩
abbrev c_D_decodeQuotedPrintable : ByteArray := prog_3_method_4_code
def y_D_decodeQuotedPrintable : MethodName := ⟨R_D, "decodeQuotedPrintable", "(II)V"⟩
abbrev c_D_decodeEqualSign : ByteArray := prog_3_method_5_code
def y_D_decodeEqualSign : MethodName := ⟨R_D, "decodeEqualSign", "(II)I"⟩
abbrev c_X_hexDigit : ByteArray := prog_1_method_19_code
def y_X_hexDigit : MethodName := ⟨R_X, "hexDigit", "(I)I"⟩
abbrev c_B_lineEndSize : ByteArray := prog_2_method_12_code
def y_B_lineEndSize : MethodName := ⟨R_B, "lineEndSize", "(II)I"⟩
abbrev c_D_decodeBlanks : ByteArray := prog_3_method_6_code
def y_D_decodeBlanks : MethodName := ⟨R_D, "decodeBlanks", "(II)I"⟩
abbrev c_T_readParts : ByteArray := prog_8_method_13_code
def y_T_readParts : MethodName := ⟨R_T, "readParts", "(LMailTree$Entity;I)V"⟩
abbrev c_T_markOf : ByteArray := prog_8_method_14_code
def y_T_markOf : MethodName := ⟨R_T, "markOf", "(LMailTree$Entity;II)I"⟩
abbrev c_B_has : ByteArray := prog_2_method_7_code
def y_B_has : MethodName := ⟨R_B, "has", "(Ljava/lang/String;II)Z"⟩
abbrev c_X_entities : ByteArray := prog_1_method_5_code
def y_X_entities : MethodName := ⟨R_X, "entities", "()I"⟩
abbrev c_X_written : ByteArray := prog_1_method_12_code
def y_X_written : MethodName := ⟨R_X, "written", "(I)I"⟩
abbrev c_X_again : ByteArray := prog_1_method_13_code
def y_X_again : MethodName := ⟨R_X, "again", "()I"⟩
abbrev c_X_look : ByteArray := prog_1_method_6_code
def y_X_look : MethodName := ⟨R_X, "look", "(II)I"⟩
abbrev c_T_entityAt : ByteArray := prog_8_method_2_code
def y_T_entityAt : MethodName := ⟨R_T, "entityAt", "(I)LMailTree$Entity;"⟩
abbrev c_X_length : ByteArray := prog_1_method_7_code
def y_X_length : MethodName := ⟨R_X, "length", "(III)I"⟩
abbrev c_E_fieldAt : ByteArray := prog_4_method_3_code
def y_E_fieldAt : MethodName := ⟨R_E, "fieldAt", "(I)LMailTree$Field;"⟩
abbrev c_X_letter : ByteArray := prog_1_method_8_code
def y_X_letter : MethodName := ⟨R_X, "letter", "(IIII)I"⟩
abbrev c_X_byteOf : ByteArray := prog_1_method_14_code
def y_X_byteOf : MethodName := ⟨R_X, "byteOf", "(LMailTree$Bytes;III)I"⟩
abbrev c_X_content : ByteArray := prog_1_method_9_code
def y_X_content : MethodName := ⟨R_X, "content", "(II)I"⟩
abbrev c_X_boundary : ByteArray := prog_1_method_10_code
def y_X_boundary : MethodName := ⟨R_X, "boundary", "(II)I"⟩
abbrev c_X_write : ByteArray := prog_1_method_11_code
def y_X_write : MethodName := ⟨R_X, "write", "()I"⟩
abbrev c_P_printEntity : ByteArray := prog_6_method_2_code
def y_P_printEntity : MethodName := ⟨R_P, "printEntity", "(II)V"⟩
abbrev c_P_printFields : ByteArray := prog_6_method_3_code
def y_P_printFields : MethodName := ⟨R_P, "printFields", "(LMailTree$Entity;)V"⟩
abbrev c_B_putText : ByteArray := prog_2_method_5_code
def y_B_putText : MethodName := ⟨R_B, "putText", "(Ljava/lang/String;)V"⟩
abbrev c_P_printContent : ByteArray := prog_6_method_5_code
def y_P_printContent : MethodName := ⟨R_P, "printContent", "(LMailTree$Entity;)V"⟩
abbrev c_P_printBase64 : ByteArray := prog_6_method_6_code
def y_P_printBase64 : MethodName := ⟨R_P, "printBase64", "(II)V"⟩
abbrev c_P_printThreeBytes : ByteArray := prog_6_method_7_code
def y_P_printThreeBytes : MethodName := ⟨R_P, "printThreeBytes", "(II)V"⟩
abbrev c_P_printQuotedPrintable : ByteArray := prog_6_method_8_code
def y_P_printQuotedPrintable : MethodName := ⟨R_P, "printQuotedPrintable", "(II)V"⟩
abbrev c_P_isPlain : ByteArray := prog_6_method_9_code
def y_P_isPlain : MethodName := ⟨R_P, "isPlain", "(II)Z"⟩
abbrev c_P_printEscaped : ByteArray := prog_6_method_10_code
def y_P_printEscaped : MethodName := ⟨R_P, "printEscaped", "(I)V"⟩
abbrev c_P_printMark : ByteArray := prog_6_method_4_code
def y_P_printMark : MethodName := ⟨R_P, "printMark", "(LMailTree$Entity;Ljava/lang/String;)V"⟩
abbrev c_M_init : ByteArray := prog_10_method_1_code
def y_M_init : MethodName := ⟨R_M, "<init>", "()V"⟩
abbrev c_M_thrown : ByteArray := prog_10_method_2_code
def y_M_thrown : MethodName := ⟨R_M, "thrown", "()I"⟩
abbrev c_M_feed : ByteArray := prog_10_method_4_code
def y_M_feed : MethodName := ⟨R_M, "feed", "(JI)Z"⟩
abbrev c_M_clear : ByteArray := prog_10_method_5_code
def y_M_clear : MethodName := ⟨R_M, "clear", "()I"⟩
abbrev c_M_read : ByteArray := prog_10_method_43_code
def y_M_read : MethodName := ⟨R_M, "read", "()I"⟩
abbrev c_M_lay : ByteArray := prog_10_method_34_code
def y_M_lay : MethodName := ⟨R_M, "lay", "(IIII)V"⟩
abbrev c_M_takeEntity : ByteArray := prog_10_method_42_code
def y_M_takeEntity : MethodName := ⟨R_M, "takeEntity", "()V"⟩
abbrev c_M_set : ByteArray := prog_10_method_12_code
def y_M_set : MethodName := ⟨R_M, "set", "(III)V"⟩
abbrev c_M_of : ByteArray := prog_10_method_11_code
def y_M_of : MethodName := ⟨R_M, "of", "(II)I"⟩
abbrev c_M_fields : ByteArray := prog_10_method_16_code
def y_M_fields : MethodName := ⟨R_M, "fields", "(III)I"⟩
abbrev c_M_textEnd : ByteArray := prog_10_method_8_code
def y_M_textEnd : MethodName := ⟨R_M, "textEnd", "(II)I"⟩
abbrev c_M_lineEnd : ByteArray := prog_10_method_7_code
def y_M_lineEnd : MethodName := ⟨R_M, "lineEnd", "(II)I"⟩
abbrev c_M_trims : ByteArray := prog_10_method_14_code
def y_M_trims : MethodName := ⟨R_M, "trims", "(I)V"⟩
abbrev c_M_isBlank : ByteArray := prog_10_method_6_code
def y_M_isBlank : MethodName := ⟨R_M, "isBlank", "(I)Z"⟩
abbrev c_M_nameSize : ByteArray := prog_10_method_9_code
def y_M_nameSize : MethodName := ⟨R_M, "nameSize", "(II)I"⟩
abbrev c_M_begins : ByteArray := prog_10_method_15_code
def y_M_begins : MethodName := ⟨R_M, "begins", "(IIII)V"⟩
abbrev c_M_keep : ByteArray := prog_10_method_10_code
def y_M_keep : MethodName := ⟨R_M, "keep", "(I)V"⟩
abbrev c_M_encoding : ByteArray := prog_10_method_28_code
def y_M_encoding : MethodName := ⟨R_M, "encoding", "(I)I"⟩
abbrev c_M_firstField : ByteArray := prog_10_method_26_code
def y_M_firstField : MethodName := ⟨R_M, "firstField", "(IJJJ)I"⟩
abbrev c_M_fieldOf : ByteArray := prog_10_method_13_code
def y_M_fieldOf : MethodName := ⟨R_M, "fieldOf", "(III)I"⟩
abbrev c_M_isWord : ByteArray := prog_10_method_18_code
def y_M_isWord : MethodName := ⟨R_M, "isWord", "(IIJJJ)Z"⟩
abbrev c_M_small : ByteArray := prog_10_method_17_code
def y_M_small : MethodName := ⟨R_M, "small", "(I)I"⟩
abbrev c_M_enter : ByteArray := prog_10_method_27_code
def y_M_enter : MethodName := ⟨R_M, "enter", "(II)V"⟩
abbrev c_M_space : ByteArray := prog_10_method_21_code
def y_M_space : MethodName := ⟨R_M, "space", "()V"⟩
abbrev c_M_now : ByteArray := prog_10_method_19_code
def y_M_now : MethodName := ⟨R_M, "now", "()I"⟩
abbrev c_M_comment : ByteArray := prog_10_method_20_code
def y_M_comment : MethodName := ⟨R_M, "comment", "()V"⟩
abbrev c_M_atom : ByteArray := prog_10_method_23_code
def y_M_atom : MethodName := ⟨R_M, "atom", "()Z"⟩
abbrev c_M_isAtom : ByteArray := prog_10_method_22_code
def y_M_isAtom : MethodName := ⟨R_M, "isAtom", "(I)Z"⟩
abbrev c_M_kind : ByteArray := prog_10_method_31_code
def y_M_kind : MethodName := ⟨R_M, "kind", "(I)I"⟩
abbrev c_M_takes : ByteArray := prog_10_method_25_code
def y_M_takes : MethodName := ⟨R_M, "takes", "(I)Z"⟩
abbrev c_M_parameter : ByteArray := prog_10_method_29_code
def y_M_parameter : MethodName := ⟨R_M, "parameter", "()I"⟩
abbrev c_M_quoted : ByteArray := prog_10_method_24_code
def y_M_quoted : MethodName := ⟨R_M, "quoted", "()Z"⟩
abbrev c_M_isBoundary : ByteArray := prog_10_method_30_code
def y_M_isBoundary : MethodName := ⟨R_M, "isBoundary", "()Z"⟩
abbrev c_M_contents : ByteArray := prog_10_method_41_code
def y_M_contents : MethodName := ⟨R_M, "contents", "(I)V"⟩
abbrev c_M_fromLetters : ByteArray := prog_10_method_37_code
def y_M_fromLetters : MethodName := ⟨R_M, "fromLetters", "(II)V"⟩
abbrev c_M_letter1 : ByteArray := prog_10_method_35_code
def y_M_letter1 : MethodName := ⟨R_M, "letter", "(I)I"⟩
abbrev c_M_fromQuoted : ByteArray := prog_10_method_40_code
def y_M_fromQuoted : MethodName := ⟨R_M, "fromQuoted", "(II)V"⟩
abbrev c_M_behindBlanks : ByteArray := prog_10_method_39_code
def y_M_behindBlanks : MethodName := ⟨R_M, "behindBlanks", "(II)I"⟩
abbrev c_M_lineBreak : ByteArray := prog_10_method_38_code
def y_M_lineBreak : MethodName := ⟨R_M, "lineBreak", "(II)I"⟩
abbrev c_M_hex : ByteArray := prog_10_method_36_code
def y_M_hex : MethodName := ⟨R_M, "hex", "(I)I"⟩
abbrev c_M_parts : ByteArray := prog_10_method_33_code
def y_M_parts : MethodName := ⟨R_M, "parts", "(I)I"⟩
abbrev c_M_delimiter : ByteArray := prog_10_method_32_code
def y_M_delimiter : MethodName := ⟨R_M, "delimiter", "(III)I"⟩
abbrev c_M_entities : ByteArray := prog_10_method_44_code
def y_M_entities : MethodName := ⟨R_M, "entities", "()I"⟩
abbrev c_M_look : ByteArray := prog_10_method_46_code
def y_M_look : MethodName := ⟨R_M, "look", "(II)I"⟩
abbrev c_M_isEntity : ByteArray := prog_10_method_45_code
def y_M_isEntity : MethodName := ⟨R_M, "isEntity", "(I)Z"⟩
abbrev c_M_fails : ByteArray := prog_10_method_3_code
def y_M_fails : MethodName := ⟨R_M, "fails", "(ZZ)Z"⟩
abbrev c_M_length : ByteArray := prog_10_method_48_code
def y_M_length : MethodName := ⟨R_M, "length", "(III)I"⟩
abbrev c_M_isField : ByteArray := prog_10_method_47_code
def y_M_isField : MethodName := ⟨R_M, "isField", "(II)Z"⟩
abbrev c_M_letter : ByteArray := prog_10_method_49_code
def y_M_letter : MethodName := ⟨R_M, "letter", "(IIII)I"⟩
abbrev c_M_content : ByteArray := prog_10_method_50_code
def y_M_content : MethodName := ⟨R_M, "content", "(II)I"⟩
abbrev c_M_boundary : ByteArray := prog_10_method_51_code
def y_M_boundary : MethodName := ⟨R_M, "boundary", "(II)I"⟩
abbrev c_M_write : ByteArray := prog_10_method_65_code
def y_M_write : MethodName := ⟨R_M, "write", "()I"⟩
abbrev c_M_opens : ByteArray := prog_10_method_63_code
def y_M_opens : MethodName := ⟨R_M, "opens", "(I)V"⟩
abbrev c_M_putHead : ByteArray := prog_10_method_60_code
def y_M_putHead : MethodName := ⟨R_M, "putHead", "(I)V"⟩
abbrev c_M_putText : ByteArray := prog_10_method_54_code
def y_M_putText : MethodName := ⟨R_M, "putText", "(II)V"⟩
abbrev c_M_put : ByteArray := prog_10_method_52_code
def y_M_put : MethodName := ⟨R_M, "put", "(I)V"⟩
abbrev c_M_putLine : ByteArray := prog_10_method_53_code
def y_M_putLine : MethodName := ⟨R_M, "putLine", "()V"⟩
abbrev c_M_putLetters : ByteArray := prog_10_method_56_code
def y_M_putLetters : MethodName := ⟨R_M, "putLetters", "(II)V"⟩
abbrev c_M_toLetter : ByteArray := prog_10_method_55_code
def y_M_toLetter : MethodName := ⟨R_M, "toLetter", "(I)I"⟩
abbrev c_M_putQuoted : ByteArray := prog_10_method_59_code
def y_M_putQuoted : MethodName := ⟨R_M, "putQuoted", "(II)V"⟩
abbrev c_M_plain : ByteArray := prog_10_method_58_code
def y_M_plain : MethodName := ⟨R_M, "plain", "(IIII)Z"⟩
abbrev c_M_digit : ByteArray := prog_10_method_57_code
def y_M_digit : MethodName := ⟨R_M, "digit", "(I)I"⟩
abbrev c_M_goesOn : ByteArray := prog_10_method_64_code
def y_M_goesOn : MethodName := ⟨R_M, "goesOn", "()V"⟩
abbrev c_M_partOf : ByteArray := prog_10_method_62_code
def y_M_partOf : MethodName := ⟨R_M, "partOf", "(II)I"⟩
abbrev c_M_putDelimiter : ByteArray := prog_10_method_61_code
def y_M_putDelimiter : MethodName := ⟨R_M, "putDelimiter", "(IZ)V"⟩
abbrev c_M_written : ByteArray := prog_10_method_66_code
def y_M_written : MethodName := ⟨R_M, "written", "(I)I"⟩
abbrev c_M_again : ByteArray := prog_10_method_67_code
def y_M_again : MethodName := ⟨R_M, "again", "()I"⟩
def mt_T : List Cond := lw_tbl.filter goodWord
def mt_isN : Cond → Bool
  | .methodLinkNest .. => true
  | _ => false
def mt_nest : List Cond := tables_1.filter mt_isN
theorem mt_nestF {w : Cond} (h : w ∈ mt_nest) : ∃ (a : String) (i : Nat) (x : MethodName) (b : String), w = .methodLinkNest a i x b := by
  have h2 := (List.mem_filter.mp h).2
  cases w <;> first | exact ⟨_, _, _, _, rfl⟩ | (exact absurd h2 (by simp [mt_isN]))
/-- a field link of the tables: field kf of class C, whose layout is T -/
def fk_ (own : String) (idx : Nat) (C : String) (T : u_T) (N kf : Nat) : Prop := (∀ w ∈ u_ws C T N, w ∈ mt_T) ∧ kf < N ∧ Cond.fieldLink own idx (T kf).1 (T kf).2.1 (T kf).2.2.1 ∈ mt_T
def fp_ (T : u_T) (N kf : Nat) (t0 : Nat → FieldType) : Prop := (∀ k, k < N → parseFieldDescriptor (T k).2.2.1 = some (t0 k)) ∧ (∀ a, a < N → ∀ b, b < N → a ≠ b → (T a).2.1 ≠ (T b).2.1) ∧ (T kf).2.2.2 = false
/-- a call's words: V of an instance's method, S static in the same class, N static of a nest mate -/
def cV_ (own : String) (idx : Nat) (y : MethodName) (cc : ByteArray) (nL : Nat) (ret : Option FieldType) (n : Nat) : Prop := (∀ w ∈ ([.methodLink own idx y, .instanceMethod y, .selects y.cls y y, .initialized y.cls, .code y cc nL ret] : List Cond), w ∈ mt_T) ∧ (y.cls ≠ "java/lang/invoke/MethodHandle" ∧ y.cls ≠ "java/lang/invoke/VarHandle" ∧ (parseMethodDescriptor y.desc).map (fun d => d.parameters.length) = some n)
def cS_ (own : String) (idx : Nat) (y : MethodName) (cc : ByteArray) (nL : Nat) (ret : Option FieldType) (n : Nat) : Prop := (∀ w ∈ ([.methodLink own idx y, .static y, .initialized own, .code y cc nL ret] : List Cond), w ∈ mt_T) ∧ y.cls = own ∧ (y.cls ≠ "java/lang/invoke/MethodHandle" ∧ y.cls ≠ "java/lang/invoke/VarHandle" ∧ (parseMethodDescriptor y.desc).map (fun d => d.parameters.length) = some n)
def cN_ (own : String) (idx : Nat) (y : MethodName) (cc : ByteArray) (nL : Nat) (ret : Option FieldType) (n : Nat) : Prop := (∀ w ∈ ([.static y, .initialized y.cls, .code y cc nL ret] : List Cond), w ∈ mt_T) ∧ (y.cls ≠ "java/lang/invoke/MethodHandle" ∧ y.cls ≠ "java/lang/invoke/VarHandle" ∧ (parseMethodDescriptor y.desc).map (fun d => d.parameters.length) = some n) ∧ ∃ host : String, Cond.methodLinkNest own idx y host ∈ mt_nest
theorem mt_tb1 {w : Cond} (h : w ∈ tables_1_1) : w ∈ tables_1 := List.mem_append_left _ h
theorem mt_in1 {w : Cond} (i : Nat) (h : tables_1_1[i]? = some w) (hg : goodWord w = true) : w ∈ mt_T := List.mem_filter.mpr ⟨List.mem_append_right _ (mt_tb1 (List.mem_of_getElem? h)), hg⟩
theorem mt_tb2 {w : Cond} (h : w ∈ tables_1_2) : w ∈ tables_1 := List.mem_append_right _ (List.mem_append_left _ h)
theorem mt_in2 {w : Cond} (i : Nat) (h : tables_1_2[i]? = some w) (hg : goodWord w = true) : w ∈ mt_T := List.mem_filter.mpr ⟨List.mem_append_right _ (mt_tb2 (List.mem_of_getElem? h)), hg⟩
theorem mt_tb3 {w : Cond} (h : w ∈ tables_1_3) : w ∈ tables_1 := List.mem_append_right _ (List.mem_append_right _ (List.mem_append_left _ h))
theorem mt_in3 {w : Cond} (i : Nat) (h : tables_1_3[i]? = some w) (hg : goodWord w = true) : w ∈ mt_T := List.mem_filter.mpr ⟨List.mem_append_right _ (mt_tb3 (List.mem_of_getElem? h)), hg⟩
theorem mt_tb4 {w : Cond} (h : w ∈ tables_1_4) : w ∈ tables_1 := List.mem_append_right _ (List.mem_append_right _ (List.mem_append_right _ (List.mem_append_left _ h)))
theorem mt_in4 {w : Cond} (i : Nat) (h : tables_1_4[i]? = some w) (hg : goodWord w = true) : w ∈ mt_T := List.mem_filter.mpr ⟨List.mem_append_right _ (mt_tb4 (List.mem_of_getElem? h)), hg⟩
theorem mt_tb5 {w : Cond} (h : w ∈ tables_1_5) : w ∈ tables_1 := List.mem_append_right _ (List.mem_append_right _ (List.mem_append_right _ (List.mem_append_right _ (List.mem_append_left _ h))))
theorem mt_in5 {w : Cond} (i : Nat) (h : tables_1_5[i]? = some w) (hg : goodWord w = true) : w ∈ mt_T := List.mem_filter.mpr ⟨List.mem_append_right _ (mt_tb5 (List.mem_of_getElem? h)), hg⟩
theorem mt_tb6 {w : Cond} (h : w ∈ tables_1_6) : w ∈ tables_1 := List.mem_append_right _ (List.mem_append_right _ (List.mem_append_right _ (List.mem_append_right _ (List.mem_append_right _ (h)))))
theorem mt_in6 {w : Cond} (i : Nat) (h : tables_1_6[i]? = some w) (hg : goodWord w = true) : w ∈ mt_T := List.mem_filter.mpr ⟨List.mem_append_right _ (mt_tb6 (List.mem_of_getElem? h)), hg⟩
theorem mt_inp {w : Cond} (i : Nat) (h : (k2_sels lw_privs)[i]? = some w) (hg : goodWord w = true) : w ∈ mt_T := List.mem_filter.mpr ⟨List.mem_append_left _ (List.mem_of_getElem? h), hg⟩
theorem fa1 {S : List Cond} {a0 : Cond} (h0 : a0 ∈ S) : ∀ w ∈ ([a0] : List Cond), w ∈ S := List.forall_mem_cons.mpr ⟨h0, fun _ h => absurd h List.not_mem_nil⟩
theorem fa2 {S : List Cond} {a0 a1 : Cond} (h0 : a0 ∈ S) (h1 : a1 ∈ S) : ∀ w ∈ ([a0, a1] : List Cond), w ∈ S := List.forall_mem_cons.mpr ⟨h0, List.forall_mem_cons.mpr ⟨h1, fun _ h => absurd h List.not_mem_nil⟩⟩
theorem fa3 {S : List Cond} {a0 a1 a2 : Cond} (h0 : a0 ∈ S) (h1 : a1 ∈ S) (h2 : a2 ∈ S) : ∀ w ∈ ([a0, a1, a2] : List Cond), w ∈ S := List.forall_mem_cons.mpr ⟨h0, List.forall_mem_cons.mpr ⟨h1, List.forall_mem_cons.mpr ⟨h2, fun _ h => absurd h List.not_mem_nil⟩⟩⟩
theorem fa4 {S : List Cond} {a0 a1 a2 a3 : Cond} (h0 : a0 ∈ S) (h1 : a1 ∈ S) (h2 : a2 ∈ S) (h3 : a3 ∈ S) : ∀ w ∈ ([a0, a1, a2, a3] : List Cond), w ∈ S := List.forall_mem_cons.mpr ⟨h0, List.forall_mem_cons.mpr ⟨h1, List.forall_mem_cons.mpr ⟨h2, List.forall_mem_cons.mpr ⟨h3, fun _ h => absurd h List.not_mem_nil⟩⟩⟩⟩
theorem fa5 {S : List Cond} {a0 a1 a2 a3 a4 : Cond} (h0 : a0 ∈ S) (h1 : a1 ∈ S) (h2 : a2 ∈ S) (h3 : a3 ∈ S) (h4 : a4 ∈ S) : ∀ w ∈ ([a0, a1, a2, a3, a4] : List Cond), w ∈ S := List.forall_mem_cons.mpr ⟨h0, List.forall_mem_cons.mpr ⟨h1, List.forall_mem_cons.mpr ⟨h2, List.forall_mem_cons.mpr ⟨h3, List.forall_mem_cons.mpr ⟨h4, fun _ h => absurd h List.not_mem_nil⟩⟩⟩⟩⟩
theorem fa6 {S : List Cond} {a0 a1 a2 a3 a4 a5 : Cond} (h0 : a0 ∈ S) (h1 : a1 ∈ S) (h2 : a2 ∈ S) (h3 : a3 ∈ S) (h4 : a4 ∈ S) (h5 : a5 ∈ S) : ∀ w ∈ ([a0, a1, a2, a3, a4, a5] : List Cond), w ∈ S := List.forall_mem_cons.mpr ⟨h0, List.forall_mem_cons.mpr ⟨h1, List.forall_mem_cons.mpr ⟨h2, List.forall_mem_cons.mpr ⟨h3, List.forall_mem_cons.mpr ⟨h4, List.forall_mem_cons.mpr ⟨h5, fun _ h => absurd h List.not_mem_nil⟩⟩⟩⟩⟩⟩
theorem wl_B_0 : u_lay R_B T_B 0 ∈ mt_T := mt_in1 45 (by decide +kernel) rfl
theorem wl_B_1 : u_lay R_B T_B 1 ∈ mt_T := mt_in1 47 (by decide +kernel) rfl
theorem wl_B_2 : u_lay R_B T_B 2 ∈ mt_T := mt_in1 49 (by decide +kernel) rfl
theorem uw_B : ∀ w ∈ u_ws R_B T_B 3, w ∈ mt_T := (List.forall_mem_cons.mpr ⟨wl_B_0, List.forall_mem_cons.mpr ⟨wl_B_1, List.forall_mem_cons.mpr ⟨wl_B_2, fun _ h => absurd h List.not_mem_nil⟩⟩⟩ : ∀ w ∈ ([u_lay R_B T_B 0, u_lay R_B T_B 1, u_lay R_B T_B 2] : List Cond), w ∈ mt_T)
theorem wl_D_0 : u_lay R_D T_D 0 ∈ mt_T := mt_in1 97 (by decide +kernel) rfl
theorem wl_D_1 : u_lay R_D T_D 1 ∈ mt_T := mt_in1 99 (by decide +kernel) rfl
theorem uw_D : ∀ w ∈ u_ws R_D T_D 2, w ∈ mt_T := (List.forall_mem_cons.mpr ⟨wl_D_0, List.forall_mem_cons.mpr ⟨wl_D_1, fun _ h => absurd h List.not_mem_nil⟩⟩ : ∀ w ∈ ([u_lay R_D T_D 0, u_lay R_D T_D 1] : List Cond), w ∈ mt_T)
theorem wl_E_0 : u_lay R_E T_E 0 ∈ mt_T := mt_in1 191 (by decide +kernel) rfl
theorem wl_E_1 : u_lay R_E T_E 1 ∈ mt_T := mt_in1 193 (by decide +kernel) rfl
theorem wl_E_2 : u_lay R_E T_E 2 ∈ mt_T := mt_in1 195 (by decide +kernel) rfl
theorem wl_E_3 : u_lay R_E T_E 3 ∈ mt_T := mt_in1 197 (by decide +kernel) rfl
theorem wl_E_4 : u_lay R_E T_E 4 ∈ mt_T := mt_in1 199 (by decide +kernel) rfl
theorem wl_E_5 : u_lay R_E T_E 5 ∈ mt_T := mt_in1 201 (by decide +kernel) rfl
theorem wl_E_6 : u_lay R_E T_E 6 ∈ mt_T := mt_in1 203 (by decide +kernel) rfl
theorem wl_E_7 : u_lay R_E T_E 7 ∈ mt_T := mt_in1 205 (by decide +kernel) rfl
theorem wl_E_8 : u_lay R_E T_E 8 ∈ mt_T := mt_in1 207 (by decide +kernel) rfl
theorem wl_E_9 : u_lay R_E T_E 9 ∈ mt_T := mt_in1 209 (by decide +kernel) rfl
theorem wl_E_10 : u_lay R_E T_E 10 ∈ mt_T := mt_in1 211 (by decide +kernel) rfl
theorem wl_E_11 : u_lay R_E T_E 11 ∈ mt_T := mt_in1 213 (by decide +kernel) rfl
theorem wl_E_12 : u_lay R_E T_E 12 ∈ mt_T := mt_in1 215 (by decide +kernel) rfl
theorem wl_E_13 : u_lay R_E T_E 13 ∈ mt_T := mt_in1 217 (by decide +kernel) rfl
theorem uw_E : ∀ w ∈ u_ws R_E T_E 14, w ∈ mt_T := (List.forall_mem_cons.mpr ⟨wl_E_0, List.forall_mem_cons.mpr ⟨wl_E_1, List.forall_mem_cons.mpr ⟨wl_E_2, List.forall_mem_cons.mpr ⟨wl_E_3, List.forall_mem_cons.mpr ⟨wl_E_4, List.forall_mem_cons.mpr ⟨wl_E_5, List.forall_mem_cons.mpr ⟨wl_E_6, List.forall_mem_cons.mpr ⟨wl_E_7, List.forall_mem_cons.mpr ⟨wl_E_8, List.forall_mem_cons.mpr ⟨wl_E_9, List.forall_mem_cons.mpr ⟨wl_E_10, List.forall_mem_cons.mpr ⟨wl_E_11, List.forall_mem_cons.mpr ⟨wl_E_12, List.forall_mem_cons.mpr ⟨wl_E_13, fun _ h => absurd h List.not_mem_nil⟩⟩⟩⟩⟩⟩⟩⟩⟩⟩⟩⟩⟩⟩ : ∀ w ∈ ([u_lay R_E T_E 0, u_lay R_E T_E 1, u_lay R_E T_E 2, u_lay R_E T_E 3, u_lay R_E T_E 4, u_lay R_E T_E 5, u_lay R_E T_E 6, u_lay R_E T_E 7, u_lay R_E T_E 8, u_lay R_E T_E 9, u_lay R_E T_E 10, u_lay R_E T_E 11, u_lay R_E T_E 12, u_lay R_E T_E 13] : List Cond), w ∈ mt_T)
theorem wl_F_0 : u_lay R_F T_F 0 ∈ mt_T := mt_in1 130 (by decide +kernel) rfl
theorem wl_F_1 : u_lay R_F T_F 1 ∈ mt_T := mt_in1 132 (by decide +kernel) rfl
theorem wl_F_2 : u_lay R_F T_F 2 ∈ mt_T := mt_in1 134 (by decide +kernel) rfl
theorem wl_F_3 : u_lay R_F T_F 3 ∈ mt_T := mt_in1 136 (by decide +kernel) rfl
theorem uw_F : ∀ w ∈ u_ws R_F T_F 4, w ∈ mt_T := (List.forall_mem_cons.mpr ⟨wl_F_0, List.forall_mem_cons.mpr ⟨wl_F_1, List.forall_mem_cons.mpr ⟨wl_F_2, List.forall_mem_cons.mpr ⟨wl_F_3, fun _ h => absurd h List.not_mem_nil⟩⟩⟩⟩ : ∀ w ∈ ([u_lay R_F T_F 0, u_lay R_F T_F 1, u_lay R_F T_F 2, u_lay R_F T_F 3] : List Cond), w ∈ mt_T)
theorem wl_P_0 : u_lay R_P T_P 0 ∈ mt_T := mt_in2 27 (by decide +kernel) rfl
theorem wl_P_1 : u_lay R_P T_P 1 ∈ mt_T := mt_in2 29 (by decide +kernel) rfl
theorem uw_P : ∀ w ∈ u_ws R_P T_P 2, w ∈ mt_T := (List.forall_mem_cons.mpr ⟨wl_P_0, List.forall_mem_cons.mpr ⟨wl_P_1, fun _ h => absurd h List.not_mem_nil⟩⟩ : ∀ w ∈ ([u_lay R_P T_P 0, u_lay R_P T_P 1] : List Cond), w ∈ mt_T)
theorem wl_S_0 : u_lay R_S T_S 0 ∈ mt_T := mt_in1 78 (by decide +kernel) rfl
theorem wl_S_1 : u_lay R_S T_S 1 ∈ mt_T := mt_in1 80 (by decide +kernel) rfl
theorem wl_S_2 : u_lay R_S T_S 2 ∈ mt_T := mt_in1 82 (by decide +kernel) rfl
theorem wl_S_3 : u_lay R_S T_S 3 ∈ mt_T := mt_in1 84 (by decide +kernel) rfl
theorem wl_S_4 : u_lay R_S T_S 4 ∈ mt_T := mt_in1 86 (by decide +kernel) rfl
theorem uw_S : ∀ w ∈ u_ws R_S T_S 5, w ∈ mt_T := (List.forall_mem_cons.mpr ⟨wl_S_0, List.forall_mem_cons.mpr ⟨wl_S_1, List.forall_mem_cons.mpr ⟨wl_S_2, List.forall_mem_cons.mpr ⟨wl_S_3, List.forall_mem_cons.mpr ⟨wl_S_4, fun _ h => absurd h List.not_mem_nil⟩⟩⟩⟩⟩ : ∀ w ∈ ([u_lay R_S T_S 0, u_lay R_S T_S 1, u_lay R_S T_S 2, u_lay R_S T_S 3, u_lay R_S T_S 4] : List Cond), w ∈ mt_T)
theorem wl_T_0 : u_lay R_T T_T 0 ∈ mt_T := mt_in1 239 (by decide +kernel) rfl
theorem wl_T_1 : u_lay R_T T_T 1 ∈ mt_T := mt_in2 1 (by decide +kernel) rfl
theorem wl_T_2 : u_lay R_T T_T 2 ∈ mt_T := mt_in2 3 (by decide +kernel) rfl
theorem wl_T_3 : u_lay R_T T_T 3 ∈ mt_T := mt_in2 5 (by decide +kernel) rfl
theorem wl_T_4 : u_lay R_T T_T 4 ∈ mt_T := mt_in2 7 (by decide +kernel) rfl
theorem wl_T_5 : u_lay R_T T_T 5 ∈ mt_T := mt_in2 9 (by decide +kernel) rfl
theorem wl_T_6 : u_lay R_T T_T 6 ∈ mt_T := mt_in2 11 (by decide +kernel) rfl
theorem wl_T_7 : u_lay R_T T_T 7 ∈ mt_T := mt_in2 13 (by decide +kernel) rfl
theorem uw_T : ∀ w ∈ u_ws R_T T_T 8, w ∈ mt_T := (List.forall_mem_cons.mpr ⟨wl_T_0, List.forall_mem_cons.mpr ⟨wl_T_1, List.forall_mem_cons.mpr ⟨wl_T_2, List.forall_mem_cons.mpr ⟨wl_T_3, List.forall_mem_cons.mpr ⟨wl_T_4, List.forall_mem_cons.mpr ⟨wl_T_5, List.forall_mem_cons.mpr ⟨wl_T_6, List.forall_mem_cons.mpr ⟨wl_T_7, fun _ h => absurd h List.not_mem_nil⟩⟩⟩⟩⟩⟩⟩⟩ : ∀ w ∈ ([u_lay R_T T_T 0, u_lay R_T T_T 1, u_lay R_T T_T 2, u_lay R_T T_T 3, u_lay R_T T_T 4, u_lay R_T T_T 5, u_lay R_T T_T 6, u_lay R_T T_T 7] : List Cond), w ∈ mt_T)
theorem wl_X_0 : u_lay R_X T_X 0 ∈ mt_T := mt_in2 36 (by decide +kernel) rfl
theorem wl_X_1 : u_lay R_X T_X 1 ∈ mt_T := mt_in2 38 (by decide +kernel) rfl
theorem wl_X_2 : u_lay R_X T_X 2 ∈ mt_T := mt_in2 40 (by decide +kernel) rfl
theorem wl_X_3 : u_lay R_X T_X 3 ∈ mt_T := mt_in2 42 (by decide +kernel) rfl
theorem uw_X : ∀ w ∈ u_ws R_X T_X 4, w ∈ mt_T := (List.forall_mem_cons.mpr ⟨wl_X_0, List.forall_mem_cons.mpr ⟨wl_X_1, List.forall_mem_cons.mpr ⟨wl_X_2, List.forall_mem_cons.mpr ⟨wl_X_3, fun _ h => absurd h List.not_mem_nil⟩⟩⟩⟩ : ∀ w ∈ ([u_lay R_X T_X 0, u_lay R_X T_X 1, u_lay R_X T_X 2, u_lay R_X T_X 3] : List Cond), w ∈ mt_T)
theorem wl_M_0 : u_lay R_M T_M 0 ∈ mt_T := mt_in4 160 (by decide +kernel) rfl
theorem wl_M_1 : u_lay R_M T_M 1 ∈ mt_T := mt_in4 162 (by decide +kernel) rfl
theorem wl_M_2 : u_lay R_M T_M 2 ∈ mt_T := mt_in4 164 (by decide +kernel) rfl
theorem wl_M_3 : u_lay R_M T_M 3 ∈ mt_T := mt_in4 166 (by decide +kernel) rfl
theorem wl_M_4 : u_lay R_M T_M 4 ∈ mt_T := mt_in4 168 (by decide +kernel) rfl
theorem wl_M_5 : u_lay R_M T_M 5 ∈ mt_T := mt_in4 170 (by decide +kernel) rfl
theorem wl_M_6 : u_lay R_M T_M 6 ∈ mt_T := mt_in4 172 (by decide +kernel) rfl
theorem wl_M_7 : u_lay R_M T_M 7 ∈ mt_T := mt_in4 174 (by decide +kernel) rfl
theorem wl_M_8 : u_lay R_M T_M 8 ∈ mt_T := mt_in4 176 (by decide +kernel) rfl
theorem wl_M_9 : u_lay R_M T_M 9 ∈ mt_T := mt_in4 178 (by decide +kernel) rfl
theorem wl_M_10 : u_lay R_M T_M 10 ∈ mt_T := mt_in4 180 (by decide +kernel) rfl
theorem wl_M_11 : u_lay R_M T_M 11 ∈ mt_T := mt_in4 182 (by decide +kernel) rfl
theorem wl_M_12 : u_lay R_M T_M 12 ∈ mt_T := mt_in4 184 (by decide +kernel) rfl
theorem wl_M_13 : u_lay R_M T_M 13 ∈ mt_T := mt_in4 186 (by decide +kernel) rfl
theorem wl_M_14 : u_lay R_M T_M 14 ∈ mt_T := mt_in4 188 (by decide +kernel) rfl
theorem wl_M_15 : u_lay R_M T_M 15 ∈ mt_T := mt_in4 190 (by decide +kernel) rfl
theorem wl_M_16 : u_lay R_M T_M 16 ∈ mt_T := mt_in4 192 (by decide +kernel) rfl
theorem wl_M_17 : u_lay R_M T_M 17 ∈ mt_T := mt_in4 194 (by decide +kernel) rfl
theorem wl_M_18 : u_lay R_M T_M 18 ∈ mt_T := mt_in4 196 (by decide +kernel) rfl
theorem wl_M_19 : u_lay R_M T_M 19 ∈ mt_T := mt_in4 198 (by decide +kernel) rfl
theorem wl_M_20 : u_lay R_M T_M 20 ∈ mt_T := mt_in4 200 (by decide +kernel) rfl
theorem wl_M_21 : u_lay R_M T_M 21 ∈ mt_T := mt_in4 202 (by decide +kernel) rfl
theorem wl_M_22 : u_lay R_M T_M 22 ∈ mt_T := mt_in4 204 (by decide +kernel) rfl
theorem wl_M_23 : u_lay R_M T_M 23 ∈ mt_T := mt_in4 206 (by decide +kernel) rfl
theorem wl_M_24 : u_lay R_M T_M 24 ∈ mt_T := mt_in4 208 (by decide +kernel) rfl
theorem uw_M : ∀ w ∈ u_ws R_M T_M 25, w ∈ mt_T := (List.forall_mem_cons.mpr ⟨wl_M_0, List.forall_mem_cons.mpr ⟨wl_M_1, List.forall_mem_cons.mpr ⟨wl_M_2, List.forall_mem_cons.mpr ⟨wl_M_3, List.forall_mem_cons.mpr ⟨wl_M_4, List.forall_mem_cons.mpr ⟨wl_M_5, List.forall_mem_cons.mpr ⟨wl_M_6, List.forall_mem_cons.mpr ⟨wl_M_7, List.forall_mem_cons.mpr ⟨wl_M_8, List.forall_mem_cons.mpr ⟨wl_M_9, List.forall_mem_cons.mpr ⟨wl_M_10, List.forall_mem_cons.mpr ⟨wl_M_11, List.forall_mem_cons.mpr ⟨wl_M_12, List.forall_mem_cons.mpr ⟨wl_M_13, List.forall_mem_cons.mpr ⟨wl_M_14, List.forall_mem_cons.mpr ⟨wl_M_15, List.forall_mem_cons.mpr ⟨wl_M_16, List.forall_mem_cons.mpr ⟨wl_M_17, List.forall_mem_cons.mpr ⟨wl_M_18, List.forall_mem_cons.mpr ⟨wl_M_19, List.forall_mem_cons.mpr ⟨wl_M_20, List.forall_mem_cons.mpr ⟨wl_M_21, List.forall_mem_cons.mpr ⟨wl_M_22, List.forall_mem_cons.mpr ⟨wl_M_23, List.forall_mem_cons.mpr ⟨wl_M_24, fun _ h => absurd h List.not_mem_nil⟩⟩⟩⟩⟩⟩⟩⟩⟩⟩⟩⟩⟩⟩⟩⟩⟩⟩⟩⟩⟩⟩⟩⟩⟩ : ∀ w ∈ ([u_lay R_M T_M 0, u_lay R_M T_M 1, u_lay R_M T_M 2, u_lay R_M T_M 3, u_lay R_M T_M 4, u_lay R_M T_M 5, u_lay R_M T_M 6, u_lay R_M T_M 7, u_lay R_M T_M 8, u_lay R_M T_M 9, u_lay R_M T_M 10, u_lay R_M T_M 11, u_lay R_M T_M 12, u_lay R_M T_M 13, u_lay R_M T_M 14, u_lay R_M T_M 15, u_lay R_M T_M 16, u_lay R_M T_M 17, u_lay R_M T_M 18, u_lay R_M T_M 19, u_lay R_M T_M 20, u_lay R_M T_M 21, u_lay R_M T_M 22, u_lay R_M T_M 23, u_lay R_M T_M 24] : List Cond), w ∈ mt_T)
theorem wf_B_9 : Cond.fieldLink R_B 9 (T_B 0).1 (T_B 0).2.1 (T_B 0).2.2.1 ∈ mt_T := mt_in1 37 (by decide +kernel) rfl
theorem wf_B_15 : Cond.fieldLink R_B 15 (T_B 1).1 (T_B 1).2.1 (T_B 1).2.2.1 ∈ mt_T := mt_in1 38 (by decide +kernel) rfl
theorem wf_D_18 : Cond.fieldLink R_D 18 (T_B 1).1 (T_B 1).2.1 (T_B 1).2.2.1 ∈ mt_T := mt_in1 39 (by decide +kernel) rfl
theorem wf_X_37 : Cond.fieldLink R_X 37 (T_B 1).1 (T_B 1).2.1 (T_B 1).2.2.1 ∈ mt_T := mt_in1 40 (by decide +kernel) rfl
theorem wf_T_68 : Cond.fieldLink R_T 68 (T_B 1).1 (T_B 1).2.1 (T_B 1).2.2.1 ∈ mt_T := mt_in1 41 (by decide +kernel) rfl
theorem wf_S_55 : Cond.fieldLink R_S 55 (T_B 1).1 (T_B 1).2.1 (T_B 1).2.2.1 ∈ mt_T := mt_in1 42 (by decide +kernel) rfl
theorem wf_B_19 : Cond.fieldLink R_B 19 (T_B 2).1 (T_B 2).2.1 (T_B 2).2.2.1 ∈ mt_T := mt_in1 43 (by decide +kernel) rfl
theorem wf_X_162 : Cond.fieldLink R_X 162 (T_B 2).1 (T_B 2).2.1 (T_B 2).2.2.1 ∈ mt_T := mt_in1 44 (by decide +kernel) rfl
theorem wf_S_9 : Cond.fieldLink R_S 9 (T_S 0).1 (T_S 0).2.1 (T_S 0).2.2.1 ∈ mt_T := mt_in1 69 (by decide +kernel) rfl
theorem wf_S_20 : Cond.fieldLink R_S 20 (T_S 1).1 (T_S 1).2.1 (T_S 1).2.2.1 ∈ mt_T := mt_in1 70 (by decide +kernel) rfl
theorem wf_T_230 : Cond.fieldLink R_T 230 (T_S 1).1 (T_S 1).2.1 (T_S 1).2.2.1 ∈ mt_T := mt_in1 71 (by decide +kernel) rfl
theorem wf_S_29 : Cond.fieldLink R_S 29 (T_S 2).1 (T_S 2).2.1 (T_S 2).2.2.1 ∈ mt_T := mt_in1 72 (by decide +kernel) rfl
theorem wf_T_191 : Cond.fieldLink R_T 191 (T_S 2).1 (T_S 2).2.1 (T_S 2).2.2.1 ∈ mt_T := mt_in1 73 (by decide +kernel) rfl
theorem wf_S_35 : Cond.fieldLink R_S 35 (T_S 3).1 (T_S 3).2.1 (T_S 3).2.2.1 ∈ mt_T := mt_in1 74 (by decide +kernel) rfl
theorem wf_T_194 : Cond.fieldLink R_T 194 (T_S 3).1 (T_S 3).2.1 (T_S 3).2.2.1 ∈ mt_T := mt_in1 75 (by decide +kernel) rfl
theorem wf_S_61 : Cond.fieldLink R_S 61 (T_S 4).1 (T_S 4).2.1 (T_S 4).2.2.1 ∈ mt_T := mt_in1 76 (by decide +kernel) rfl
theorem wf_T_220 : Cond.fieldLink R_T 220 (T_S 4).1 (T_S 4).2.1 (T_S 4).2.2.1 ∈ mt_T := mt_in1 77 (by decide +kernel) rfl
theorem wf_D_9 : Cond.fieldLink R_D 9 (T_D 0).1 (T_D 0).2.1 (T_D 0).2.2.1 ∈ mt_T := mt_in1 95 (by decide +kernel) rfl
theorem wf_D_15 : Cond.fieldLink R_D 15 (T_D 1).1 (T_D 1).2.1 (T_D 1).2.2.1 ∈ mt_T := mt_in1 96 (by decide +kernel) rfl
theorem wf_P_75 : Cond.fieldLink R_P 75 (T_F 0).1 (T_F 0).2.1 (T_F 0).2.2.1 ∈ mt_T := mt_in1 116 (by decide +kernel) rfl
theorem wf_T_159 : Cond.fieldLink R_T 159 (T_F 0).1 (T_F 0).2.1 (T_F 0).2.2.1 ∈ mt_T := mt_in1 117 (by decide +kernel) rfl
theorem wf_X_118 : Cond.fieldLink R_X 118 (T_F 0).1 (T_F 0).2.1 (T_F 0).2.2.1 ∈ mt_T := mt_in1 118 (by decide +kernel) rfl
theorem wf_P_80 : Cond.fieldLink R_P 80 (T_F 1).1 (T_F 1).2.1 (T_F 1).2.2.1 ∈ mt_T := mt_in1 119 (by decide +kernel) rfl
theorem wf_X_105 : Cond.fieldLink R_X 105 (T_F 1).1 (T_F 1).2.1 (T_F 1).2.2.1 ∈ mt_T := mt_in1 120 (by decide +kernel) rfl
theorem wf_T_162 : Cond.fieldLink R_T 162 (T_F 1).1 (T_F 1).2.1 (T_F 1).2.2.1 ∈ mt_T := mt_in1 121 (by decide +kernel) rfl
theorem wf_S_23 : Cond.fieldLink R_S 23 (T_F 2).1 (T_F 2).2.1 (T_F 2).2.2.1 ∈ mt_T := mt_in1 122 (by decide +kernel) rfl
theorem wf_P_92 : Cond.fieldLink R_P 92 (T_F 2).1 (T_F 2).2.1 (T_F 2).2.2.1 ∈ mt_T := mt_in1 123 (by decide +kernel) rfl
theorem wf_T_165 : Cond.fieldLink R_T 165 (T_F 2).1 (T_F 2).2.1 (T_F 2).2.2.1 ∈ mt_T := mt_in1 124 (by decide +kernel) rfl
theorem wf_X_128 : Cond.fieldLink R_X 128 (T_F 2).1 (T_F 2).2.1 (T_F 2).2.2.1 ∈ mt_T := mt_in1 125 (by decide +kernel) rfl
theorem wf_S_32 : Cond.fieldLink R_S 32 (T_F 3).1 (T_F 3).2.1 (T_F 3).2.2.1 ∈ mt_T := mt_in1 126 (by decide +kernel) rfl
theorem wf_P_95 : Cond.fieldLink R_P 95 (T_F 3).1 (T_F 3).2.1 (T_F 3).2.2.1 ∈ mt_T := mt_in1 127 (by decide +kernel) rfl
theorem wf_T_151 : Cond.fieldLink R_T 151 (T_F 3).1 (T_F 3).2.1 (T_F 3).2.2.1 ∈ mt_T := mt_in1 128 (by decide +kernel) rfl
theorem wf_X_110 : Cond.fieldLink R_X 110 (T_F 3).1 (T_F 3).2.1 (T_F 3).2.2.1 ∈ mt_T := mt_in1 129 (by decide +kernel) rfl
theorem wf_E_18 : Cond.fieldLink R_E 18 (T_E 0).1 (T_E 0).2.1 (T_E 0).2.2.1 ∈ mt_T := mt_in1 139 (by decide +kernel) rfl
theorem wf_P_44 : Cond.fieldLink R_P 44 (T_E 0).1 (T_E 0).2.1 (T_E 0).2.2.1 ∈ mt_T := mt_in1 140 (by decide +kernel) rfl
theorem wf_T_103 : Cond.fieldLink R_T 103 (T_E 0).1 (T_E 0).2.1 (T_E 0).2.2.1 ∈ mt_T := mt_in1 141 (by decide +kernel) rfl
theorem wf_X_62 : Cond.fieldLink R_X 62 (T_E 0).1 (T_E 0).2.1 (T_E 0).2.2.1 ∈ mt_T := mt_in1 142 (by decide +kernel) rfl
theorem wf_E_22 : Cond.fieldLink R_E 22 (T_E 1).1 (T_E 1).2.1 (T_E 1).2.2.1 ∈ mt_T := mt_in1 143 (by decide +kernel) rfl
theorem wf_X_67 : Cond.fieldLink R_X 67 (T_E 1).1 (T_E 1).2.1 (T_E 1).2.2.1 ∈ mt_T := mt_in1 144 (by decide +kernel) rfl
theorem wf_T_245 : Cond.fieldLink R_T 245 (T_E 1).1 (T_E 1).2.1 (T_E 1).2.2.1 ∈ mt_T := mt_in1 145 (by decide +kernel) rfl
theorem wf_E_25 : Cond.fieldLink R_E 25 (T_E 2).1 (T_E 2).2.1 (T_E 2).2.2.1 ∈ mt_T := mt_in1 146 (by decide +kernel) rfl
theorem wf_P_52 : Cond.fieldLink R_P 52 (T_E 2).1 (T_E 2).2.1 (T_E 2).2.2.1 ∈ mt_T := mt_in1 147 (by decide +kernel) rfl
theorem wf_X_70 : Cond.fieldLink R_X 70 (T_E 2).1 (T_E 2).2.1 (T_E 2).2.2.1 ∈ mt_T := mt_in1 148 (by decide +kernel) rfl
theorem wf_D_29 : Cond.fieldLink R_D 29 (T_E 3).1 (T_E 3).2.1 (T_E 3).2.2.1 ∈ mt_T := mt_in1 149 (by decide +kernel) rfl
theorem wf_E_28 : Cond.fieldLink R_E 28 (T_E 3).1 (T_E 3).2.1 (T_E 3).2.2.1 ∈ mt_T := mt_in1 150 (by decide +kernel) rfl
theorem wf_P_113 : Cond.fieldLink R_P 113 (T_E 3).1 (T_E 3).2.1 (T_E 3).2.2.1 ∈ mt_T := mt_in1 151 (by decide +kernel) rfl
theorem wf_X_76 : Cond.fieldLink R_X 76 (T_E 3).1 (T_E 3).2.1 (T_E 3).2.2.1 ∈ mt_T := mt_in1 152 (by decide +kernel) rfl
theorem wf_T_201 : Cond.fieldLink R_T 201 (T_E 3).1 (T_E 3).2.1 (T_E 3).2.2.1 ∈ mt_T := mt_in1 153 (by decide +kernel) rfl
theorem wf_E_31 : Cond.fieldLink R_E 31 (T_E 4).1 (T_E 4).2.1 (T_E 4).2.2.1 ∈ mt_T := mt_in1 154 (by decide +kernel) rfl
theorem wf_T_79 : Cond.fieldLink R_T 79 (T_E 4).1 (T_E 4).2.1 (T_E 4).2.2.1 ∈ mt_T := mt_in1 155 (by decide +kernel) rfl
theorem wf_X_82 : Cond.fieldLink R_X 82 (T_E 4).1 (T_E 4).2.1 (T_E 4).2.2.1 ∈ mt_T := mt_in1 156 (by decide +kernel) rfl
theorem wf_E_34 : Cond.fieldLink R_E 34 (T_E 5).1 (T_E 5).2.1 (T_E 5).2.2.1 ∈ mt_T := mt_in1 157 (by decide +kernel) rfl
theorem wf_T_116 : Cond.fieldLink R_T 116 (T_E 5).1 (T_E 5).2.1 (T_E 5).2.2.1 ∈ mt_T := mt_in1 158 (by decide +kernel) rfl
theorem wf_X_85 : Cond.fieldLink R_X 85 (T_E 5).1 (T_E 5).2.1 (T_E 5).2.2.1 ∈ mt_T := mt_in1 159 (by decide +kernel) rfl
theorem wf_D_32 : Cond.fieldLink R_D 32 (T_E 6).1 (T_E 6).2.1 (T_E 6).2.2.1 ∈ mt_T := mt_in1 160 (by decide +kernel) rfl
theorem wf_E_37 : Cond.fieldLink R_E 37 (T_E 6).1 (T_E 6).2.1 (T_E 6).2.2.1 ∈ mt_T := mt_in1 161 (by decide +kernel) rfl
theorem wf_T_86 : Cond.fieldLink R_T 86 (T_E 6).1 (T_E 6).2.1 (T_E 6).2.2.1 ∈ mt_T := mt_in1 162 (by decide +kernel) rfl
theorem wf_X_88 : Cond.fieldLink R_X 88 (T_E 6).1 (T_E 6).2.1 (T_E 6).2.2.1 ∈ mt_T := mt_in1 163 (by decide +kernel) rfl
theorem wf_D_35 : Cond.fieldLink R_D 35 (T_E 7).1 (T_E 7).2.1 (T_E 7).2.2.1 ∈ mt_T := mt_in1 164 (by decide +kernel) rfl
theorem wf_E_40 : Cond.fieldLink R_E 40 (T_E 7).1 (T_E 7).2.1 (T_E 7).2.2.1 ∈ mt_T := mt_in1 165 (by decide +kernel) rfl
theorem wf_T_119 : Cond.fieldLink R_T 119 (T_E 7).1 (T_E 7).2.1 (T_E 7).2.2.1 ∈ mt_T := mt_in1 166 (by decide +kernel) rfl
theorem wf_X_91 : Cond.fieldLink R_X 91 (T_E 7).1 (T_E 7).2.1 (T_E 7).2.2.1 ∈ mt_T := mt_in1 167 (by decide +kernel) rfl
theorem wf_D_24 : Cond.fieldLink R_D 24 (T_E 8).1 (T_E 8).2.1 (T_E 8).2.2.1 ∈ mt_T := mt_in1 168 (by decide +kernel) rfl
theorem wf_E_43 : Cond.fieldLink R_E 43 (T_E 8).1 (T_E 8).2.1 (T_E 8).2.2.1 ∈ mt_T := mt_in1 169 (by decide +kernel) rfl
theorem wf_P_107 : Cond.fieldLink R_P 107 (T_E 8).1 (T_E 8).2.1 (T_E 8).2.2.1 ∈ mt_T := mt_in1 170 (by decide +kernel) rfl
theorem wf_X_134 : Cond.fieldLink R_X 134 (T_E 8).1 (T_E 8).2.1 (T_E 8).2.2.1 ∈ mt_T := mt_in1 171 (by decide +kernel) rfl
theorem wf_E_46 : Cond.fieldLink R_E 46 (T_E 9).1 (T_E 9).2.1 (T_E 9).2.2.1 ∈ mt_T := mt_in1 172 (by decide +kernel) rfl
theorem wf_D_49 : Cond.fieldLink R_D 49 (T_E 9).1 (T_E 9).2.1 (T_E 9).2.2.1 ∈ mt_T := mt_in1 173 (by decide +kernel) rfl
theorem wf_P_110 : Cond.fieldLink R_P 110 (T_E 9).1 (T_E 9).2.1 (T_E 9).2.2.1 ∈ mt_T := mt_in1 174 (by decide +kernel) rfl
theorem wf_X_79 : Cond.fieldLink R_X 79 (T_E 9).1 (T_E 9).2.1 (T_E 9).2.2.1 ∈ mt_T := mt_in1 175 (by decide +kernel) rfl
theorem wf_E_49 : Cond.fieldLink R_E 49 (T_E 10).1 (T_E 10).2.1 (T_E 10).2.2.1 ∈ mt_T := mt_in1 176 (by decide +kernel) rfl
theorem wf_P_101 : Cond.fieldLink R_P 101 (T_E 10).1 (T_E 10).2.1 (T_E 10).2.2.1 ∈ mt_T := mt_in1 177 (by decide +kernel) rfl
theorem wf_X_143 : Cond.fieldLink R_X 143 (T_E 10).1 (T_E 10).2.1 (T_E 10).2.2.1 ∈ mt_T := mt_in1 178 (by decide +kernel) rfl
theorem wf_T_227 : Cond.fieldLink R_T 227 (T_E 10).1 (T_E 10).2.1 (T_E 10).2.2.1 ∈ mt_T := mt_in1 179 (by decide +kernel) rfl
theorem wf_E_52 : Cond.fieldLink R_E 52 (T_E 11).1 (T_E 11).2.1 (T_E 11).2.2.1 ∈ mt_T := mt_in1 180 (by decide +kernel) rfl
theorem wf_P_104 : Cond.fieldLink R_P 104 (T_E 11).1 (T_E 11).2.1 (T_E 11).2.2.1 ∈ mt_T := mt_in1 181 (by decide +kernel) rfl
theorem wf_X_137 : Cond.fieldLink R_X 137 (T_E 11).1 (T_E 11).2.1 (T_E 11).2.2.1 ∈ mt_T := mt_in1 182 (by decide +kernel) rfl
theorem wf_T_233 : Cond.fieldLink R_T 233 (T_E 11).1 (T_E 11).2.1 (T_E 11).2.2.1 ∈ mt_T := mt_in1 183 (by decide +kernel) rfl
theorem wf_E_55 : Cond.fieldLink R_E 55 (T_E 12).1 (T_E 12).2.1 (T_E 12).2.2.1 ∈ mt_T := mt_in1 184 (by decide +kernel) rfl
theorem wf_P_65 : Cond.fieldLink R_P 65 (T_E 12).1 (T_E 12).2.1 (T_E 12).2.2.1 ∈ mt_T := mt_in1 185 (by decide +kernel) rfl
theorem wf_T_144 : Cond.fieldLink R_T 144 (T_E 12).1 (T_E 12).2.1 (T_E 12).2.2.1 ∈ mt_T := mt_in1 186 (by decide +kernel) rfl
theorem wf_X_73 : Cond.fieldLink R_X 73 (T_E 12).1 (T_E 12).2.1 (T_E 12).2.2.1 ∈ mt_T := mt_in1 187 (by decide +kernel) rfl
theorem wf_E_11 : Cond.fieldLink R_E 11 (T_E 13).1 (T_E 13).2.1 (T_E 13).2.2.1 ∈ mt_T := mt_in1 188 (by decide +kernel) rfl
theorem wf_P_68 : Cond.fieldLink R_P 68 (T_E 13).1 (T_E 13).2.1 (T_E 13).2.2.1 ∈ mt_T := mt_in1 189 (by decide +kernel) rfl
theorem wf_T_147 : Cond.fieldLink R_T 147 (T_E 13).1 (T_E 13).2.1 (T_E 13).2.2.1 ∈ mt_T := mt_in1 190 (by decide +kernel) rfl
theorem wf_T_14 : Cond.fieldLink R_T 14 (T_T 0).1 (T_T 0).2.1 (T_T 0).2.2.1 ∈ mt_T := mt_in1 220 (by decide +kernel) rfl
theorem wf_P_72 : Cond.fieldLink R_P 72 (T_T 0).1 (T_T 0).2.1 (T_T 0).2.2.1 ∈ mt_T := mt_in1 221 (by decide +kernel) rfl
theorem wf_X_115 : Cond.fieldLink R_X 115 (T_T 0).1 (T_T 0).2.1 (T_T 0).2.2.1 ∈ mt_T := mt_in1 222 (by decide +kernel) rfl
theorem wf_T_20 : Cond.fieldLink R_T 20 (T_T 1).1 (T_T 1).2.1 (T_T 1).2.2.1 ∈ mt_T := mt_in1 223 (by decide +kernel) rfl
theorem wf_P_89 : Cond.fieldLink R_P 89 (T_T 1).1 (T_T 1).2.1 (T_T 1).2.2.1 ∈ mt_T := mt_in1 224 (by decide +kernel) rfl
theorem wf_X_125 : Cond.fieldLink R_X 125 (T_T 1).1 (T_T 1).2.1 (T_T 1).2.2.1 ∈ mt_T := mt_in1 225 (by decide +kernel) rfl
theorem wf_T_23 : Cond.fieldLink R_T 23 (T_T 2).1 (T_T 2).2.1 (T_T 2).2.2.1 ∈ mt_T := mt_in1 226 (by decide +kernel) rfl
theorem wf_P_122 : Cond.fieldLink R_P 122 (T_T 2).1 (T_T 2).2.1 (T_T 2).2.2.1 ∈ mt_T := mt_in1 227 (by decide +kernel) rfl
theorem wf_X_131 : Cond.fieldLink R_X 131 (T_T 2).1 (T_T 2).2.1 (T_T 2).2.2.1 ∈ mt_T := mt_in1 228 (by decide +kernel) rfl
theorem wf_T_26 : Cond.fieldLink R_T 26 (T_T 3).1 (T_T 3).2.1 (T_T 3).2.2.1 ∈ mt_T := mt_in1 229 (by decide +kernel) rfl
theorem wf_P_98 : Cond.fieldLink R_P 98 (T_T 3).1 (T_T 3).2.1 (T_T 3).2.2.1 ∈ mt_T := mt_in1 230 (by decide +kernel) rfl
theorem wf_X_140 : Cond.fieldLink R_X 140 (T_T 3).1 (T_T 3).2.1 (T_T 3).2.2.1 ∈ mt_T := mt_in1 231 (by decide +kernel) rfl
theorem wf_T_49 : Cond.fieldLink R_T 49 (T_T 4).1 (T_T 4).2.1 (T_T 4).2.2.1 ∈ mt_T := mt_in1 232 (by decide +kernel) rfl
theorem wf_P_30 : Cond.fieldLink R_P 30 (T_T 4).1 (T_T 4).2.1 (T_T 4).2.2.1 ∈ mt_T := mt_in1 233 (by decide +kernel) rfl
theorem wf_T_34 : Cond.fieldLink R_T 34 (T_T 5).1 (T_T 5).2.1 (T_T 5).2.2.1 ∈ mt_T := mt_in1 234 (by decide +kernel) rfl
theorem wf_T_43 : Cond.fieldLink R_T 43 (T_T 6).1 (T_T 6).2.1 (T_T 6).2.2.1 ∈ mt_T := mt_in1 235 (by decide +kernel) rfl
theorem wf_T_54 : Cond.fieldLink R_T 54 (T_T 7).1 (T_T 7).2.1 (T_T 7).2.2.1 ∈ mt_T := mt_in1 236 (by decide +kernel) rfl
theorem wf_P_24 : Cond.fieldLink R_P 24 (T_T 7).1 (T_T 7).2.1 (T_T 7).2.2.1 ∈ mt_T := mt_in1 237 (by decide +kernel) rfl
theorem wf_X_55 : Cond.fieldLink R_X 55 (T_T 7).1 (T_T 7).2.1 (T_T 7).2.2.1 ∈ mt_T := mt_in1 238 (by decide +kernel) rfl
theorem wf_P_9 : Cond.fieldLink R_P 9 (T_P 0).1 (T_P 0).2.1 (T_P 0).2.2.1 ∈ mt_T := mt_in2 24 (by decide +kernel) rfl
theorem wf_P_20 : Cond.fieldLink R_P 20 (T_P 1).1 (T_P 1).2.1 (T_P 1).2.2.1 ∈ mt_T := mt_in2 25 (by decide +kernel) rfl
theorem wf_X_155 : Cond.fieldLink R_X 155 (T_P 1).1 (T_P 1).2.1 (T_P 1).2.2.1 ∈ mt_T := mt_in2 26 (by decide +kernel) rfl
theorem wf_X_14 : Cond.fieldLink R_X 14 (T_X 0).1 (T_X 0).2.1 (T_X 0).2.2.1 ∈ mt_T := mt_in2 32 (by decide +kernel) rfl
theorem wf_X_18 : Cond.fieldLink R_X 18 (T_X 1).1 (T_X 1).2.1 (T_X 1).2.2.1 ∈ mt_T := mt_in2 33 (by decide +kernel) rfl
theorem wf_X_24 : Cond.fieldLink R_X 24 (T_X 2).1 (T_X 2).2.1 (T_X 2).2.2.1 ∈ mt_T := mt_in2 34 (by decide +kernel) rfl
theorem wf_X_33 : Cond.fieldLink R_X 33 (T_X 3).1 (T_X 3).2.1 (T_X 3).2.2.1 ∈ mt_T := mt_in2 35 (by decide +kernel) rfl
theorem wf_M_43 : Cond.fieldLink R_M 43 (T_M 0).1 (T_M 0).2.1 (T_M 0).2.2.1 ∈ mt_T := mt_in4 135 (by decide +kernel) rfl
theorem wf_M_47 : Cond.fieldLink R_M 47 (T_M 1).1 (T_M 1).2.1 (T_M 1).2.2.1 ∈ mt_T := mt_in4 136 (by decide +kernel) rfl
theorem wf_M_7 : Cond.fieldLink R_M 7 (T_M 2).1 (T_M 2).2.1 (T_M 2).2.2.1 ∈ mt_T := mt_in4 137 (by decide +kernel) rfl
theorem wf_M_217 : Cond.fieldLink R_M 217 (T_M 3).1 (T_M 3).2.1 (T_M 3).2.2.1 ∈ mt_T := mt_in4 138 (by decide +kernel) rfl
theorem wf_M_13 : Cond.fieldLink R_M 13 (T_M 4).1 (T_M 4).2.1 (T_M 4).2.2.1 ∈ mt_T := mt_in4 139 (by decide +kernel) rfl
theorem wf_M_196 : Cond.fieldLink R_M 196 (T_M 5).1 (T_M 5).2.1 (T_M 5).2.2.1 ∈ mt_T := mt_in4 140 (by decide +kernel) rfl
theorem wf_M_16 : Cond.fieldLink R_M 16 (T_M 6).1 (T_M 6).2.1 (T_M 6).2.2.1 ∈ mt_T := mt_in4 141 (by decide +kernel) rfl
theorem wf_M_19 : Cond.fieldLink R_M 19 (T_M 7).1 (T_M 7).2.1 (T_M 7).2.2.1 ∈ mt_T := mt_in4 142 (by decide +kernel) rfl
theorem wf_M_22 : Cond.fieldLink R_M 22 (T_M 8).1 (T_M 8).2.1 (T_M 8).2.2.1 ∈ mt_T := mt_in4 143 (by decide +kernel) rfl
theorem wf_M_56 : Cond.fieldLink R_M 56 (T_M 9).1 (T_M 9).2.1 (T_M 9).2.2.1 ∈ mt_T := mt_in4 144 (by decide +kernel) rfl
theorem wf_M_175 : Cond.fieldLink R_M 175 (T_M 10).1 (T_M 10).2.1 (T_M 10).2.2.1 ∈ mt_T := mt_in4 145 (by decide +kernel) rfl
theorem wf_M_25 : Cond.fieldLink R_M 25 (T_M 11).1 (T_M 11).2.1 (T_M 11).2.2.1 ∈ mt_T := mt_in4 146 (by decide +kernel) rfl
theorem wf_M_28 : Cond.fieldLink R_M 28 (T_M 12).1 (T_M 12).2.1 (T_M 12).2.2.1 ∈ mt_T := mt_in4 147 (by decide +kernel) rfl
theorem wf_M_93 : Cond.fieldLink R_M 93 (T_M 13).1 (T_M 13).2.1 (T_M 13).2.2.1 ∈ mt_T := mt_in4 148 (by decide +kernel) rfl
theorem wf_M_96 : Cond.fieldLink R_M 96 (T_M 14).1 (T_M 14).2.1 (T_M 14).2.2.1 ∈ mt_T := mt_in4 149 (by decide +kernel) rfl
theorem wf_M_106 : Cond.fieldLink R_M 106 (T_M 15).1 (T_M 15).2.1 (T_M 15).2.2.1 ∈ mt_T := mt_in4 150 (by decide +kernel) rfl
theorem wf_M_112 : Cond.fieldLink R_M 112 (T_M 16).1 (T_M 16).2.1 (T_M 16).2.2.1 ∈ mt_T := mt_in4 151 (by decide +kernel) rfl
theorem wf_M_235 : Cond.fieldLink R_M 235 (T_M 17).1 (T_M 17).2.1 (T_M 17).2.2.1 ∈ mt_T := mt_in4 152 (by decide +kernel) rfl
theorem wf_M_31 : Cond.fieldLink R_M 31 (T_M 18).1 (T_M 18).2.1 (T_M 18).2.2.1 ∈ mt_T := mt_in4 153 (by decide +kernel) rfl
theorem wf_M_241 : Cond.fieldLink R_M 241 (T_M 19).1 (T_M 19).2.1 (T_M 19).2.2.1 ∈ mt_T := mt_in4 154 (by decide +kernel) rfl
theorem wf_M_285 : Cond.fieldLink R_M 285 (T_M 20).1 (T_M 20).2.1 (T_M 20).2.2.1 ∈ mt_T := mt_in4 155 (by decide +kernel) rfl
theorem wf_M_34 : Cond.fieldLink R_M 34 (T_M 21).1 (T_M 21).2.1 (T_M 21).2.2.1 ∈ mt_T := mt_in4 156 (by decide +kernel) rfl
theorem wf_M_269 : Cond.fieldLink R_M 269 (T_M 22).1 (T_M 22).2.1 (T_M 22).2.2.1 ∈ mt_T := mt_in4 157 (by decide +kernel) rfl
theorem wf_M_37 : Cond.fieldLink R_M 37 (T_M 23).1 (T_M 23).2.1 (T_M 23).2.2.1 ∈ mt_T := mt_in4 158 (by decide +kernel) rfl
theorem wf_M_40 : Cond.fieldLink R_M 40 (T_M 24).1 (T_M 24).2.1 (T_M 24).2.2.1 ∈ mt_T := mt_in4 159 (by decide +kernel) rfl
theorem fl_B_9 : fk_ R_B 9 R_B T_B 3 0 := ⟨uw_B, by decide, wf_B_9⟩
theorem fl_B_15 : fk_ R_B 15 R_B T_B 3 1 := ⟨uw_B, by decide, wf_B_15⟩
theorem fl_D_18 : fk_ R_D 18 R_B T_B 3 1 := ⟨uw_B, by decide, wf_D_18⟩
theorem fl_X_37 : fk_ R_X 37 R_B T_B 3 1 := ⟨uw_B, by decide, wf_X_37⟩
theorem fl_T_68 : fk_ R_T 68 R_B T_B 3 1 := ⟨uw_B, by decide, wf_T_68⟩
theorem fl_S_55 : fk_ R_S 55 R_B T_B 3 1 := ⟨uw_B, by decide, wf_S_55⟩
theorem fl_B_19 : fk_ R_B 19 R_B T_B 3 2 := ⟨uw_B, by decide, wf_B_19⟩
theorem fl_X_162 : fk_ R_X 162 R_B T_B 3 2 := ⟨uw_B, by decide, wf_X_162⟩
theorem fl_S_9 : fk_ R_S 9 R_S T_S 5 0 := ⟨uw_S, by decide, wf_S_9⟩
theorem fl_S_20 : fk_ R_S 20 R_S T_S 5 1 := ⟨uw_S, by decide, wf_S_20⟩
theorem fl_T_230 : fk_ R_T 230 R_S T_S 5 1 := ⟨uw_S, by decide, wf_T_230⟩
theorem fl_S_29 : fk_ R_S 29 R_S T_S 5 2 := ⟨uw_S, by decide, wf_S_29⟩
theorem fl_T_191 : fk_ R_T 191 R_S T_S 5 2 := ⟨uw_S, by decide, wf_T_191⟩
theorem fl_S_35 : fk_ R_S 35 R_S T_S 5 3 := ⟨uw_S, by decide, wf_S_35⟩
theorem fl_T_194 : fk_ R_T 194 R_S T_S 5 3 := ⟨uw_S, by decide, wf_T_194⟩
theorem fl_S_61 : fk_ R_S 61 R_S T_S 5 4 := ⟨uw_S, by decide, wf_S_61⟩
theorem fl_T_220 : fk_ R_T 220 R_S T_S 5 4 := ⟨uw_S, by decide, wf_T_220⟩
theorem fl_D_9 : fk_ R_D 9 R_D T_D 2 0 := ⟨uw_D, by decide, wf_D_9⟩
theorem fl_D_15 : fk_ R_D 15 R_D T_D 2 1 := ⟨uw_D, by decide, wf_D_15⟩
theorem fl_P_75 : fk_ R_P 75 R_F T_F 4 0 := ⟨uw_F, by decide, wf_P_75⟩
theorem fl_T_159 : fk_ R_T 159 R_F T_F 4 0 := ⟨uw_F, by decide, wf_T_159⟩
theorem fl_X_118 : fk_ R_X 118 R_F T_F 4 0 := ⟨uw_F, by decide, wf_X_118⟩
theorem fl_P_80 : fk_ R_P 80 R_F T_F 4 1 := ⟨uw_F, by decide, wf_P_80⟩
theorem fl_X_105 : fk_ R_X 105 R_F T_F 4 1 := ⟨uw_F, by decide, wf_X_105⟩
theorem fl_T_162 : fk_ R_T 162 R_F T_F 4 1 := ⟨uw_F, by decide, wf_T_162⟩
theorem fl_S_23 : fk_ R_S 23 R_F T_F 4 2 := ⟨uw_F, by decide, wf_S_23⟩
theorem fl_P_92 : fk_ R_P 92 R_F T_F 4 2 := ⟨uw_F, by decide, wf_P_92⟩
theorem fl_T_165 : fk_ R_T 165 R_F T_F 4 2 := ⟨uw_F, by decide, wf_T_165⟩
theorem fl_X_128 : fk_ R_X 128 R_F T_F 4 2 := ⟨uw_F, by decide, wf_X_128⟩
theorem fl_S_32 : fk_ R_S 32 R_F T_F 4 3 := ⟨uw_F, by decide, wf_S_32⟩
theorem fl_P_95 : fk_ R_P 95 R_F T_F 4 3 := ⟨uw_F, by decide, wf_P_95⟩
theorem fl_T_151 : fk_ R_T 151 R_F T_F 4 3 := ⟨uw_F, by decide, wf_T_151⟩
theorem fl_X_110 : fk_ R_X 110 R_F T_F 4 3 := ⟨uw_F, by decide, wf_X_110⟩
theorem fl_E_18 : fk_ R_E 18 R_E T_E 14 0 := ⟨uw_E, by decide, wf_E_18⟩
theorem fl_P_44 : fk_ R_P 44 R_E T_E 14 0 := ⟨uw_E, by decide, wf_P_44⟩
theorem fl_T_103 : fk_ R_T 103 R_E T_E 14 0 := ⟨uw_E, by decide, wf_T_103⟩
theorem fl_X_62 : fk_ R_X 62 R_E T_E 14 0 := ⟨uw_E, by decide, wf_X_62⟩
theorem fl_E_22 : fk_ R_E 22 R_E T_E 14 1 := ⟨uw_E, by decide, wf_E_22⟩
theorem fl_X_67 : fk_ R_X 67 R_E T_E 14 1 := ⟨uw_E, by decide, wf_X_67⟩
theorem fl_T_245 : fk_ R_T 245 R_E T_E 14 1 := ⟨uw_E, by decide, wf_T_245⟩
theorem fl_E_25 : fk_ R_E 25 R_E T_E 14 2 := ⟨uw_E, by decide, wf_E_25⟩
theorem fl_P_52 : fk_ R_P 52 R_E T_E 14 2 := ⟨uw_E, by decide, wf_P_52⟩
theorem fl_X_70 : fk_ R_X 70 R_E T_E 14 2 := ⟨uw_E, by decide, wf_X_70⟩
theorem fl_D_29 : fk_ R_D 29 R_E T_E 14 3 := ⟨uw_E, by decide, wf_D_29⟩
theorem fl_E_28 : fk_ R_E 28 R_E T_E 14 3 := ⟨uw_E, by decide, wf_E_28⟩
theorem fl_P_113 : fk_ R_P 113 R_E T_E 14 3 := ⟨uw_E, by decide, wf_P_113⟩
theorem fl_X_76 : fk_ R_X 76 R_E T_E 14 3 := ⟨uw_E, by decide, wf_X_76⟩
theorem fl_T_201 : fk_ R_T 201 R_E T_E 14 3 := ⟨uw_E, by decide, wf_T_201⟩
theorem fl_E_31 : fk_ R_E 31 R_E T_E 14 4 := ⟨uw_E, by decide, wf_E_31⟩
theorem fl_T_79 : fk_ R_T 79 R_E T_E 14 4 := ⟨uw_E, by decide, wf_T_79⟩
theorem fl_X_82 : fk_ R_X 82 R_E T_E 14 4 := ⟨uw_E, by decide, wf_X_82⟩
theorem fl_E_34 : fk_ R_E 34 R_E T_E 14 5 := ⟨uw_E, by decide, wf_E_34⟩
theorem fl_T_116 : fk_ R_T 116 R_E T_E 14 5 := ⟨uw_E, by decide, wf_T_116⟩
theorem fl_X_85 : fk_ R_X 85 R_E T_E 14 5 := ⟨uw_E, by decide, wf_X_85⟩
theorem fl_D_32 : fk_ R_D 32 R_E T_E 14 6 := ⟨uw_E, by decide, wf_D_32⟩
theorem fl_E_37 : fk_ R_E 37 R_E T_E 14 6 := ⟨uw_E, by decide, wf_E_37⟩
theorem fl_T_86 : fk_ R_T 86 R_E T_E 14 6 := ⟨uw_E, by decide, wf_T_86⟩
theorem fl_X_88 : fk_ R_X 88 R_E T_E 14 6 := ⟨uw_E, by decide, wf_X_88⟩
theorem fl_D_35 : fk_ R_D 35 R_E T_E 14 7 := ⟨uw_E, by decide, wf_D_35⟩
theorem fl_E_40 : fk_ R_E 40 R_E T_E 14 7 := ⟨uw_E, by decide, wf_E_40⟩
theorem fl_T_119 : fk_ R_T 119 R_E T_E 14 7 := ⟨uw_E, by decide, wf_T_119⟩
theorem fl_X_91 : fk_ R_X 91 R_E T_E 14 7 := ⟨uw_E, by decide, wf_X_91⟩
theorem fl_D_24 : fk_ R_D 24 R_E T_E 14 8 := ⟨uw_E, by decide, wf_D_24⟩
theorem fl_E_43 : fk_ R_E 43 R_E T_E 14 8 := ⟨uw_E, by decide, wf_E_43⟩
theorem fl_P_107 : fk_ R_P 107 R_E T_E 14 8 := ⟨uw_E, by decide, wf_P_107⟩
theorem fl_X_134 : fk_ R_X 134 R_E T_E 14 8 := ⟨uw_E, by decide, wf_X_134⟩
theorem fl_E_46 : fk_ R_E 46 R_E T_E 14 9 := ⟨uw_E, by decide, wf_E_46⟩
theorem fl_D_49 : fk_ R_D 49 R_E T_E 14 9 := ⟨uw_E, by decide, wf_D_49⟩
theorem fl_P_110 : fk_ R_P 110 R_E T_E 14 9 := ⟨uw_E, by decide, wf_P_110⟩
theorem fl_X_79 : fk_ R_X 79 R_E T_E 14 9 := ⟨uw_E, by decide, wf_X_79⟩
theorem fl_E_49 : fk_ R_E 49 R_E T_E 14 10 := ⟨uw_E, by decide, wf_E_49⟩
theorem fl_P_101 : fk_ R_P 101 R_E T_E 14 10 := ⟨uw_E, by decide, wf_P_101⟩
theorem fl_X_143 : fk_ R_X 143 R_E T_E 14 10 := ⟨uw_E, by decide, wf_X_143⟩
theorem fl_T_227 : fk_ R_T 227 R_E T_E 14 10 := ⟨uw_E, by decide, wf_T_227⟩
theorem fl_E_52 : fk_ R_E 52 R_E T_E 14 11 := ⟨uw_E, by decide, wf_E_52⟩
theorem fl_P_104 : fk_ R_P 104 R_E T_E 14 11 := ⟨uw_E, by decide, wf_P_104⟩
theorem fl_X_137 : fk_ R_X 137 R_E T_E 14 11 := ⟨uw_E, by decide, wf_X_137⟩
theorem fl_T_233 : fk_ R_T 233 R_E T_E 14 11 := ⟨uw_E, by decide, wf_T_233⟩
theorem fl_E_55 : fk_ R_E 55 R_E T_E 14 12 := ⟨uw_E, by decide, wf_E_55⟩
theorem fl_P_65 : fk_ R_P 65 R_E T_E 14 12 := ⟨uw_E, by decide, wf_P_65⟩
theorem fl_T_144 : fk_ R_T 144 R_E T_E 14 12 := ⟨uw_E, by decide, wf_T_144⟩
theorem fl_X_73 : fk_ R_X 73 R_E T_E 14 12 := ⟨uw_E, by decide, wf_X_73⟩
theorem fl_E_11 : fk_ R_E 11 R_E T_E 14 13 := ⟨uw_E, by decide, wf_E_11⟩
theorem fl_P_68 : fk_ R_P 68 R_E T_E 14 13 := ⟨uw_E, by decide, wf_P_68⟩
theorem fl_T_147 : fk_ R_T 147 R_E T_E 14 13 := ⟨uw_E, by decide, wf_T_147⟩
theorem fl_T_14 : fk_ R_T 14 R_T T_T 8 0 := ⟨uw_T, by decide, wf_T_14⟩
theorem fl_P_72 : fk_ R_P 72 R_T T_T 8 0 := ⟨uw_T, by decide, wf_P_72⟩
theorem fl_X_115 : fk_ R_X 115 R_T T_T 8 0 := ⟨uw_T, by decide, wf_X_115⟩
theorem fl_T_20 : fk_ R_T 20 R_T T_T 8 1 := ⟨uw_T, by decide, wf_T_20⟩
theorem fl_P_89 : fk_ R_P 89 R_T T_T 8 1 := ⟨uw_T, by decide, wf_P_89⟩
theorem fl_X_125 : fk_ R_X 125 R_T T_T 8 1 := ⟨uw_T, by decide, wf_X_125⟩
theorem fl_T_23 : fk_ R_T 23 R_T T_T 8 2 := ⟨uw_T, by decide, wf_T_23⟩
theorem fl_P_122 : fk_ R_P 122 R_T T_T 8 2 := ⟨uw_T, by decide, wf_P_122⟩
theorem fl_X_131 : fk_ R_X 131 R_T T_T 8 2 := ⟨uw_T, by decide, wf_X_131⟩
theorem fl_T_26 : fk_ R_T 26 R_T T_T 8 3 := ⟨uw_T, by decide, wf_T_26⟩
theorem fl_P_98 : fk_ R_P 98 R_T T_T 8 3 := ⟨uw_T, by decide, wf_P_98⟩
theorem fl_X_140 : fk_ R_X 140 R_T T_T 8 3 := ⟨uw_T, by decide, wf_X_140⟩
theorem fl_T_49 : fk_ R_T 49 R_T T_T 8 4 := ⟨uw_T, by decide, wf_T_49⟩
theorem fl_P_30 : fk_ R_P 30 R_T T_T 8 4 := ⟨uw_T, by decide, wf_P_30⟩
theorem fl_T_34 : fk_ R_T 34 R_T T_T 8 5 := ⟨uw_T, by decide, wf_T_34⟩
theorem fl_T_43 : fk_ R_T 43 R_T T_T 8 6 := ⟨uw_T, by decide, wf_T_43⟩
theorem fl_T_54 : fk_ R_T 54 R_T T_T 8 7 := ⟨uw_T, by decide, wf_T_54⟩
theorem fl_P_24 : fk_ R_P 24 R_T T_T 8 7 := ⟨uw_T, by decide, wf_P_24⟩
theorem fl_X_55 : fk_ R_X 55 R_T T_T 8 7 := ⟨uw_T, by decide, wf_X_55⟩
theorem fl_P_9 : fk_ R_P 9 R_P T_P 2 0 := ⟨uw_P, by decide, wf_P_9⟩
theorem fl_P_20 : fk_ R_P 20 R_P T_P 2 1 := ⟨uw_P, by decide, wf_P_20⟩
theorem fl_X_155 : fk_ R_X 155 R_P T_P 2 1 := ⟨uw_P, by decide, wf_X_155⟩
theorem fl_X_14 : fk_ R_X 14 R_X T_X 4 0 := ⟨uw_X, by decide, wf_X_14⟩
theorem fl_X_18 : fk_ R_X 18 R_X T_X 4 1 := ⟨uw_X, by decide, wf_X_18⟩
theorem fl_X_24 : fk_ R_X 24 R_X T_X 4 2 := ⟨uw_X, by decide, wf_X_24⟩
theorem fl_X_33 : fk_ R_X 33 R_X T_X 4 3 := ⟨uw_X, by decide, wf_X_33⟩
theorem fl_M_43 : fk_ R_M 43 R_M T_M 25 0 := ⟨uw_M, by decide, wf_M_43⟩
theorem fl_M_47 : fk_ R_M 47 R_M T_M 25 1 := ⟨uw_M, by decide, wf_M_47⟩
theorem fl_M_7 : fk_ R_M 7 R_M T_M 25 2 := ⟨uw_M, by decide, wf_M_7⟩
theorem fl_M_217 : fk_ R_M 217 R_M T_M 25 3 := ⟨uw_M, by decide, wf_M_217⟩
theorem fl_M_13 : fk_ R_M 13 R_M T_M 25 4 := ⟨uw_M, by decide, wf_M_13⟩
theorem fl_M_196 : fk_ R_M 196 R_M T_M 25 5 := ⟨uw_M, by decide, wf_M_196⟩
theorem fl_M_16 : fk_ R_M 16 R_M T_M 25 6 := ⟨uw_M, by decide, wf_M_16⟩
theorem fl_M_19 : fk_ R_M 19 R_M T_M 25 7 := ⟨uw_M, by decide, wf_M_19⟩
theorem fl_M_22 : fk_ R_M 22 R_M T_M 25 8 := ⟨uw_M, by decide, wf_M_22⟩
theorem fl_M_56 : fk_ R_M 56 R_M T_M 25 9 := ⟨uw_M, by decide, wf_M_56⟩
theorem fl_M_175 : fk_ R_M 175 R_M T_M 25 10 := ⟨uw_M, by decide, wf_M_175⟩
theorem fl_M_25 : fk_ R_M 25 R_M T_M 25 11 := ⟨uw_M, by decide, wf_M_25⟩
theorem fl_M_28 : fk_ R_M 28 R_M T_M 25 12 := ⟨uw_M, by decide, wf_M_28⟩
theorem fl_M_93 : fk_ R_M 93 R_M T_M 25 13 := ⟨uw_M, by decide, wf_M_93⟩
theorem fl_M_96 : fk_ R_M 96 R_M T_M 25 14 := ⟨uw_M, by decide, wf_M_96⟩
theorem fl_M_106 : fk_ R_M 106 R_M T_M 25 15 := ⟨uw_M, by decide, wf_M_106⟩
theorem fl_M_112 : fk_ R_M 112 R_M T_M 25 16 := ⟨uw_M, by decide, wf_M_112⟩
theorem fl_M_235 : fk_ R_M 235 R_M T_M 25 17 := ⟨uw_M, by decide, wf_M_235⟩
theorem fl_M_31 : fk_ R_M 31 R_M T_M 25 18 := ⟨uw_M, by decide, wf_M_31⟩
theorem fl_M_241 : fk_ R_M 241 R_M T_M 25 19 := ⟨uw_M, by decide, wf_M_241⟩
theorem fl_M_285 : fk_ R_M 285 R_M T_M 25 20 := ⟨uw_M, by decide, wf_M_285⟩
theorem fl_M_34 : fk_ R_M 34 R_M T_M 25 21 := ⟨uw_M, by decide, wf_M_34⟩
theorem fl_M_269 : fk_ R_M 269 R_M T_M 25 22 := ⟨uw_M, by decide, wf_M_269⟩
theorem fl_M_37 : fk_ R_M 37 R_M T_M 25 23 := ⟨uw_M, by decide, wf_M_37⟩
theorem fl_M_40 : fk_ R_M 40 R_M T_M 25 24 := ⟨uw_M, by decide, wf_M_40⟩
theorem wc_X_init : Cond.code y_X_init c_X_init 1 none ∈ mt_T := mt_in1 27 (by decide +kernel) rfl
theorem wi_X : Cond.initialized R_X ∈ mt_T := mt_in1 1 (by decide +kernel) rfl
theorem wm_L_39 : Cond.methodLink R_L 39 y_X_init ∈ mt_T := mt_in1 25 (by decide +kernel) rfl
theorem wc_B_init : Cond.code y_B_init c_B_init 2 none ∈ mt_T := mt_in1 35 (by decide +kernel) rfl
theorem wi_B : Cond.initialized R_B ∈ mt_T := mt_in1 2 (by decide +kernel) rfl
theorem wm_X_11 : Cond.methodLink R_X 11 y_B_init ∈ mt_T := mt_in1 33 (by decide +kernel) rfl
theorem wc_T_init : Cond.code y_T_init c_T_init 2 none ∈ mt_T := mt_in1 57 (by decide +kernel) rfl
theorem wi_T : Cond.initialized R_T ∈ mt_T := mt_in1 3 (by decide +kernel) rfl
theorem wm_X_23 : Cond.methodLink R_X 23 y_T_init ∈ mt_T := mt_in1 55 (by decide +kernel) rfl
theorem wm_T_11 : Cond.methodLink R_T 11 y_B_init ∈ mt_T := mt_in1 60 (by decide +kernel) rfl
theorem wc_S_init : Cond.code y_S_init c_S_init 2 none ∈ mt_T := mt_in1 65 (by decide +kernel) rfl
theorem wi_S : Cond.initialized R_S ∈ mt_T := mt_in1 4 (by decide +kernel) rfl
theorem wm_T_31 : Cond.methodLink R_T 31 y_S_init ∈ mt_T := mt_in1 63 (by decide +kernel) rfl
theorem wm_S_17 : Cond.methodLink R_S 17 y_B_init ∈ mt_T := mt_in1 68 (by decide +kernel) rfl
theorem wc_D_init : Cond.code y_D_init c_D_init 3 none ∈ mt_T := mt_in1 93 (by decide +kernel) rfl
theorem wi_D : Cond.initialized R_D ∈ mt_T := mt_in1 5 (by decide +kernel) rfl
theorem wm_T_40 : Cond.methodLink R_T 40 y_D_init ∈ mt_T := mt_in1 91 (by decide +kernel) rfl
theorem wc_E_init : Cond.code y_E_init c_E_init 2 none ∈ mt_T := mt_in1 107 (by decide +kernel) rfl
theorem wi_E : Cond.initialized R_E ∈ mt_T := mt_in1 6 (by decide +kernel) rfl
theorem wm_T_53 : Cond.methodLink R_T 53 y_E_init ∈ mt_T := mt_in1 105 (by decide +kernel) rfl
theorem wc_F_init : Cond.code y_F_init c_F_init 1 none ∈ mt_T := mt_in1 114 (by decide +kernel) rfl
theorem wi_F : Cond.initialized R_F ∈ mt_T := mt_in1 7 (by decide +kernel) rfl
theorem wc_P_init : Cond.code y_P_init c_P_init 2 none ∈ mt_T := mt_in2 20 (by decide +kernel) rfl
theorem wi_P : Cond.initialized R_P ∈ mt_T := mt_in1 8 (by decide +kernel) rfl
theorem wm_X_30 : Cond.methodLink R_X 30 y_P_init ∈ mt_T := mt_in2 18 (by decide +kernel) rfl
theorem wm_P_17 : Cond.methodLink R_P 17 y_B_init ∈ mt_T := mt_in2 23 (by decide +kernel) rfl
theorem wc_X_feed : Cond.code y_X_feed c_X_feed 5 (some .boolean) ∈ mt_T := mt_in2 48 (by decide +kernel) rfl
theorem wm_L_45 : Cond.methodLink R_L 45 y_X_feed ∈ mt_T := mt_in2 45 (by decide +kernel) rfl
theorem wn_X_feed : Cond.instanceMethod y_X_feed ∈ mt_T := mt_in2 46 (by decide +kernel) rfl
theorem ws_X_feed : Cond.selects R_X y_X_feed y_X_feed ∈ mt_T := mt_in2 47 (by decide +kernel) rfl
theorem cv_L_45 : cV_ R_L 45 y_X_feed c_X_feed 5 (some .boolean) 2 := ⟨fa5 wm_L_45 wn_X_feed ws_X_feed wi_X wc_X_feed, by decide, by decide, by decide +kernel⟩
theorem wc_B_put : Cond.code y_B_put c_B_put 2 none ∈ mt_T := mt_in2 52 (by decide +kernel) rfl
theorem wm_X_41 : Cond.methodLink R_X 41 y_B_put ∈ mt_T := mt_in2 49 (by decide +kernel) rfl
theorem wn_B_put : Cond.instanceMethod y_B_put ∈ mt_T := mt_in2 50 (by decide +kernel) rfl
theorem ws_B_put : Cond.selects R_B y_B_put y_B_put ∈ mt_T := mt_in2 51 (by decide +kernel) rfl
theorem cv_X_41 : cV_ R_X 41 y_B_put c_B_put 2 none 1 := ⟨fa5 wm_X_41 wn_B_put ws_B_put wi_B wc_B_put, by decide, by decide, by decide +kernel⟩
theorem wc_X_clear : Cond.code y_X_clear c_X_clear 2 (some .int) ∈ mt_T := mt_in2 56 (by decide +kernel) rfl
theorem wm_L_50 : Cond.methodLink R_L 50 y_X_clear ∈ mt_T := mt_in2 53 (by decide +kernel) rfl
theorem wn_X_clear : Cond.instanceMethod y_X_clear ∈ mt_T := mt_in2 54 (by decide +kernel) rfl
theorem ws_X_clear : Cond.selects R_X y_X_clear y_X_clear ∈ mt_T := mt_in2 55 (by decide +kernel) rfl
theorem cv_L_50 : cV_ R_L 50 y_X_clear c_X_clear 2 (some .int) 0 := ⟨fa5 wm_L_50 wn_X_clear ws_X_clear wi_X wc_X_clear, by decide, by decide, by decide +kernel⟩
theorem wc_B_empty : Cond.code y_B_empty c_B_empty 1 none ∈ mt_T := mt_in2 60 (by decide +kernel) rfl
theorem wm_X_44 : Cond.methodLink R_X 44 y_B_empty ∈ mt_T := mt_in2 57 (by decide +kernel) rfl
theorem wn_B_empty : Cond.instanceMethod y_B_empty ∈ mt_T := mt_in2 58 (by decide +kernel) rfl
theorem ws_B_empty : Cond.selects R_B y_B_empty y_B_empty ∈ mt_T := mt_in2 59 (by decide +kernel) rfl
theorem cv_X_44 : cV_ R_X 44 y_B_empty c_B_empty 1 none 0 := ⟨fa5 wm_X_44 wn_B_empty ws_B_empty wi_B wc_B_empty, by decide, by decide, by decide +kernel⟩
theorem wc_X_read : Cond.code y_X_read c_X_read 1 (some .int) ∈ mt_T := mt_in2 64 (by decide +kernel) rfl
theorem wm_L_54 : Cond.methodLink R_L 54 y_X_read ∈ mt_T := mt_in2 61 (by decide +kernel) rfl
theorem wn_X_read : Cond.instanceMethod y_X_read ∈ mt_T := mt_in2 62 (by decide +kernel) rfl
theorem ws_X_read : Cond.selects R_X y_X_read y_X_read ∈ mt_T := mt_in2 63 (by decide +kernel) rfl
theorem cv_L_54 : cV_ R_L 54 y_X_read c_X_read 1 (some .int) 0 := ⟨fa5 wm_L_54 wn_X_read ws_X_read wi_X wc_X_read, by decide, by decide, by decide +kernel⟩
theorem wc_T_start : Cond.code y_T_start c_T_start 2 none ∈ mt_T := mt_in2 68 (by decide +kernel) rfl
theorem wm_X_47 : Cond.methodLink R_X 47 y_T_start ∈ mt_T := mt_in2 65 (by decide +kernel) rfl
theorem wn_T_start : Cond.instanceMethod y_T_start ∈ mt_T := mt_in2 66 (by decide +kernel) rfl
theorem ws_T_start : Cond.selects R_T y_T_start y_T_start ∈ mt_T := mt_in2 67 (by decide +kernel) rfl
theorem cv_X_47 : cV_ R_X 47 y_T_start c_T_start 2 none 1 := ⟨fa5 wm_X_47 wn_T_start ws_T_start wi_T wc_T_start, by decide, by decide, by decide +kernel⟩
theorem wm_T_65 : Cond.methodLink R_T 65 y_B_empty ∈ mt_T := mt_in2 69 (by decide +kernel) rfl
theorem cv_T_65 : cV_ R_T 65 y_B_empty c_B_empty 1 none 0 := ⟨fa5 wm_T_65 wn_B_empty ws_B_empty wi_B wc_B_empty, by decide, by decide, by decide +kernel⟩
theorem wc_B_putRange : Cond.code y_B_putRange c_B_putRange 5 none ∈ mt_T := mt_in2 73 (by decide +kernel) rfl
theorem wm_T_71 : Cond.methodLink R_T 71 y_B_putRange ∈ mt_T := mt_in2 70 (by decide +kernel) rfl
theorem wn_B_putRange : Cond.instanceMethod y_B_putRange ∈ mt_T := mt_in2 71 (by decide +kernel) rfl
theorem ws_B_putRange : Cond.selects R_B y_B_putRange y_B_putRange ∈ mt_T := mt_in2 72 (by decide +kernel) rfl
theorem cv_T_71 : cV_ R_T 71 y_B_putRange c_B_putRange 5 none 3 := ⟨fa5 wm_T_71 wn_B_putRange ws_B_putRange wi_B wc_B_putRange, by decide, by decide, by decide +kernel⟩
theorem wc_B_at : Cond.code y_B_at c_B_at 2 (some .int) ∈ mt_T := mt_in2 77 (by decide +kernel) rfl
theorem wm_B_23 : Cond.methodLink R_B 23 y_B_at ∈ mt_T := mt_in2 74 (by decide +kernel) rfl
theorem wn_B_at : Cond.instanceMethod y_B_at ∈ mt_T := mt_in2 75 (by decide +kernel) rfl
theorem ws_B_at : Cond.selects R_B y_B_at y_B_at ∈ mt_T := mt_in2 76 (by decide +kernel) rfl
theorem cv_B_23 : cV_ R_B 23 y_B_at c_B_at 2 (some .int) 1 := ⟨fa5 wm_B_23 wn_B_at ws_B_at wi_B wc_B_at, by decide, by decide, by decide +kernel⟩
theorem wm_B_27 : Cond.methodLink R_B 27 y_B_put ∈ mt_T := mt_in2 78 (by decide +kernel) rfl
theorem cv_B_27 : cV_ R_B 27 y_B_put c_B_put 2 none 1 := ⟨fa5 wm_B_27 wn_B_put ws_B_put wi_B wc_B_put, by decide, by decide, by decide +kernel⟩
theorem wc_T_readEntity : Cond.code y_T_readEntity c_T_readEntity 7 none ∈ mt_T := mt_in2 82 (by decide +kernel) rfl
theorem wm_X_51 : Cond.methodLink R_X 51 y_T_readEntity ∈ mt_T := mt_in2 79 (by decide +kernel) rfl
theorem wn_T_readEntity : Cond.instanceMethod y_T_readEntity ∈ mt_T := mt_in2 80 (by decide +kernel) rfl
theorem ws_T_readEntity : Cond.selects R_T y_T_readEntity y_T_readEntity ∈ mt_T := mt_in2 81 (by decide +kernel) rfl
theorem cv_X_51 : cV_ R_X 51 y_T_readEntity c_T_readEntity 7 none 4 := ⟨fa5 wm_X_51 wn_T_readEntity ws_T_readEntity wi_T wc_T_readEntity, by decide, by decide, by decide +kernel⟩
theorem wc_E_start : Cond.code y_E_start c_E_start 5 none ∈ mt_T := mt_in2 86 (by decide +kernel) rfl
theorem wm_T_75 : Cond.methodLink R_T 75 y_E_start ∈ mt_T := mt_in2 83 (by decide +kernel) rfl
theorem wn_E_start : Cond.instanceMethod y_E_start ∈ mt_T := mt_in2 84 (by decide +kernel) rfl
theorem ws_E_start : Cond.selects R_E y_E_start y_E_start ∈ mt_T := mt_in2 85 (by decide +kernel) rfl
theorem cv_T_75 : cV_ R_T 75 y_E_start c_E_start 5 none 4 := ⟨fa5 wm_T_75 wn_E_start ws_E_start wi_E wc_E_start, by decide, by decide, by decide +kernel⟩
theorem wc_T_readFields : Cond.code y_T_readFields c_T_readFields 7 (some .int) ∈ mt_T := mt_in2 90 (by decide +kernel) rfl
theorem wm_T_82 : Cond.methodLink R_T 82 y_T_readFields ∈ mt_T := mt_in2 87 (by decide +kernel) rfl
theorem wn_T_readFields : Cond.instanceMethod y_T_readFields ∈ mt_T := mt_in2 89 (by decide +kernel) rfl
theorem ws_T_readFields : Cond.selects R_T y_T_readFields y_T_readFields ∈ mt_T := mt_inp 0 (by decide +kernel) rfl
theorem cv_T_82 : cV_ R_T 82 y_T_readFields c_T_readFields 7 (some .int) 1 := ⟨fa5 wm_T_82 wn_T_readFields ws_T_readFields wi_T wc_T_readFields, by decide, by decide, by decide +kernel⟩
theorem wc_B_lineEnd : Cond.code y_B_lineEnd c_B_lineEnd 4 (some .int) ∈ mt_T := mt_in2 94 (by decide +kernel) rfl
theorem wm_T_122 : Cond.methodLink R_T 122 y_B_lineEnd ∈ mt_T := mt_in2 91 (by decide +kernel) rfl
theorem wn_B_lineEnd : Cond.instanceMethod y_B_lineEnd ∈ mt_T := mt_in2 92 (by decide +kernel) rfl
theorem ws_B_lineEnd : Cond.selects R_B y_B_lineEnd y_B_lineEnd ∈ mt_T := mt_in2 93 (by decide +kernel) rfl
theorem cv_T_122 : cV_ R_T 122 y_B_lineEnd c_B_lineEnd 4 (some .int) 2 := ⟨fa5 wm_T_122 wn_B_lineEnd ws_B_lineEnd wi_B wc_B_lineEnd, by decide, by decide, by decide +kernel⟩
theorem wc_B_textEnd : Cond.code y_B_textEnd c_B_textEnd 4 (some .int) ∈ mt_T := mt_in2 98 (by decide +kernel) rfl
theorem wm_T_126 : Cond.methodLink R_T 126 y_B_textEnd ∈ mt_T := mt_in2 95 (by decide +kernel) rfl
theorem wn_B_textEnd : Cond.instanceMethod y_B_textEnd ∈ mt_T := mt_in2 96 (by decide +kernel) rfl
theorem ws_B_textEnd : Cond.selects R_B y_B_textEnd y_B_textEnd ∈ mt_T := mt_in2 97 (by decide +kernel) rfl
theorem cv_T_126 : cV_ R_T 126 y_B_textEnd c_B_textEnd 4 (some .int) 2 := ⟨fa5 wm_T_126 wn_B_textEnd ws_B_textEnd wi_B wc_B_textEnd, by decide, by decide, by decide +kernel⟩
theorem wm_T_129 : Cond.methodLink R_T 129 y_B_at ∈ mt_T := mt_in2 99 (by decide +kernel) rfl
theorem cv_T_129 : cV_ R_T 129 y_B_at c_B_at 2 (some .int) 1 := ⟨fa5 wm_T_129 wn_B_at ws_B_at wi_B wc_B_at, by decide, by decide, by decide +kernel⟩
theorem wc_X_isBlank : Cond.code y_X_isBlank c_X_isBlank 1 (some .boolean) ∈ mt_T := mt_in2 102 (by decide +kernel) rfl
theorem wt_X_isBlank : Cond.static y_X_isBlank ∈ mt_T := mt_in2 101 (by decide +kernel) rfl
theorem cv_T_133 : cN_ R_T 133 y_X_isBlank c_X_isBlank 1 (some .boolean) 1 := ⟨fa3 wt_X_isBlank wi_X wc_X_isBlank, ⟨by decide, by decide, by decide +kernel⟩, "MailTree", List.mem_filter.mpr ⟨mt_tb2 (List.mem_of_getElem? (i := 100) (by decide +kernel)), rfl⟩⟩
theorem wc_T_goOnWithField : Cond.code y_T_goOnWithField c_T_goOnWithField 5 (some .boolean) ∈ mt_T := mt_in2 106 (by decide +kernel) rfl
theorem wm_T_137 : Cond.methodLink R_T 137 y_T_goOnWithField ∈ mt_T := mt_in2 103 (by decide +kernel) rfl
theorem wn_T_goOnWithField : Cond.instanceMethod y_T_goOnWithField ∈ mt_T := mt_in2 105 (by decide +kernel) rfl
theorem ws_T_goOnWithField : Cond.selects R_T y_T_goOnWithField y_T_goOnWithField ∈ mt_T := mt_inp 1 (by decide +kernel) rfl
theorem cv_T_137 : cV_ R_T 137 y_T_goOnWithField c_T_goOnWithField 5 (some .boolean) 3 := ⟨fa5 wm_T_137 wn_T_goOnWithField ws_T_goOnWithField wi_T wc_T_goOnWithField, by decide, by decide, by decide +kernel⟩
theorem wc_T_beginField : Cond.code y_T_beginField c_T_beginField 8 (some .boolean) ∈ mt_T := mt_in2 110 (by decide +kernel) rfl
theorem wm_T_141 : Cond.methodLink R_T 141 y_T_beginField ∈ mt_T := mt_in2 107 (by decide +kernel) rfl
theorem wn_T_beginField : Cond.instanceMethod y_T_beginField ∈ mt_T := mt_in2 109 (by decide +kernel) rfl
theorem ws_T_beginField : Cond.selects R_T y_T_beginField y_T_beginField ∈ mt_T := mt_inp 2 (by decide +kernel) rfl
theorem cv_T_141 : cV_ R_T 141 y_T_beginField c_T_beginField 8 (some .boolean) 3 := ⟨fa5 wm_T_141 wn_T_beginField ws_T_beginField wi_T wc_T_beginField, by decide, by decide, by decide +kernel⟩
theorem wc_X_isNameByte : Cond.code y_X_isNameByte c_X_isNameByte 1 (some .boolean) ∈ mt_T := mt_in2 113 (by decide +kernel) rfl
theorem wt_X_isNameByte : Cond.static y_X_isNameByte ∈ mt_T := mt_in2 112 (by decide +kernel) rfl
theorem cv_T_156 : cN_ R_T 156 y_X_isNameByte c_X_isNameByte 1 (some .boolean) 1 := ⟨fa3 wt_X_isNameByte wi_X wc_X_isNameByte, ⟨by decide, by decide, by decide +kernel⟩, "MailTree", List.mem_filter.mpr ⟨mt_tb2 (List.mem_of_getElem? (i := 111) (by decide +kernel)), rfl⟩⟩
theorem wc_T_trimValues : Cond.code y_T_trimValues c_T_trimValues 7 none ∈ mt_T := mt_in2 117 (by decide +kernel) rfl
theorem wm_T_89 : Cond.methodLink R_T 89 y_T_trimValues ∈ mt_T := mt_in2 114 (by decide +kernel) rfl
theorem wn_T_trimValues : Cond.instanceMethod y_T_trimValues ∈ mt_T := mt_in2 116 (by decide +kernel) rfl
theorem ws_T_trimValues : Cond.selects R_T y_T_trimValues y_T_trimValues ∈ mt_T := mt_inp 3 (by decide +kernel) rfl
theorem cv_T_89 : cV_ R_T 89 y_T_trimValues c_T_trimValues 7 none 1 := ⟨fa5 wm_T_89 wn_T_trimValues ws_T_trimValues wi_T wc_T_trimValues, by decide, by decide, by decide +kernel⟩
theorem wc_B_skipBlanks : Cond.code y_B_skipBlanks c_B_skipBlanks 4 (some .int) ∈ mt_T := mt_in2 121 (by decide +kernel) rfl
theorem wm_T_168 : Cond.methodLink R_T 168 y_B_skipBlanks ∈ mt_T := mt_in2 118 (by decide +kernel) rfl
theorem wn_B_skipBlanks : Cond.instanceMethod y_B_skipBlanks ∈ mt_T := mt_in2 119 (by decide +kernel) rfl
theorem ws_B_skipBlanks : Cond.selects R_B y_B_skipBlanks y_B_skipBlanks ∈ mt_T := mt_in2 120 (by decide +kernel) rfl
theorem cv_T_168 : cV_ R_T 168 y_B_skipBlanks c_B_skipBlanks 4 (some .int) 2 := ⟨fa5 wm_T_168 wn_B_skipBlanks ws_B_skipBlanks wi_B wc_B_skipBlanks, by decide, by decide, by decide +kernel⟩
theorem cv_B_44 : cN_ R_B 44 y_X_isBlank c_X_isBlank 1 (some .boolean) 1 := ⟨fa3 wt_X_isBlank wi_X wc_X_isBlank, ⟨by decide, by decide, by decide +kernel⟩, "MailTree", List.mem_filter.mpr ⟨mt_tb2 (List.mem_of_getElem? (i := 122) (by decide +kernel)), rfl⟩⟩
theorem wc_T_readEncoding : Cond.code y_T_readEncoding c_T_readEncoding 3 none ∈ mt_T := mt_in2 126 (by decide +kernel) rfl
theorem wm_T_93 : Cond.methodLink R_T 93 y_T_readEncoding ∈ mt_T := mt_in2 123 (by decide +kernel) rfl
theorem wn_T_readEncoding : Cond.instanceMethod y_T_readEncoding ∈ mt_T := mt_in2 125 (by decide +kernel) rfl
theorem ws_T_readEncoding : Cond.selects R_T y_T_readEncoding y_T_readEncoding ∈ mt_T := mt_inp 4 (by decide +kernel) rfl
theorem cv_T_93 : cV_ R_T 93 y_T_readEncoding c_T_readEncoding 3 none 1 := ⟨fa5 wm_T_93 wn_T_readEncoding ws_T_readEncoding wi_T wc_T_readEncoding, by decide, by decide, by decide +kernel⟩
theorem wc_T_fieldNamed : Cond.code y_T_fieldNamed c_T_fieldNamed 5 (some (.object "MailTree$Field")) ∈ mt_T := mt_in2 131 (by decide +kernel) rfl
theorem wm_T_177 : Cond.methodLink R_T 177 y_T_fieldNamed ∈ mt_T := mt_in2 128 (by decide +kernel) rfl
theorem wn_T_fieldNamed : Cond.instanceMethod y_T_fieldNamed ∈ mt_T := mt_in2 130 (by decide +kernel) rfl
theorem ws_T_fieldNamed : Cond.selects R_T y_T_fieldNamed y_T_fieldNamed ∈ mt_T := mt_inp 5 (by decide +kernel) rfl
theorem cv_T_177 : cV_ R_T 177 y_T_fieldNamed c_T_fieldNamed 5 (some (.object "MailTree$Field")) 2 := ⟨fa5 wm_T_177 wn_T_fieldNamed ws_T_fieldNamed wi_T wc_T_fieldNamed, by decide, by decide, by decide +kernel⟩
theorem wc_B_spells : Cond.code y_B_spells c_B_spells 5 (some .boolean) ∈ mt_T := mt_in2 135 (by decide +kernel) rfl
theorem wm_T_171 : Cond.methodLink R_T 171 y_B_spells ∈ mt_T := mt_in2 132 (by decide +kernel) rfl
theorem wn_B_spells : Cond.instanceMethod y_B_spells ∈ mt_T := mt_in2 133 (by decide +kernel) rfl
theorem ws_B_spells : Cond.selects R_B y_B_spells y_B_spells ∈ mt_T := mt_in2 134 (by decide +kernel) rfl
theorem cv_T_171 : cV_ R_T 171 y_B_spells c_B_spells 5 (some .boolean) 3 := ⟨fa5 wm_T_171 wn_B_spells ws_B_spells wi_B wc_B_spells, by decide, by decide, by decide +kernel⟩
theorem wc_X_small : Cond.code y_X_small c_X_small 1 (some .int) ∈ mt_T := mt_in2 148 (by decide +kernel) rfl
theorem wt_X_small : Cond.static y_X_small ∈ mt_T := mt_in2 147 (by decide +kernel) rfl
theorem cv_B_41 : cN_ R_B 41 y_X_small c_X_small 1 (some .int) 1 := ⟨fa3 wt_X_small wi_X wc_X_small, ⟨by decide, by decide, by decide +kernel⟩, "MailTree", List.mem_filter.mpr ⟨mt_tb2 (List.mem_of_getElem? (i := 146) (by decide +kernel)), rfl⟩⟩
theorem wc_S_start : Cond.code y_S_start c_S_start 2 none ∈ mt_T := mt_in2 190 (by decide +kernel) rfl
theorem wm_T_181 : Cond.methodLink R_T 181 y_S_start ∈ mt_T := mt_in2 187 (by decide +kernel) rfl
theorem wn_S_start : Cond.instanceMethod y_S_start ∈ mt_T := mt_in2 188 (by decide +kernel) rfl
theorem ws_S_start : Cond.selects R_S y_S_start y_S_start ∈ mt_T := mt_in2 189 (by decide +kernel) rfl
theorem cv_T_181 : cV_ R_T 181 y_S_start c_S_start 2 none 1 := ⟨fa5 wm_T_181 wn_S_start ws_S_start wi_S wc_S_start, by decide, by decide, by decide +kernel⟩
theorem wc_S_skipSpace : Cond.code y_S_skipSpace c_S_skipSpace 3 none ∈ mt_T := mt_in2 194 (by decide +kernel) rfl
theorem wm_T_184 : Cond.methodLink R_T 184 y_S_skipSpace ∈ mt_T := mt_in2 191 (by decide +kernel) rfl
theorem wn_S_skipSpace : Cond.instanceMethod y_S_skipSpace ∈ mt_T := mt_in2 192 (by decide +kernel) rfl
theorem ws_S_skipSpace : Cond.selects R_S y_S_skipSpace y_S_skipSpace ∈ mt_T := mt_in2 193 (by decide +kernel) rfl
theorem cv_T_184 : cV_ R_T 184 y_S_skipSpace c_S_skipSpace 3 none 0 := ⟨fa5 wm_T_184 wn_S_skipSpace ws_S_skipSpace wi_S wc_S_skipSpace, by decide, by decide, by decide +kernel⟩
theorem wm_S_38 : Cond.methodLink R_S 38 y_B_at ∈ mt_T := mt_in2 195 (by decide +kernel) rfl
theorem cv_S_38 : cV_ R_S 38 y_B_at c_B_at 2 (some .int) 1 := ⟨fa5 wm_S_38 wn_B_at ws_B_at wi_B wc_B_at, by decide, by decide, by decide +kernel⟩
theorem cv_S_42 : cN_ R_S 42 y_X_isBlank c_X_isBlank 1 (some .boolean) 1 := ⟨fa3 wt_X_isBlank wi_X wc_X_isBlank, ⟨by decide, by decide, by decide +kernel⟩, "MailTree", List.mem_filter.mpr ⟨mt_tb2 (List.mem_of_getElem? (i := 196) (by decide +kernel)), rfl⟩⟩
theorem wc_S_takeAtom : Cond.code y_S_takeAtom c_S_takeAtom 1 (some .boolean) ∈ mt_T := mt_in2 200 (by decide +kernel) rfl
theorem wm_T_187 : Cond.methodLink R_T 187 y_S_takeAtom ∈ mt_T := mt_in2 197 (by decide +kernel) rfl
theorem wn_S_takeAtom : Cond.instanceMethod y_S_takeAtom ∈ mt_T := mt_in2 198 (by decide +kernel) rfl
theorem ws_S_takeAtom : Cond.selects R_S y_S_takeAtom y_S_takeAtom ∈ mt_T := mt_in2 199 (by decide +kernel) rfl
theorem cv_T_187 : cV_ R_T 187 y_S_takeAtom c_S_takeAtom 1 (some .boolean) 0 := ⟨fa5 wm_T_187 wn_S_takeAtom ws_S_takeAtom wi_S wc_S_takeAtom, by decide, by decide, by decide +kernel⟩
theorem wm_S_46 : Cond.methodLink R_S 46 y_B_empty ∈ mt_T := mt_in2 201 (by decide +kernel) rfl
theorem cv_S_46 : cV_ R_S 46 y_B_empty c_B_empty 1 none 0 := ⟨fa5 wm_S_46 wn_B_empty ws_B_empty wi_B wc_B_empty, by decide, by decide, by decide +kernel⟩
theorem wc_X_isAtomByte : Cond.code y_X_isAtomByte c_X_isAtomByte 1 (some .boolean) ∈ mt_T := mt_in2 204 (by decide +kernel) rfl
theorem wt_X_isAtomByte : Cond.static y_X_isAtomByte ∈ mt_T := mt_in2 203 (by decide +kernel) rfl
theorem cv_S_49 : cN_ R_S 49 y_X_isAtomByte c_X_isAtomByte 1 (some .boolean) 1 := ⟨fa3 wt_X_isAtomByte wi_X wc_X_isAtomByte, ⟨by decide, by decide, by decide +kernel⟩, "MailTree", List.mem_filter.mpr ⟨mt_tb2 (List.mem_of_getElem? (i := 202) (by decide +kernel)), rfl⟩⟩
theorem wm_S_52 : Cond.methodLink R_S 52 y_B_put ∈ mt_T := mt_in3 25 (by decide +kernel) rfl
theorem cv_S_52 : cV_ R_S 52 y_B_put c_B_put 2 none 1 := ⟨fa5 wm_S_52 wn_B_put ws_B_put wi_B wc_B_put, by decide, by decide, by decide +kernel⟩
theorem wc_S_wordIs : Cond.code y_S_wordIs c_S_wordIs 2 (some .boolean) ∈ mt_T := mt_in3 30 (by decide +kernel) rfl
theorem wm_T_197 : Cond.methodLink R_T 197 y_S_wordIs ∈ mt_T := mt_in3 27 (by decide +kernel) rfl
theorem wn_S_wordIs : Cond.instanceMethod y_S_wordIs ∈ mt_T := mt_in3 28 (by decide +kernel) rfl
theorem ws_S_wordIs : Cond.selects R_S y_S_wordIs y_S_wordIs ∈ mt_T := mt_in3 29 (by decide +kernel) rfl
theorem cv_T_197 : cV_ R_T 197 y_S_wordIs c_S_wordIs 2 (some .boolean) 1 := ⟨fa5 wm_T_197 wn_S_wordIs ws_S_wordIs wi_S wc_S_wordIs, by decide, by decide, by decide +kernel⟩
theorem wm_S_81 : Cond.methodLink R_S 81 y_B_spells ∈ mt_T := mt_in3 31 (by decide +kernel) rfl
theorem cv_S_81 : cV_ R_S 81 y_B_spells c_B_spells 5 (some .boolean) 3 := ⟨fa5 wm_S_81 wn_B_spells ws_B_spells wi_B wc_B_spells, by decide, by decide, by decide +kernel⟩
theorem wc_T_readKind : Cond.code y_T_readKind c_T_readKind 5 (some .boolean) ∈ mt_T := mt_in3 36 (by decide +kernel) rfl
theorem wm_T_96 : Cond.methodLink R_T 96 y_T_readKind ∈ mt_T := mt_in3 33 (by decide +kernel) rfl
theorem wn_T_readKind : Cond.instanceMethod y_T_readKind ∈ mt_T := mt_in3 35 (by decide +kernel) rfl
theorem ws_T_readKind : Cond.selects R_T y_T_readKind y_T_readKind ∈ mt_T := mt_inp 6 (by decide +kernel) rfl
theorem cv_T_96 : cV_ R_T 96 y_T_readKind c_T_readKind 5 (some .boolean) 1 := ⟨fa5 wm_T_96 wn_T_readKind ws_T_readKind wi_T wc_T_readKind, by decide, by decide, by decide +kernel⟩
theorem wc_S_take : Cond.code y_S_take c_S_take 2 (some .boolean) ∈ mt_T := mt_in3 43 (by decide +kernel) rfl
theorem wm_T_212 : Cond.methodLink R_T 212 y_S_take ∈ mt_T := mt_in3 40 (by decide +kernel) rfl
theorem wn_S_take : Cond.instanceMethod y_S_take ∈ mt_T := mt_in3 41 (by decide +kernel) rfl
theorem ws_S_take : Cond.selects R_S y_S_take y_S_take ∈ mt_T := mt_in3 42 (by decide +kernel) rfl
theorem cv_T_212 : cV_ R_T 212 y_S_take c_S_take 2 (some .boolean) 1 := ⟨fa5 wm_T_212 wn_S_take ws_S_take wi_S wc_S_take, by decide, by decide, by decide +kernel⟩
theorem wc_T_readBoundary : Cond.code y_T_readBoundary c_T_readBoundary 4 none ∈ mt_T := mt_in3 48 (by decide +kernel) rfl
theorem wm_T_100 : Cond.methodLink R_T 100 y_T_readBoundary ∈ mt_T := mt_in3 45 (by decide +kernel) rfl
theorem wn_T_readBoundary : Cond.instanceMethod y_T_readBoundary ∈ mt_T := mt_in3 47 (by decide +kernel) rfl
theorem ws_T_readBoundary : Cond.selects R_T y_T_readBoundary y_T_readBoundary ∈ mt_T := mt_inp 7 (by decide +kernel) rfl
theorem cv_T_100 : cV_ R_T 100 y_T_readBoundary c_T_readBoundary 4 none 1 := ⟨fa5 wm_T_100 wn_T_readBoundary ws_T_readBoundary wi_T wc_T_readBoundary, by decide, by decide, by decide +kernel⟩
theorem wc_S_takeParameter : Cond.code y_S_takeParameter c_S_takeParameter 1 (some .boolean) ∈ mt_T := mt_in3 52 (by decide +kernel) rfl
theorem wm_T_217 : Cond.methodLink R_T 217 y_S_takeParameter ∈ mt_T := mt_in3 49 (by decide +kernel) rfl
theorem wn_S_takeParameter : Cond.instanceMethod y_S_takeParameter ∈ mt_T := mt_in3 50 (by decide +kernel) rfl
theorem ws_S_takeParameter : Cond.selects R_S y_S_takeParameter y_S_takeParameter ∈ mt_T := mt_in3 51 (by decide +kernel) rfl
theorem cv_T_217 : cV_ R_T 217 y_S_takeParameter c_S_takeParameter 1 (some .boolean) 0 := ⟨fa5 wm_T_217 wn_S_takeParameter ws_S_takeParameter wi_S wc_S_takeParameter, by decide, by decide, by decide +kernel⟩
theorem wm_S_58 : Cond.methodLink R_S 58 y_S_take ∈ mt_T := mt_in3 53 (by decide +kernel) rfl
theorem cv_S_58 : cV_ R_S 58 y_S_take c_S_take 2 (some .boolean) 1 := ⟨fa5 wm_S_58 wn_S_take ws_S_take wi_S wc_S_take, by decide, by decide, by decide +kernel⟩
theorem wm_S_65 : Cond.methodLink R_S 65 y_S_skipSpace ∈ mt_T := mt_in3 54 (by decide +kernel) rfl
theorem cv_S_65 : cV_ R_S 65 y_S_skipSpace c_S_skipSpace 3 none 0 := ⟨fa5 wm_S_65 wn_S_skipSpace ws_S_skipSpace wi_S wc_S_skipSpace, by decide, by decide, by decide +kernel⟩
theorem wm_S_68 : Cond.methodLink R_S 68 y_S_takeAtom ∈ mt_T := mt_in3 55 (by decide +kernel) rfl
theorem cv_S_68 : cV_ R_S 68 y_S_takeAtom c_S_takeAtom 1 (some .boolean) 0 := ⟨fa5 wm_S_68 wn_S_takeAtom ws_S_takeAtom wi_S wc_S_takeAtom, by decide, by decide, by decide +kernel⟩
theorem wm_S_74 : Cond.methodLink R_S 74 y_S_wordIs ∈ mt_T := mt_in3 57 (by decide +kernel) rfl
theorem cv_S_74 : cV_ R_S 74 y_S_wordIs c_S_wordIs 2 (some .boolean) 1 := ⟨fa5 wm_S_74 wn_S_wordIs ws_S_wordIs wi_S wc_S_wordIs, by decide, by decide, by decide +kernel⟩
theorem wc_S_takeQuoted : Cond.code y_S_takeQuoted c_S_takeQuoted 1 (some .boolean) ∈ mt_T := mt_in3 61 (by decide +kernel) rfl
theorem wm_S_78 : Cond.methodLink R_S 78 y_S_takeQuoted ∈ mt_T := mt_in3 58 (by decide +kernel) rfl
theorem wn_S_takeQuoted : Cond.instanceMethod y_S_takeQuoted ∈ mt_T := mt_in3 59 (by decide +kernel) rfl
theorem ws_S_takeQuoted : Cond.selects R_S y_S_takeQuoted y_S_takeQuoted ∈ mt_T := mt_in3 60 (by decide +kernel) rfl
theorem cv_S_78 : cV_ R_S 78 y_S_takeQuoted c_S_takeQuoted 1 (some .boolean) 0 := ⟨fa5 wm_S_78 wn_S_takeQuoted ws_S_takeQuoted wi_S wc_S_takeQuoted, by decide, by decide, by decide +kernel⟩
theorem wc_S_wordCanBeBoundary : Cond.code y_S_wordCanBeBoundary c_S_wordCanBeBoundary 2 (some .boolean) ∈ mt_T := mt_in3 65 (by decide +kernel) rfl
theorem wm_T_224 : Cond.methodLink R_T 224 y_S_wordCanBeBoundary ∈ mt_T := mt_in3 62 (by decide +kernel) rfl
theorem wn_S_wordCanBeBoundary : Cond.instanceMethod y_S_wordCanBeBoundary ∈ mt_T := mt_in3 63 (by decide +kernel) rfl
theorem ws_S_wordCanBeBoundary : Cond.selects R_S y_S_wordCanBeBoundary y_S_wordCanBeBoundary ∈ mt_T := mt_in3 64 (by decide +kernel) rfl
theorem cv_T_224 : cV_ R_T 224 y_S_wordCanBeBoundary c_S_wordCanBeBoundary 2 (some .boolean) 0 := ⟨fa5 wm_T_224 wn_S_wordCanBeBoundary ws_S_wordCanBeBoundary wi_S wc_S_wordCanBeBoundary, by decide, by decide, by decide +kernel⟩
theorem wc_D_decode : Cond.code y_D_decode c_D_decode 2 none ∈ mt_T := mt_in3 69 (by decide +kernel) rfl
theorem wm_T_106 : Cond.methodLink R_T 106 y_D_decode ∈ mt_T := mt_in3 66 (by decide +kernel) rfl
theorem wn_D_decode : Cond.instanceMethod y_D_decode ∈ mt_T := mt_in3 67 (by decide +kernel) rfl
theorem ws_D_decode : Cond.selects R_D y_D_decode y_D_decode ∈ mt_T := mt_in3 68 (by decide +kernel) rfl
theorem cv_T_106 : cV_ R_T 106 y_D_decode c_D_decode 2 none 1 := ⟨fa5 wm_T_106 wn_D_decode ws_D_decode wi_D wc_D_decode, by decide, by decide, by decide +kernel⟩
theorem wc_D_decodeBase64 : Cond.code y_D_decodeBase64 c_D_decodeBase64 7 none ∈ mt_T := mt_in3 73 (by decide +kernel) rfl
theorem wm_D_38 : Cond.methodLink R_D 38 y_D_decodeBase64 ∈ mt_T := mt_in3 70 (by decide +kernel) rfl
theorem wn_D_decodeBase64 : Cond.instanceMethod y_D_decodeBase64 ∈ mt_T := mt_in3 72 (by decide +kernel) rfl
theorem ws_D_decodeBase64 : Cond.selects R_D y_D_decodeBase64 y_D_decodeBase64 ∈ mt_T := mt_inp 8 (by decide +kernel) rfl
theorem cv_D_38 : cV_ R_D 38 y_D_decodeBase64 c_D_decodeBase64 7 none 2 := ⟨fa5 wm_D_38 wn_D_decodeBase64 ws_D_decodeBase64 wi_D wc_D_decodeBase64, by decide, by decide, by decide +kernel⟩
theorem wm_D_52 : Cond.methodLink R_D 52 y_B_at ∈ mt_T := mt_in3 74 (by decide +kernel) rfl
theorem cv_D_52 : cV_ R_D 52 y_B_at c_B_at 2 (some .int) 1 := ⟨fa5 wm_D_52 wn_B_at ws_B_at wi_B wc_B_at, by decide, by decide, by decide +kernel⟩
theorem wc_X_base64Digit : Cond.code y_X_base64Digit c_X_base64Digit 1 (some .int) ∈ mt_T := mt_in3 77 (by decide +kernel) rfl
theorem wt_X_base64Digit : Cond.static y_X_base64Digit ∈ mt_T := mt_in3 76 (by decide +kernel) rfl
theorem cv_D_56 : cN_ R_D 56 y_X_base64Digit c_X_base64Digit 1 (some .int) 1 := ⟨fa3 wt_X_base64Digit wi_X wc_X_base64Digit, ⟨by decide, by decide, by decide +kernel⟩, "MailTree", List.mem_filter.mpr ⟨mt_tb3 (List.mem_of_getElem? (i := 75) (by decide +kernel)), rfl⟩⟩
theorem wm_D_60 : Cond.methodLink R_D 60 y_B_put ∈ mt_T := mt_in3 80 (by decide +kernel) rfl
theorem cv_D_60 : cV_ R_D 60 y_B_put c_B_put 2 none 1 := ⟨fa5 wm_D_60 wn_B_put ws_B_put wi_B wc_B_put, by decide, by decide, by decide +kernel⟩
theorem wc_D_decodeQuotedPrintable : Cond.code y_D_decodeQuotedPrintable c_D_decodeQuotedPrintable 6 none ∈ mt_T := mt_in3 84 (by decide +kernel) rfl
theorem wm_D_42 : Cond.methodLink R_D 42 y_D_decodeQuotedPrintable ∈ mt_T := mt_in3 81 (by decide +kernel) rfl
theorem wn_D_decodeQuotedPrintable : Cond.instanceMethod y_D_decodeQuotedPrintable ∈ mt_T := mt_in3 83 (by decide +kernel) rfl
theorem ws_D_decodeQuotedPrintable : Cond.selects R_D y_D_decodeQuotedPrintable y_D_decodeQuotedPrintable ∈ mt_T := mt_inp 9 (by decide +kernel) rfl
theorem cv_D_42 : cV_ R_D 42 y_D_decodeQuotedPrintable c_D_decodeQuotedPrintable 6 none 2 := ⟨fa5 wm_D_42 wn_D_decodeQuotedPrintable ws_D_decodeQuotedPrintable wi_D wc_D_decodeQuotedPrintable, by decide, by decide, by decide +kernel⟩
theorem wc_D_decodeEqualSign : Cond.code y_D_decodeEqualSign c_D_decodeEqualSign 5 (some .int) ∈ mt_T := mt_in3 88 (by decide +kernel) rfl
theorem wm_D_64 : Cond.methodLink R_D 64 y_D_decodeEqualSign ∈ mt_T := mt_in3 85 (by decide +kernel) rfl
theorem wn_D_decodeEqualSign : Cond.instanceMethod y_D_decodeEqualSign ∈ mt_T := mt_in3 87 (by decide +kernel) rfl
theorem ws_D_decodeEqualSign : Cond.selects R_D y_D_decodeEqualSign y_D_decodeEqualSign ∈ mt_T := mt_inp 10 (by decide +kernel) rfl
theorem cv_D_64 : cV_ R_D 64 y_D_decodeEqualSign c_D_decodeEqualSign 5 (some .int) 2 := ⟨fa5 wm_D_64 wn_D_decodeEqualSign ws_D_decodeEqualSign wi_D wc_D_decodeEqualSign, by decide, by decide, by decide +kernel⟩
theorem wc_X_hexDigit : Cond.code y_X_hexDigit c_X_hexDigit 2 (some .int) ∈ mt_T := mt_in3 91 (by decide +kernel) rfl
theorem wt_X_hexDigit : Cond.static y_X_hexDigit ∈ mt_T := mt_in3 90 (by decide +kernel) rfl
theorem cv_D_75 : cN_ R_D 75 y_X_hexDigit c_X_hexDigit 2 (some .int) 1 := ⟨fa3 wt_X_hexDigit wi_X wc_X_hexDigit, ⟨by decide, by decide, by decide +kernel⟩, "MailTree", List.mem_filter.mpr ⟨mt_tb3 (List.mem_of_getElem? (i := 89) (by decide +kernel)), rfl⟩⟩
theorem wm_X_193 : Cond.methodLink R_X 193 y_X_small ∈ mt_T := mt_in3 92 (by decide +kernel) rfl
theorem cv_X_193 : cS_ R_X 193 y_X_small c_X_small 1 (some .int) 1 := ⟨fa4 wm_X_193 wt_X_small wi_X wc_X_small, rfl, by decide, by decide, by decide +kernel⟩
theorem wm_D_78 : Cond.methodLink R_D 78 y_B_skipBlanks ∈ mt_T := mt_in3 93 (by decide +kernel) rfl
theorem cv_D_78 : cV_ R_D 78 y_B_skipBlanks c_B_skipBlanks 4 (some .int) 2 := ⟨fa5 wm_D_78 wn_B_skipBlanks ws_B_skipBlanks wi_B wc_B_skipBlanks, by decide, by decide, by decide +kernel⟩
theorem wc_B_lineEndSize : Cond.code y_B_lineEndSize c_B_lineEndSize 4 (some .int) ∈ mt_T := mt_in3 97 (by decide +kernel) rfl
theorem wm_D_81 : Cond.methodLink R_D 81 y_B_lineEndSize ∈ mt_T := mt_in3 94 (by decide +kernel) rfl
theorem wn_B_lineEndSize : Cond.instanceMethod y_B_lineEndSize ∈ mt_T := mt_in3 95 (by decide +kernel) rfl
theorem ws_B_lineEndSize : Cond.selects R_B y_B_lineEndSize y_B_lineEndSize ∈ mt_T := mt_in3 96 (by decide +kernel) rfl
theorem cv_D_81 : cV_ R_D 81 y_B_lineEndSize c_B_lineEndSize 4 (some .int) 2 := ⟨fa5 wm_D_81 wn_B_lineEndSize ws_B_lineEndSize wi_B wc_B_lineEndSize, by decide, by decide, by decide +kernel⟩
theorem cv_D_68 : cN_ R_D 68 y_X_isBlank c_X_isBlank 1 (some .boolean) 1 := ⟨fa3 wt_X_isBlank wi_X wc_X_isBlank, ⟨by decide, by decide, by decide +kernel⟩, "MailTree", List.mem_filter.mpr ⟨mt_tb3 (List.mem_of_getElem? (i := 98) (by decide +kernel)), rfl⟩⟩
theorem wc_D_decodeBlanks : Cond.code y_D_decodeBlanks c_D_decodeBlanks 4 (some .int) ∈ mt_T := mt_in3 102 (by decide +kernel) rfl
theorem wm_D_72 : Cond.methodLink R_D 72 y_D_decodeBlanks ∈ mt_T := mt_in3 99 (by decide +kernel) rfl
theorem wn_D_decodeBlanks : Cond.instanceMethod y_D_decodeBlanks ∈ mt_T := mt_in3 101 (by decide +kernel) rfl
theorem ws_D_decodeBlanks : Cond.selects R_D y_D_decodeBlanks y_D_decodeBlanks ∈ mt_T := mt_inp 11 (by decide +kernel) rfl
theorem cv_D_72 : cV_ R_D 72 y_D_decodeBlanks c_D_decodeBlanks 4 (some .int) 2 := ⟨fa5 wm_D_72 wn_D_decodeBlanks ws_D_decodeBlanks wi_D wc_D_decodeBlanks, by decide, by decide, by decide +kernel⟩
theorem wm_D_45 : Cond.methodLink R_D 45 y_B_putRange ∈ mt_T := mt_in3 103 (by decide +kernel) rfl
theorem cv_D_45 : cV_ R_D 45 y_B_putRange c_B_putRange 5 none 3 := ⟨fa5 wm_D_45 wn_B_putRange ws_B_putRange wi_B wc_B_putRange, by decide, by decide, by decide +kernel⟩
theorem wm_T_109 : Cond.methodLink R_T 109 y_T_readEntity ∈ mt_T := mt_in3 104 (by decide +kernel) rfl
theorem cv_T_109 : cV_ R_T 109 y_T_readEntity c_T_readEntity 7 none 4 := ⟨fa5 wm_T_109 wn_T_readEntity ws_T_readEntity wi_T wc_T_readEntity, by decide, by decide, by decide +kernel⟩
theorem wc_T_readParts : Cond.code y_T_readParts c_T_readParts 10 none ∈ mt_T := mt_in3 108 (by decide +kernel) rfl
theorem wm_T_112 : Cond.methodLink R_T 112 y_T_readParts ∈ mt_T := mt_in3 105 (by decide +kernel) rfl
theorem wn_T_readParts : Cond.instanceMethod y_T_readParts ∈ mt_T := mt_in3 107 (by decide +kernel) rfl
theorem ws_T_readParts : Cond.selects R_T y_T_readParts y_T_readParts ∈ mt_T := mt_inp 12 (by decide +kernel) rfl
theorem cv_T_112 : cV_ R_T 112 y_T_readParts c_T_readParts 10 none 2 := ⟨fa5 wm_T_112 wn_T_readParts ws_T_readParts wi_T wc_T_readParts, by decide, by decide, by decide +kernel⟩
theorem wc_T_markOf : Cond.code y_T_markOf c_T_markOf 6 (some .int) ∈ mt_T := mt_in3 112 (by decide +kernel) rfl
theorem wm_T_236 : Cond.methodLink R_T 236 y_T_markOf ∈ mt_T := mt_in3 109 (by decide +kernel) rfl
theorem wn_T_markOf : Cond.instanceMethod y_T_markOf ∈ mt_T := mt_in3 111 (by decide +kernel) rfl
theorem ws_T_markOf : Cond.selects R_T y_T_markOf y_T_markOf ∈ mt_T := mt_inp 13 (by decide +kernel) rfl
theorem cv_T_236 : cV_ R_T 236 y_T_markOf c_T_markOf 6 (some .int) 3 := ⟨fa5 wm_T_236 wn_T_markOf ws_T_markOf wi_T wc_T_markOf, by decide, by decide, by decide +kernel⟩
theorem wc_B_has : Cond.code y_B_has c_B_has 5 (some .boolean) ∈ mt_T := mt_in3 118 (by decide +kernel) rfl
theorem wm_T_256 : Cond.methodLink R_T 256 y_B_has ∈ mt_T := mt_in3 115 (by decide +kernel) rfl
theorem wn_B_has : Cond.instanceMethod y_B_has ∈ mt_T := mt_in3 116 (by decide +kernel) rfl
theorem ws_B_has : Cond.selects R_B y_B_has y_B_has ∈ mt_T := mt_in3 117 (by decide +kernel) rfl
theorem cv_T_256 : cV_ R_T 256 y_B_has c_B_has 5 (some .boolean) 3 := ⟨fa5 wm_T_256 wn_B_has ws_B_has wi_B wc_B_has, by decide, by decide, by decide +kernel⟩
theorem wc_X_entities : Cond.code y_X_entities c_X_entities 1 (some .int) ∈ mt_T := mt_in3 124 (by decide +kernel) rfl
theorem wm_L_58 : Cond.methodLink R_L 58 y_X_entities ∈ mt_T := mt_in3 121 (by decide +kernel) rfl
theorem wn_X_entities : Cond.instanceMethod y_X_entities ∈ mt_T := mt_in3 122 (by decide +kernel) rfl
theorem ws_X_entities : Cond.selects R_X y_X_entities y_X_entities ∈ mt_T := mt_in3 123 (by decide +kernel) rfl
theorem cv_L_58 : cV_ R_L 58 y_X_entities c_X_entities 1 (some .int) 0 := ⟨fa5 wm_L_58 wn_X_entities ws_X_entities wi_X wc_X_entities, by decide, by decide, by decide +kernel⟩
theorem wc_X_written : Cond.code y_X_written c_X_written 2 (some .int) ∈ mt_T := mt_in3 128 (by decide +kernel) rfl
theorem wm_L_89 : Cond.methodLink R_L 89 y_X_written ∈ mt_T := mt_in3 125 (by decide +kernel) rfl
theorem wn_X_written : Cond.instanceMethod y_X_written ∈ mt_T := mt_in3 126 (by decide +kernel) rfl
theorem ws_X_written : Cond.selects R_X y_X_written y_X_written ∈ mt_T := mt_in3 127 (by decide +kernel) rfl
theorem cv_L_89 : cV_ R_L 89 y_X_written c_X_written 2 (some .int) 1 := ⟨fa5 wm_L_89 wn_X_written ws_X_written wi_X wc_X_written, by decide, by decide, by decide +kernel⟩
theorem wm_X_146 : Cond.methodLink R_X 146 y_B_at ∈ mt_T := mt_in3 129 (by decide +kernel) rfl
theorem cv_X_146 : cV_ R_X 146 y_B_at c_B_at 2 (some .int) 1 := ⟨fa5 wm_X_146 wn_B_at ws_B_at wi_B wc_B_at, by decide, by decide, by decide +kernel⟩
theorem wc_X_again : Cond.code y_X_again c_X_again 1 (some .int) ∈ mt_T := mt_in3 133 (by decide +kernel) rfl
theorem wm_L_94 : Cond.methodLink R_L 94 y_X_again ∈ mt_T := mt_in3 130 (by decide +kernel) rfl
theorem wn_X_again : Cond.instanceMethod y_X_again ∈ mt_T := mt_in3 131 (by decide +kernel) rfl
theorem ws_X_again : Cond.selects R_X y_X_again y_X_again ∈ mt_T := mt_in3 132 (by decide +kernel) rfl
theorem cv_L_94 : cV_ R_L 94 y_X_again c_X_again 1 (some .int) 0 := ⟨fa5 wm_L_94 wn_X_again ws_X_again wi_X wc_X_again, by decide, by decide, by decide +kernel⟩
theorem wm_X_171 : Cond.methodLink R_X 171 y_B_putRange ∈ mt_T := mt_in3 135 (by decide +kernel) rfl
theorem cv_X_171 : cV_ R_X 171 y_B_putRange c_B_putRange 5 none 3 := ⟨fa5 wm_X_171 wn_B_putRange ws_B_putRange wi_B wc_B_putRange, by decide, by decide, by decide +kernel⟩
theorem wc_X_look : Cond.code y_X_look c_X_look 4 (some .int) ∈ mt_T := mt_in3 144 (by decide +kernel) rfl
theorem wm_L_7 : Cond.methodLink R_L 7 y_X_look ∈ mt_T := mt_in3 141 (by decide +kernel) rfl
theorem wn_X_look : Cond.instanceMethod y_X_look ∈ mt_T := mt_in3 142 (by decide +kernel) rfl
theorem ws_X_look : Cond.selects R_X y_X_look y_X_look ∈ mt_T := mt_in3 143 (by decide +kernel) rfl
theorem cv_L_7 : cV_ R_L 7 y_X_look c_X_look 4 (some .int) 2 := ⟨fa5 wm_L_7 wn_X_look ws_X_look wi_X wc_X_look, by decide, by decide, by decide +kernel⟩
theorem wc_T_entityAt : Cond.code y_T_entityAt c_T_entityAt 2 (some (.object "MailTree$Entity")) ∈ mt_T := mt_in3 148 (by decide +kernel) rfl
theorem wm_X_58 : Cond.methodLink R_X 58 y_T_entityAt ∈ mt_T := mt_in3 145 (by decide +kernel) rfl
theorem wn_T_entityAt : Cond.instanceMethod y_T_entityAt ∈ mt_T := mt_in3 146 (by decide +kernel) rfl
theorem ws_T_entityAt : Cond.selects R_T y_T_entityAt y_T_entityAt ∈ mt_T := mt_in3 147 (by decide +kernel) rfl
theorem cv_X_58 : cV_ R_X 58 y_T_entityAt c_T_entityAt 2 (some (.object "MailTree$Entity")) 1 := ⟨fa5 wm_X_58 wn_T_entityAt ws_T_entityAt wi_T wc_T_entityAt, by decide, by decide, by decide +kernel⟩
theorem wc_X_length : Cond.code y_X_length c_X_length 5 (some .int) ∈ mt_T := mt_in3 239 (by decide +kernel) rfl
theorem wm_L_17 : Cond.methodLink R_L 17 y_X_length ∈ mt_T := mt_in3 236 (by decide +kernel) rfl
theorem wn_X_length : Cond.instanceMethod y_X_length ∈ mt_T := mt_in3 237 (by decide +kernel) rfl
theorem ws_X_length : Cond.selects R_X y_X_length y_X_length ∈ mt_T := mt_in3 238 (by decide +kernel) rfl
theorem cv_L_17 : cV_ R_L 17 y_X_length c_X_length 5 (some .int) 3 := ⟨fa5 wm_L_17 wn_X_length ws_X_length wi_X wc_X_length, by decide, by decide, by decide +kernel⟩
theorem wc_E_fieldAt : Cond.code y_E_fieldAt c_E_fieldAt 2 (some (.object "MailTree$Field")) ∈ mt_T := mt_in4 3 (by decide +kernel) rfl
theorem wm_X_101 : Cond.methodLink R_X 101 y_E_fieldAt ∈ mt_T := mt_in4 0 (by decide +kernel) rfl
theorem wn_E_fieldAt : Cond.instanceMethod y_E_fieldAt ∈ mt_T := mt_in4 1 (by decide +kernel) rfl
theorem ws_E_fieldAt : Cond.selects R_E y_E_fieldAt y_E_fieldAt ∈ mt_T := mt_in4 2 (by decide +kernel) rfl
theorem cv_X_101 : cV_ R_X 101 y_E_fieldAt c_E_fieldAt 2 (some (.object "MailTree$Field")) 1 := ⟨fa5 wm_X_101 wn_E_fieldAt ws_E_fieldAt wi_E wc_E_fieldAt, by decide, by decide, by decide +kernel⟩
theorem wc_X_letter : Cond.code y_X_letter c_X_letter 6 (some .int) ∈ mt_T := mt_in4 14 (by decide +kernel) rfl
theorem wm_L_21 : Cond.methodLink R_L 21 y_X_letter ∈ mt_T := mt_in4 11 (by decide +kernel) rfl
theorem wn_X_letter : Cond.instanceMethod y_X_letter ∈ mt_T := mt_in4 12 (by decide +kernel) rfl
theorem ws_X_letter : Cond.selects R_X y_X_letter y_X_letter ∈ mt_T := mt_in4 13 (by decide +kernel) rfl
theorem cv_L_21 : cV_ R_L 21 y_X_letter c_X_letter 6 (some .int) 4 := ⟨fa5 wm_L_21 wn_X_letter ws_X_letter wi_X wc_X_letter, by decide, by decide, by decide +kernel⟩
theorem wc_X_byteOf : Cond.code y_X_byteOf c_X_byteOf 4 (some .int) ∈ mt_T := mt_in4 17 (by decide +kernel) rfl
theorem wm_X_121 : Cond.methodLink R_X 121 y_X_byteOf ∈ mt_T := mt_in4 15 (by decide +kernel) rfl
theorem wt_X_byteOf : Cond.static y_X_byteOf ∈ mt_T := mt_in4 16 (by decide +kernel) rfl
theorem cv_X_121 : cS_ R_X 121 y_X_byteOf c_X_byteOf 4 (some .int) 4 := ⟨fa4 wm_X_121 wt_X_byteOf wi_X wc_X_byteOf, rfl, by decide, by decide, by decide +kernel⟩
theorem wc_X_content : Cond.code y_X_content c_X_content 4 (some .int) ∈ mt_T := mt_in4 27 (by decide +kernel) rfl
theorem wm_L_25 : Cond.methodLink R_L 25 y_X_content ∈ mt_T := mt_in4 24 (by decide +kernel) rfl
theorem wn_X_content : Cond.instanceMethod y_X_content ∈ mt_T := mt_in4 25 (by decide +kernel) rfl
theorem ws_X_content : Cond.selects R_X y_X_content y_X_content ∈ mt_T := mt_in4 26 (by decide +kernel) rfl
theorem cv_L_25 : cV_ R_L 25 y_X_content c_X_content 4 (some .int) 2 := ⟨fa5 wm_L_25 wn_X_content ws_X_content wi_X wc_X_content, by decide, by decide, by decide +kernel⟩
theorem wc_X_boundary : Cond.code y_X_boundary c_X_boundary 4 (some .int) ∈ mt_T := mt_in4 34 (by decide +kernel) rfl
theorem wm_L_28 : Cond.methodLink R_L 28 y_X_boundary ∈ mt_T := mt_in4 31 (by decide +kernel) rfl
theorem wn_X_boundary : Cond.instanceMethod y_X_boundary ∈ mt_T := mt_in4 32 (by decide +kernel) rfl
theorem ws_X_boundary : Cond.selects R_X y_X_boundary y_X_boundary ∈ mt_T := mt_in4 33 (by decide +kernel) rfl
theorem cv_L_28 : cV_ R_L 28 y_X_boundary c_X_boundary 4 (some .int) 2 := ⟨fa5 wm_L_28 wn_X_boundary ws_X_boundary wi_X wc_X_boundary, by decide, by decide, by decide +kernel⟩
theorem wc_X_write : Cond.code y_X_write c_X_write 2 (some .int) ∈ mt_T := mt_in4 43 (by decide +kernel) rfl
theorem wm_L_31 : Cond.methodLink R_L 31 y_X_write ∈ mt_T := mt_in4 40 (by decide +kernel) rfl
theorem wn_X_write : Cond.instanceMethod y_X_write ∈ mt_T := mt_in4 41 (by decide +kernel) rfl
theorem ws_X_write : Cond.selects R_X y_X_write y_X_write ∈ mt_T := mt_in4 42 (by decide +kernel) rfl
theorem cv_L_31 : cV_ R_L 31 y_X_write c_X_write 2 (some .int) 0 := ⟨fa5 wm_L_31 wn_X_write ws_X_write wi_X wc_X_write, by decide, by decide, by decide +kernel⟩
theorem wc_P_printEntity : Cond.code y_P_printEntity c_P_printEntity 6 none ∈ mt_T := mt_in4 63 (by decide +kernel) rfl
theorem wm_X_158 : Cond.methodLink R_X 158 y_P_printEntity ∈ mt_T := mt_in4 60 (by decide +kernel) rfl
theorem wn_P_printEntity : Cond.instanceMethod y_P_printEntity ∈ mt_T := mt_in4 61 (by decide +kernel) rfl
theorem ws_P_printEntity : Cond.selects R_P y_P_printEntity y_P_printEntity ∈ mt_T := mt_in4 62 (by decide +kernel) rfl
theorem cv_X_158 : cV_ R_X 158 y_P_printEntity c_P_printEntity 6 none 2 := ⟨fa5 wm_X_158 wn_P_printEntity ws_P_printEntity wi_P wc_P_printEntity, by decide, by decide, by decide +kernel⟩
theorem wc_P_printFields : Cond.code y_P_printFields c_P_printFields 4 none ∈ mt_T := mt_in4 67 (by decide +kernel) rfl
theorem wm_P_34 : Cond.methodLink R_P 34 y_P_printFields ∈ mt_T := mt_in4 64 (by decide +kernel) rfl
theorem wn_P_printFields : Cond.instanceMethod y_P_printFields ∈ mt_T := mt_in4 66 (by decide +kernel) rfl
theorem ws_P_printFields : Cond.selects R_P y_P_printFields y_P_printFields ∈ mt_T := mt_inp 15 (by decide +kernel) rfl
theorem cv_P_34 : cV_ R_P 34 y_P_printFields c_P_printFields 4 none 1 := ⟨fa5 wm_P_34 wn_P_printFields ws_P_printFields wi_P wc_P_printFields, by decide, by decide, by decide +kernel⟩
theorem wm_P_83 : Cond.methodLink R_P 83 y_B_putRange ∈ mt_T := mt_in4 68 (by decide +kernel) rfl
theorem cv_P_83 : cV_ R_P 83 y_B_putRange c_B_putRange 5 none 3 := ⟨fa5 wm_P_83 wn_B_putRange ws_B_putRange wi_B wc_B_putRange, by decide, by decide, by decide +kernel⟩
theorem wc_B_putText : Cond.code y_B_putText c_B_putText 3 none ∈ mt_T := mt_in4 73 (by decide +kernel) rfl
theorem wm_P_40 : Cond.methodLink R_P 40 y_B_putText ∈ mt_T := mt_in4 70 (by decide +kernel) rfl
theorem wn_B_putText : Cond.instanceMethod y_B_putText ∈ mt_T := mt_in4 71 (by decide +kernel) rfl
theorem ws_B_putText : Cond.selects R_B y_B_putText y_B_putText ∈ mt_T := mt_in4 72 (by decide +kernel) rfl
theorem cv_P_40 : cV_ R_P 40 y_B_putText c_B_putText 3 none 1 := ⟨fa5 wm_P_40 wn_B_putText ws_B_putText wi_B wc_B_putText, by decide, by decide, by decide +kernel⟩
theorem wc_P_printContent : Cond.code y_P_printContent c_P_printContent 4 none ∈ mt_T := mt_in4 78 (by decide +kernel) rfl
theorem wm_P_49 : Cond.methodLink R_P 49 y_P_printContent ∈ mt_T := mt_in4 75 (by decide +kernel) rfl
theorem wn_P_printContent : Cond.instanceMethod y_P_printContent ∈ mt_T := mt_in4 77 (by decide +kernel) rfl
theorem ws_P_printContent : Cond.selects R_P y_P_printContent y_P_printContent ∈ mt_T := mt_inp 16 (by decide +kernel) rfl
theorem cv_P_49 : cV_ R_P 49 y_P_printContent c_P_printContent 4 none 1 := ⟨fa5 wm_P_49 wn_P_printContent ws_P_printContent wi_P wc_P_printContent, by decide, by decide, by decide +kernel⟩
theorem wc_P_printBase64 : Cond.code y_P_printBase64 c_P_printBase64 5 none ∈ mt_T := mt_in4 82 (by decide +kernel) rfl
theorem wm_P_116 : Cond.methodLink R_P 116 y_P_printBase64 ∈ mt_T := mt_in4 79 (by decide +kernel) rfl
theorem wn_P_printBase64 : Cond.instanceMethod y_P_printBase64 ∈ mt_T := mt_in4 81 (by decide +kernel) rfl
theorem ws_P_printBase64 : Cond.selects R_P y_P_printBase64 y_P_printBase64 ∈ mt_T := mt_inp 17 (by decide +kernel) rfl
theorem cv_P_116 : cV_ R_P 116 y_P_printBase64 c_P_printBase64 5 none 2 := ⟨fa5 wm_P_116 wn_P_printBase64 ws_P_printBase64 wi_P wc_P_printBase64, by decide, by decide, by decide +kernel⟩
theorem wc_P_printThreeBytes : Cond.code y_P_printThreeBytes c_P_printThreeBytes 6 none ∈ mt_T := mt_in4 87 (by decide +kernel) rfl
theorem wm_P_131 : Cond.methodLink R_P 131 y_P_printThreeBytes ∈ mt_T := mt_in4 84 (by decide +kernel) rfl
theorem wn_P_printThreeBytes : Cond.instanceMethod y_P_printThreeBytes ∈ mt_T := mt_in4 86 (by decide +kernel) rfl
theorem ws_P_printThreeBytes : Cond.selects R_P y_P_printThreeBytes y_P_printThreeBytes ∈ mt_T := mt_inp 18 (by decide +kernel) rfl
theorem cv_P_131 : cV_ R_P 131 y_P_printThreeBytes c_P_printThreeBytes 6 none 2 := ⟨fa5 wm_P_131 wn_P_printThreeBytes ws_P_printThreeBytes wi_P wc_P_printThreeBytes, by decide, by decide, by decide +kernel⟩
theorem wm_P_134 : Cond.methodLink R_P 134 y_B_at ∈ mt_T := mt_in4 88 (by decide +kernel) rfl
theorem cv_P_134 : cV_ R_P 134 y_B_at c_B_at 2 (some .int) 1 := ⟨fa5 wm_P_134 wn_B_at ws_B_at wi_B wc_B_at, by decide, by decide, by decide +kernel⟩
theorem wm_P_146 : Cond.methodLink R_P 146 y_B_put ∈ mt_T := mt_in4 91 (by decide +kernel) rfl
theorem cv_P_146 : cV_ R_P 146 y_B_put c_B_put 2 none 1 := ⟨fa5 wm_P_146 wn_B_put ws_B_put wi_B wc_B_put, by decide, by decide, by decide +kernel⟩
theorem wc_P_printQuotedPrintable : Cond.code y_P_printQuotedPrintable c_P_printQuotedPrintable 8 none ∈ mt_T := mt_in4 95 (by decide +kernel) rfl
theorem wm_P_119 : Cond.methodLink R_P 119 y_P_printQuotedPrintable ∈ mt_T := mt_in4 92 (by decide +kernel) rfl
theorem wn_P_printQuotedPrintable : Cond.instanceMethod y_P_printQuotedPrintable ∈ mt_T := mt_in4 94 (by decide +kernel) rfl
theorem ws_P_printQuotedPrintable : Cond.selects R_P y_P_printQuotedPrintable y_P_printQuotedPrintable ∈ mt_T := mt_inp 19 (by decide +kernel) rfl
theorem cv_P_119 : cV_ R_P 119 y_P_printQuotedPrintable c_P_printQuotedPrintable 8 none 2 := ⟨fa5 wm_P_119 wn_P_printQuotedPrintable ws_P_printQuotedPrintable wi_P wc_P_printQuotedPrintable, by decide, by decide, by decide +kernel⟩
theorem wm_P_149 : Cond.methodLink R_P 149 y_B_has ∈ mt_T := mt_in4 96 (by decide +kernel) rfl
theorem cv_P_149 : cV_ R_P 149 y_B_has c_B_has 5 (some .boolean) 3 := ⟨fa5 wm_P_149 wn_B_has ws_B_has wi_B wc_B_has, by decide, by decide, by decide +kernel⟩
theorem wc_P_isPlain : Cond.code y_P_isPlain c_P_isPlain 4 (some .boolean) ∈ mt_T := mt_in4 100 (by decide +kernel) rfl
theorem wm_P_153 : Cond.methodLink R_P 153 y_P_isPlain ∈ mt_T := mt_in4 97 (by decide +kernel) rfl
theorem wn_P_isPlain : Cond.instanceMethod y_P_isPlain ∈ mt_T := mt_in4 99 (by decide +kernel) rfl
theorem ws_P_isPlain : Cond.selects R_P y_P_isPlain y_P_isPlain ∈ mt_T := mt_inp 20 (by decide +kernel) rfl
theorem cv_P_153 : cV_ R_P 153 y_P_isPlain c_P_isPlain 4 (some .boolean) 2 := ⟨fa5 wm_P_153 wn_P_isPlain ws_P_isPlain wi_P wc_P_isPlain, by decide, by decide, by decide +kernel⟩
theorem cv_P_160 : cN_ R_P 160 y_X_isBlank c_X_isBlank 1 (some .boolean) 1 := ⟨fa3 wt_X_isBlank wi_X wc_X_isBlank, ⟨by decide, by decide, by decide +kernel⟩, "MailTree", List.mem_filter.mpr ⟨mt_tb4 (List.mem_of_getElem? (i := 101) (by decide +kernel)), rfl⟩⟩
theorem wc_P_printEscaped : Cond.code y_P_printEscaped c_P_printEscaped 2 none ∈ mt_T := mt_in4 105 (by decide +kernel) rfl
theorem wm_P_157 : Cond.methodLink R_P 157 y_P_printEscaped ∈ mt_T := mt_in4 102 (by decide +kernel) rfl
theorem wn_P_printEscaped : Cond.instanceMethod y_P_printEscaped ∈ mt_T := mt_in4 104 (by decide +kernel) rfl
theorem ws_P_printEscaped : Cond.selects R_P y_P_printEscaped y_P_printEscaped ∈ mt_T := mt_inp 21 (by decide +kernel) rfl
theorem cv_P_157 : cV_ R_P 157 y_P_printEscaped c_P_printEscaped 2 none 1 := ⟨fa5 wm_P_157 wn_P_printEscaped ws_P_printEscaped wi_P wc_P_printEscaped, by decide, by decide, by decide +kernel⟩
theorem wc_P_printMark : Cond.code y_P_printMark c_P_printMark 3 none ∈ mt_T := mt_in4 110 (by decide +kernel) rfl
theorem wm_P_55 : Cond.methodLink R_P 55 y_P_printMark ∈ mt_T := mt_in4 107 (by decide +kernel) rfl
theorem wn_P_printMark : Cond.instanceMethod y_P_printMark ∈ mt_T := mt_in4 109 (by decide +kernel) rfl
theorem ws_P_printMark : Cond.selects R_P y_P_printMark y_P_printMark ∈ mt_T := mt_inp 22 (by decide +kernel) rfl
theorem cv_P_55 : cV_ R_P 55 y_P_printMark c_P_printMark 3 none 2 := ⟨fa5 wm_P_55 wn_P_printMark ws_P_printMark wi_P wc_P_printMark, by decide, by decide, by decide +kernel⟩
theorem wm_P_59 : Cond.methodLink R_P 59 y_P_printEntity ∈ mt_T := mt_in4 112 (by decide +kernel) rfl
theorem cv_P_59 : cV_ R_P 59 y_P_printEntity c_P_printEntity 6 none 2 := ⟨fa5 wm_P_59 wn_P_printEntity ws_P_printEntity wi_P wc_P_printEntity, by decide, by decide, by decide +kernel⟩
theorem wc_M_init : Cond.code y_M_init c_M_init 1 none ∈ mt_T := mt_in4 133 (by decide +kernel) rfl
theorem wi_M : Cond.initialized R_M ∈ mt_T := mt_in1 9 (by decide +kernel) rfl
theorem wm_L_42 : Cond.methodLink R_L 42 y_M_init ∈ mt_T := mt_in4 131 (by decide +kernel) rfl
theorem wc_M_thrown : Cond.code y_M_thrown c_M_thrown 1 (some .int) ∈ mt_T := mt_in4 214 (by decide +kernel) rfl
theorem wm_L_68 : Cond.methodLink R_L 68 y_M_thrown ∈ mt_T := mt_in4 211 (by decide +kernel) rfl
theorem wn_M_thrown : Cond.instanceMethod y_M_thrown ∈ mt_T := mt_in4 212 (by decide +kernel) rfl
theorem ws_M_thrown : Cond.selects R_M y_M_thrown y_M_thrown ∈ mt_T := mt_in4 213 (by decide +kernel) rfl
theorem cv_L_68 : cV_ R_L 68 y_M_thrown c_M_thrown 1 (some .int) 0 := ⟨fa5 wm_L_68 wn_M_thrown ws_M_thrown wi_M wc_M_thrown, by decide, by decide, by decide +kernel⟩
theorem wc_M_feed : Cond.code y_M_feed c_M_feed 5 (some .boolean) ∈ mt_T := mt_in4 218 (by decide +kernel) rfl
theorem wm_L_49 : Cond.methodLink R_L 49 y_M_feed ∈ mt_T := mt_in4 215 (by decide +kernel) rfl
theorem wn_M_feed : Cond.instanceMethod y_M_feed ∈ mt_T := mt_in4 216 (by decide +kernel) rfl
theorem ws_M_feed : Cond.selects R_M y_M_feed y_M_feed ∈ mt_T := mt_in4 217 (by decide +kernel) rfl
theorem cv_L_49 : cV_ R_L 49 y_M_feed c_M_feed 5 (some .boolean) 2 := ⟨fa5 wm_L_49 wn_M_feed ws_M_feed wi_M wc_M_feed, by decide, by decide, by decide +kernel⟩
theorem wc_M_clear : Cond.code y_M_clear c_M_clear 2 (some .int) ∈ mt_T := mt_in4 223 (by decide +kernel) rfl
theorem wm_L_53 : Cond.methodLink R_L 53 y_M_clear ∈ mt_T := mt_in4 220 (by decide +kernel) rfl
theorem wn_M_clear : Cond.instanceMethod y_M_clear ∈ mt_T := mt_in4 221 (by decide +kernel) rfl
theorem ws_M_clear : Cond.selects R_M y_M_clear y_M_clear ∈ mt_T := mt_in4 222 (by decide +kernel) rfl
theorem cv_L_53 : cV_ R_L 53 y_M_clear c_M_clear 2 (some .int) 0 := ⟨fa5 wm_L_53 wn_M_clear ws_M_clear wi_M wc_M_clear, by decide, by decide, by decide +kernel⟩
theorem wc_M_read : Cond.code y_M_read c_M_read 2 (some .int) ∈ mt_T := mt_in4 227 (by decide +kernel) rfl
theorem wm_L_57 : Cond.methodLink R_L 57 y_M_read ∈ mt_T := mt_in4 224 (by decide +kernel) rfl
theorem wn_M_read : Cond.instanceMethod y_M_read ∈ mt_T := mt_in4 225 (by decide +kernel) rfl
theorem ws_M_read : Cond.selects R_M y_M_read y_M_read ∈ mt_T := mt_in4 226 (by decide +kernel) rfl
theorem cv_L_57 : cV_ R_L 57 y_M_read c_M_read 2 (some .int) 0 := ⟨fa5 wm_L_57 wn_M_read ws_M_read wi_M wc_M_read, by decide, by decide, by decide +kernel⟩
theorem wc_M_lay : Cond.code y_M_lay c_M_lay 5 none ∈ mt_T := mt_in4 231 (by decide +kernel) rfl
theorem wm_M_211 : Cond.methodLink R_M 211 y_M_lay ∈ mt_T := mt_in4 228 (by decide +kernel) rfl
theorem wn_M_lay : Cond.instanceMethod y_M_lay ∈ mt_T := mt_in4 230 (by decide +kernel) rfl
theorem ws_M_lay : Cond.selects R_M y_M_lay y_M_lay ∈ mt_T := mt_inp 23 (by decide +kernel) rfl
theorem cv_M_211 : cV_ R_M 211 y_M_lay c_M_lay 5 none 4 := ⟨fa5 wm_M_211 wn_M_lay ws_M_lay wi_M wc_M_lay, by decide, by decide, by decide +kernel⟩
theorem wc_M_takeEntity : Cond.code y_M_takeEntity c_M_takeEntity 8 none ∈ mt_T := mt_in4 235 (by decide +kernel) rfl
theorem wm_M_221 : Cond.methodLink R_M 221 y_M_takeEntity ∈ mt_T := mt_in4 232 (by decide +kernel) rfl
theorem wn_M_takeEntity : Cond.instanceMethod y_M_takeEntity ∈ mt_T := mt_in4 234 (by decide +kernel) rfl
theorem ws_M_takeEntity : Cond.selects R_M y_M_takeEntity y_M_takeEntity ∈ mt_T := mt_inp 24 (by decide +kernel) rfl
theorem cv_M_221 : cV_ R_M 221 y_M_takeEntity c_M_takeEntity 8 none 0 := ⟨fa5 wm_M_221 wn_M_takeEntity ws_M_takeEntity wi_M wc_M_takeEntity, by decide, by decide, by decide +kernel⟩
theorem wc_M_set : Cond.code y_M_set c_M_set 4 none ∈ mt_T := mt_in4 239 (by decide +kernel) rfl
theorem wm_M_70 : Cond.methodLink R_M 70 y_M_set ∈ mt_T := mt_in4 236 (by decide +kernel) rfl
theorem wn_M_set : Cond.instanceMethod y_M_set ∈ mt_T := mt_in4 238 (by decide +kernel) rfl
theorem ws_M_set : Cond.selects R_M y_M_set y_M_set ∈ mt_T := mt_inp 25 (by decide +kernel) rfl
theorem cv_M_70 : cV_ R_M 70 y_M_set c_M_set 4 none 3 := ⟨fa5 wm_M_70 wn_M_set ws_M_set wi_M wc_M_set, by decide, by decide, by decide +kernel⟩
theorem wc_M_of : Cond.code y_M_of c_M_of 3 (some .int) ∈ mt_T := mt_in5 3 (by decide +kernel) rfl
theorem wm_M_59 : Cond.methodLink R_M 59 y_M_of ∈ mt_T := mt_in5 0 (by decide +kernel) rfl
theorem wn_M_of : Cond.instanceMethod y_M_of ∈ mt_T := mt_in5 2 (by decide +kernel) rfl
theorem ws_M_of : Cond.selects R_M y_M_of y_M_of ∈ mt_T := mt_inp 26 (by decide +kernel) rfl
theorem cv_M_59 : cV_ R_M 59 y_M_of c_M_of 3 (some .int) 2 := ⟨fa5 wm_M_59 wn_M_of ws_M_of wi_M wc_M_of, by decide, by decide, by decide +kernel⟩
theorem wc_M_fields : Cond.code y_M_fields c_M_fields 8 (some .int) ∈ mt_T := mt_in5 7 (by decide +kernel) rfl
theorem wm_M_199 : Cond.methodLink R_M 199 y_M_fields ∈ mt_T := mt_in5 4 (by decide +kernel) rfl
theorem wn_M_fields : Cond.instanceMethod y_M_fields ∈ mt_T := mt_in5 6 (by decide +kernel) rfl
theorem ws_M_fields : Cond.selects R_M y_M_fields y_M_fields ∈ mt_T := mt_inp 27 (by decide +kernel) rfl
theorem cv_M_199 : cV_ R_M 199 y_M_fields c_M_fields 8 (some .int) 3 := ⟨fa5 wm_M_199 wn_M_fields ws_M_fields wi_M wc_M_fields, by decide, by decide, by decide +kernel⟩
theorem wc_M_textEnd : Cond.code y_M_textEnd c_M_textEnd 4 (some .int) ∈ mt_T := mt_in5 11 (by decide +kernel) rfl
theorem wm_M_74 : Cond.methodLink R_M 74 y_M_textEnd ∈ mt_T := mt_in5 8 (by decide +kernel) rfl
theorem wn_M_textEnd : Cond.instanceMethod y_M_textEnd ∈ mt_T := mt_in5 10 (by decide +kernel) rfl
theorem ws_M_textEnd : Cond.selects R_M y_M_textEnd y_M_textEnd ∈ mt_T := mt_inp 28 (by decide +kernel) rfl
theorem cv_M_74 : cV_ R_M 74 y_M_textEnd c_M_textEnd 4 (some .int) 2 := ⟨fa5 wm_M_74 wn_M_textEnd ws_M_textEnd wi_M wc_M_textEnd, by decide, by decide, by decide +kernel⟩
theorem wc_M_lineEnd : Cond.code y_M_lineEnd c_M_lineEnd 4 (some .int) ∈ mt_T := mt_in5 15 (by decide +kernel) rfl
theorem wm_M_52 : Cond.methodLink R_M 52 y_M_lineEnd ∈ mt_T := mt_in5 12 (by decide +kernel) rfl
theorem wn_M_lineEnd : Cond.instanceMethod y_M_lineEnd ∈ mt_T := mt_in5 14 (by decide +kernel) rfl
theorem ws_M_lineEnd : Cond.selects R_M y_M_lineEnd y_M_lineEnd ∈ mt_T := mt_inp 29 (by decide +kernel) rfl
theorem cv_M_52 : cV_ R_M 52 y_M_lineEnd c_M_lineEnd 4 (some .int) 2 := ⟨fa5 wm_M_52 wn_M_lineEnd ws_M_lineEnd wi_M wc_M_lineEnd, by decide, by decide, by decide +kernel⟩
theorem wc_M_trims : Cond.code y_M_trims c_M_trims 6 none ∈ mt_T := mt_in5 19 (by decide +kernel) rfl
theorem wm_M_77 : Cond.methodLink R_M 77 y_M_trims ∈ mt_T := mt_in5 16 (by decide +kernel) rfl
theorem wn_M_trims : Cond.instanceMethod y_M_trims ∈ mt_T := mt_in5 18 (by decide +kernel) rfl
theorem ws_M_trims : Cond.selects R_M y_M_trims y_M_trims ∈ mt_T := mt_inp 30 (by decide +kernel) rfl
theorem cv_M_77 : cV_ R_M 77 y_M_trims c_M_trims 6 none 1 := ⟨fa5 wm_M_77 wn_M_trims ws_M_trims wi_M wc_M_trims, by decide, by decide, by decide +kernel⟩
theorem wc_M_isBlank : Cond.code y_M_isBlank c_M_isBlank 1 (some .boolean) ∈ mt_T := mt_in5 22 (by decide +kernel) rfl
theorem wm_M_62 : Cond.methodLink R_M 62 y_M_isBlank ∈ mt_T := mt_in5 20 (by decide +kernel) rfl
theorem wt_M_isBlank : Cond.static y_M_isBlank ∈ mt_T := mt_in5 21 (by decide +kernel) rfl
theorem cv_M_62 : cS_ R_M 62 y_M_isBlank c_M_isBlank 1 (some .boolean) 1 := ⟨fa4 wm_M_62 wt_M_isBlank wi_M wc_M_isBlank, rfl, by decide, by decide, by decide +kernel⟩
theorem wc_M_nameSize : Cond.code y_M_nameSize c_M_nameSize 4 (some .int) ∈ mt_T := mt_in5 26 (by decide +kernel) rfl
theorem wm_M_80 : Cond.methodLink R_M 80 y_M_nameSize ∈ mt_T := mt_in5 23 (by decide +kernel) rfl
theorem wn_M_nameSize : Cond.instanceMethod y_M_nameSize ∈ mt_T := mt_in5 25 (by decide +kernel) rfl
theorem ws_M_nameSize : Cond.selects R_M y_M_nameSize y_M_nameSize ∈ mt_T := mt_inp 31 (by decide +kernel) rfl
theorem cv_M_80 : cV_ R_M 80 y_M_nameSize c_M_nameSize 4 (some .int) 2 := ⟨fa5 wm_M_80 wn_M_nameSize ws_M_nameSize wi_M wc_M_nameSize, by decide, by decide, by decide +kernel⟩
theorem wc_M_begins : Cond.code y_M_begins c_M_begins 7 none ∈ mt_T := mt_in5 30 (by decide +kernel) rfl
theorem wm_M_83 : Cond.methodLink R_M 83 y_M_begins ∈ mt_T := mt_in5 27 (by decide +kernel) rfl
theorem wn_M_begins : Cond.instanceMethod y_M_begins ∈ mt_T := mt_in5 29 (by decide +kernel) rfl
theorem ws_M_begins : Cond.selects R_M y_M_begins y_M_begins ∈ mt_T := mt_inp 32 (by decide +kernel) rfl
theorem cv_M_83 : cV_ R_M 83 y_M_begins c_M_begins 7 none 4 := ⟨fa5 wm_M_83 wn_M_begins ws_M_begins wi_M wc_M_begins, by decide, by decide, by decide +kernel⟩
theorem wc_M_keep : Cond.code y_M_keep c_M_keep 2 none ∈ mt_T := mt_in5 34 (by decide +kernel) rfl
theorem wm_M_66 : Cond.methodLink R_M 66 y_M_keep ∈ mt_T := mt_in5 31 (by decide +kernel) rfl
theorem wn_M_keep : Cond.instanceMethod y_M_keep ∈ mt_T := mt_in5 33 (by decide +kernel) rfl
theorem ws_M_keep : Cond.selects R_M y_M_keep y_M_keep ∈ mt_T := mt_inp 33 (by decide +kernel) rfl
theorem cv_M_66 : cV_ R_M 66 y_M_keep c_M_keep 2 none 1 := ⟨fa5 wm_M_66 wn_M_keep ws_M_keep wi_M wc_M_keep, by decide, by decide, by decide +kernel⟩
theorem wc_M_encoding : Cond.code y_M_encoding c_M_encoding 5 (some .int) ∈ mt_T := mt_in5 38 (by decide +kernel) rfl
theorem wm_M_202 : Cond.methodLink R_M 202 y_M_encoding ∈ mt_T := mt_in5 35 (by decide +kernel) rfl
theorem wn_M_encoding : Cond.instanceMethod y_M_encoding ∈ mt_T := mt_in5 37 (by decide +kernel) rfl
theorem ws_M_encoding : Cond.selects R_M y_M_encoding y_M_encoding ∈ mt_T := mt_inp 34 (by decide +kernel) rfl
theorem cv_M_202 : cV_ R_M 202 y_M_encoding c_M_encoding 5 (some .int) 1 := ⟨fa5 wm_M_202 wn_M_encoding ws_M_encoding wi_M wc_M_encoding, by decide, by decide, by decide +kernel⟩
theorem wc_M_firstField : Cond.code y_M_firstField c_M_firstField 9 (some .int) ∈ mt_T := mt_in5 45 (by decide +kernel) rfl
theorem wm_M_129 : Cond.methodLink R_M 129 y_M_firstField ∈ mt_T := mt_in5 42 (by decide +kernel) rfl
theorem wn_M_firstField : Cond.instanceMethod y_M_firstField ∈ mt_T := mt_in5 44 (by decide +kernel) rfl
theorem ws_M_firstField : Cond.selects R_M y_M_firstField y_M_firstField ∈ mt_T := mt_inp 35 (by decide +kernel) rfl
theorem cv_M_129 : cV_ R_M 129 y_M_firstField c_M_firstField 9 (some .int) 4 := ⟨fa5 wm_M_129 wn_M_firstField ws_M_firstField wi_M wc_M_firstField, by decide, by decide, by decide +kernel⟩
theorem wc_M_fieldOf : Cond.code y_M_fieldOf c_M_fieldOf 4 (some .int) ∈ mt_T := mt_in5 49 (by decide +kernel) rfl
theorem wm_M_115 : Cond.methodLink R_M 115 y_M_fieldOf ∈ mt_T := mt_in5 46 (by decide +kernel) rfl
theorem wn_M_fieldOf : Cond.instanceMethod y_M_fieldOf ∈ mt_T := mt_in5 48 (by decide +kernel) rfl
theorem ws_M_fieldOf : Cond.selects R_M y_M_fieldOf y_M_fieldOf ∈ mt_T := mt_inp 36 (by decide +kernel) rfl
theorem cv_M_115 : cV_ R_M 115 y_M_fieldOf c_M_fieldOf 4 (some .int) 3 := ⟨fa5 wm_M_115 wn_M_fieldOf ws_M_fieldOf wi_M wc_M_fieldOf, by decide, by decide, by decide +kernel⟩
theorem wc_M_isWord : Cond.code y_M_isWord c_M_isWord 15 (some .boolean) ∈ mt_T := mt_in5 53 (by decide +kernel) rfl
theorem wm_M_119 : Cond.methodLink R_M 119 y_M_isWord ∈ mt_T := mt_in5 50 (by decide +kernel) rfl
theorem wn_M_isWord : Cond.instanceMethod y_M_isWord ∈ mt_T := mt_in5 52 (by decide +kernel) rfl
theorem ws_M_isWord : Cond.selects R_M y_M_isWord y_M_isWord ∈ mt_T := mt_inp 37 (by decide +kernel) rfl
theorem cv_M_119 : cV_ R_M 119 y_M_isWord c_M_isWord 15 (some .boolean) 5 := ⟨fa5 wm_M_119 wn_M_isWord ws_M_isWord wi_M wc_M_isWord, by decide, by decide, by decide +kernel⟩
theorem wc_M_small : Cond.code y_M_small c_M_small 1 (some .int) ∈ mt_T := mt_in5 57 (by decide +kernel) rfl
theorem wm_M_89 : Cond.methodLink R_M 89 y_M_small ∈ mt_T := mt_in5 55 (by decide +kernel) rfl
theorem wt_M_small : Cond.static y_M_small ∈ mt_T := mt_in5 56 (by decide +kernel) rfl
theorem cv_M_89 : cS_ R_M 89 y_M_small c_M_small 1 (some .int) 1 := ⟨fa4 wm_M_89 wt_M_small wi_M wc_M_small, rfl, by decide, by decide, by decide +kernel⟩
theorem wc_M_enter : Cond.code y_M_enter c_M_enter 3 none ∈ mt_T := mt_in5 61 (by decide +kernel) rfl
theorem wm_M_133 : Cond.methodLink R_M 133 y_M_enter ∈ mt_T := mt_in5 58 (by decide +kernel) rfl
theorem wn_M_enter : Cond.instanceMethod y_M_enter ∈ mt_T := mt_in5 60 (by decide +kernel) rfl
theorem ws_M_enter : Cond.selects R_M y_M_enter y_M_enter ∈ mt_T := mt_inp 38 (by decide +kernel) rfl
theorem cv_M_133 : cV_ R_M 133 y_M_enter c_M_enter 3 none 2 := ⟨fa5 wm_M_133 wn_M_enter ws_M_enter wi_M wc_M_enter, by decide, by decide, by decide +kernel⟩
theorem wc_M_space : Cond.code y_M_space c_M_space 2 none ∈ mt_T := mt_in5 65 (by decide +kernel) rfl
theorem wm_M_137 : Cond.methodLink R_M 137 y_M_space ∈ mt_T := mt_in5 62 (by decide +kernel) rfl
theorem wn_M_space : Cond.instanceMethod y_M_space ∈ mt_T := mt_in5 64 (by decide +kernel) rfl
theorem ws_M_space : Cond.selects R_M y_M_space y_M_space ∈ mt_T := mt_inp 39 (by decide +kernel) rfl
theorem cv_M_137 : cV_ R_M 137 y_M_space c_M_space 2 none 0 := ⟨fa5 wm_M_137 wn_M_space ws_M_space wi_M wc_M_space, by decide, by decide, by decide +kernel⟩
theorem wc_M_now : Cond.code y_M_now c_M_now 1 (some .int) ∈ mt_T := mt_in5 69 (by decide +kernel) rfl
theorem wm_M_99 : Cond.methodLink R_M 99 y_M_now ∈ mt_T := mt_in5 66 (by decide +kernel) rfl
theorem wn_M_now : Cond.instanceMethod y_M_now ∈ mt_T := mt_in5 68 (by decide +kernel) rfl
theorem ws_M_now : Cond.selects R_M y_M_now y_M_now ∈ mt_T := mt_inp 40 (by decide +kernel) rfl
theorem cv_M_99 : cV_ R_M 99 y_M_now c_M_now 1 (some .int) 0 := ⟨fa5 wm_M_99 wn_M_now ws_M_now wi_M wc_M_now, by decide, by decide, by decide +kernel⟩
theorem wc_M_comment : Cond.code y_M_comment c_M_comment 3 none ∈ mt_T := mt_in5 73 (by decide +kernel) rfl
theorem wm_M_103 : Cond.methodLink R_M 103 y_M_comment ∈ mt_T := mt_in5 70 (by decide +kernel) rfl
theorem wn_M_comment : Cond.instanceMethod y_M_comment ∈ mt_T := mt_in5 72 (by decide +kernel) rfl
theorem ws_M_comment : Cond.selects R_M y_M_comment y_M_comment ∈ mt_T := mt_inp 41 (by decide +kernel) rfl
theorem cv_M_103 : cV_ R_M 103 y_M_comment c_M_comment 3 none 0 := ⟨fa5 wm_M_103 wn_M_comment ws_M_comment wi_M wc_M_comment, by decide, by decide, by decide +kernel⟩
theorem wc_M_atom : Cond.code y_M_atom c_M_atom 1 (some .boolean) ∈ mt_T := mt_in5 77 (by decide +kernel) rfl
theorem wm_M_140 : Cond.methodLink R_M 140 y_M_atom ∈ mt_T := mt_in5 74 (by decide +kernel) rfl
theorem wn_M_atom : Cond.instanceMethod y_M_atom ∈ mt_T := mt_in5 76 (by decide +kernel) rfl
theorem ws_M_atom : Cond.selects R_M y_M_atom y_M_atom ∈ mt_T := mt_inp 42 (by decide +kernel) rfl
theorem cv_M_140 : cV_ R_M 140 y_M_atom c_M_atom 1 (some .boolean) 0 := ⟨fa5 wm_M_140 wn_M_atom ws_M_atom wi_M wc_M_atom, by decide, by decide, by decide +kernel⟩
theorem wc_M_isAtom : Cond.code y_M_isAtom c_M_isAtom 1 (some .boolean) ∈ mt_T := mt_in5 80 (by decide +kernel) rfl
theorem wm_M_109 : Cond.methodLink R_M 109 y_M_isAtom ∈ mt_T := mt_in5 78 (by decide +kernel) rfl
theorem wt_M_isAtom : Cond.static y_M_isAtom ∈ mt_T := mt_in5 79 (by decide +kernel) rfl
theorem cv_M_109 : cS_ R_M 109 y_M_isAtom c_M_isAtom 1 (some .boolean) 1 := ⟨fa4 wm_M_109 wt_M_isAtom wi_M wc_M_isAtom, rfl, by decide, by decide, by decide +kernel⟩
theorem wc_M_kind : Cond.code y_M_kind c_M_kind 8 (some .int) ∈ mt_T := mt_in5 87 (by decide +kernel) rfl
theorem wm_M_205 : Cond.methodLink R_M 205 y_M_kind ∈ mt_T := mt_in5 84 (by decide +kernel) rfl
theorem wn_M_kind : Cond.instanceMethod y_M_kind ∈ mt_T := mt_in5 86 (by decide +kernel) rfl
theorem ws_M_kind : Cond.selects R_M y_M_kind y_M_kind ∈ mt_T := mt_inp 43 (by decide +kernel) rfl
theorem cv_M_205 : cV_ R_M 205 y_M_kind c_M_kind 8 (some .int) 1 := ⟨fa5 wm_M_205 wn_M_kind ws_M_kind wi_M wc_M_kind, by decide, by decide, by decide +kernel⟩
theorem wc_M_takes : Cond.code y_M_takes c_M_takes 2 (some .boolean) ∈ mt_T := mt_in5 92 (by decide +kernel) rfl
theorem wm_M_150 : Cond.methodLink R_M 150 y_M_takes ∈ mt_T := mt_in5 89 (by decide +kernel) rfl
theorem wn_M_takes : Cond.instanceMethod y_M_takes ∈ mt_T := mt_in5 91 (by decide +kernel) rfl
theorem ws_M_takes : Cond.selects R_M y_M_takes y_M_takes ∈ mt_T := mt_inp 44 (by decide +kernel) rfl
theorem cv_M_150 : cV_ R_M 150 y_M_takes c_M_takes 2 (some .boolean) 1 := ⟨fa5 wm_M_150 wn_M_takes ws_M_takes wi_M wc_M_takes, by decide, by decide, by decide +kernel⟩
theorem wc_M_parameter : Cond.code y_M_parameter c_M_parameter 4 (some .int) ∈ mt_T := mt_in5 99 (by decide +kernel) rfl
theorem wm_M_166 : Cond.methodLink R_M 166 y_M_parameter ∈ mt_T := mt_in5 96 (by decide +kernel) rfl
theorem wn_M_parameter : Cond.instanceMethod y_M_parameter ∈ mt_T := mt_in5 98 (by decide +kernel) rfl
theorem ws_M_parameter : Cond.selects R_M y_M_parameter y_M_parameter ∈ mt_T := mt_inp 45 (by decide +kernel) rfl
theorem cv_M_166 : cV_ R_M 166 y_M_parameter c_M_parameter 4 (some .int) 0 := ⟨fa5 wm_M_166 wn_M_parameter ws_M_parameter wi_M wc_M_parameter, by decide, by decide, by decide +kernel⟩
theorem wc_M_quoted : Cond.code y_M_quoted c_M_quoted 1 (some .boolean) ∈ mt_T := mt_in5 104 (by decide +kernel) rfl
theorem wm_M_155 : Cond.methodLink R_M 155 y_M_quoted ∈ mt_T := mt_in5 101 (by decide +kernel) rfl
theorem wn_M_quoted : Cond.instanceMethod y_M_quoted ∈ mt_T := mt_in5 103 (by decide +kernel) rfl
theorem ws_M_quoted : Cond.selects R_M y_M_quoted y_M_quoted ∈ mt_T := mt_inp 46 (by decide +kernel) rfl
theorem cv_M_155 : cV_ R_M 155 y_M_quoted c_M_quoted 1 (some .boolean) 0 := ⟨fa5 wm_M_155 wn_M_quoted ws_M_quoted wi_M wc_M_quoted, by decide, by decide, by decide +kernel⟩
theorem wc_M_isBoundary : Cond.code y_M_isBoundary c_M_isBoundary 3 (some .boolean) ∈ mt_T := mt_in5 108 (by decide +kernel) rfl
theorem wm_M_169 : Cond.methodLink R_M 169 y_M_isBoundary ∈ mt_T := mt_in5 105 (by decide +kernel) rfl
theorem wn_M_isBoundary : Cond.instanceMethod y_M_isBoundary ∈ mt_T := mt_in5 107 (by decide +kernel) rfl
theorem ws_M_isBoundary : Cond.selects R_M y_M_isBoundary y_M_isBoundary ∈ mt_T := mt_inp 47 (by decide +kernel) rfl
theorem cv_M_169 : cV_ R_M 169 y_M_isBoundary c_M_isBoundary 3 (some .boolean) 0 := ⟨fa5 wm_M_169 wn_M_isBoundary ws_M_isBoundary wi_M wc_M_isBoundary, by decide, by decide, by decide +kernel⟩
theorem wc_M_contents : Cond.code y_M_contents c_M_contents 5 none ∈ mt_T := mt_in5 112 (by decide +kernel) rfl
theorem wm_M_208 : Cond.methodLink R_M 208 y_M_contents ∈ mt_T := mt_in5 109 (by decide +kernel) rfl
theorem wn_M_contents : Cond.instanceMethod y_M_contents ∈ mt_T := mt_in5 111 (by decide +kernel) rfl
theorem ws_M_contents : Cond.selects R_M y_M_contents y_M_contents ∈ mt_T := mt_inp 48 (by decide +kernel) rfl
theorem cv_M_208 : cV_ R_M 208 y_M_contents c_M_contents 5 none 1 := ⟨fa5 wm_M_208 wn_M_contents ws_M_contents wi_M wc_M_contents, by decide, by decide, by decide +kernel⟩
theorem wc_M_fromLetters : Cond.code y_M_fromLetters c_M_fromLetters 7 none ∈ mt_T := mt_in5 116 (by decide +kernel) rfl
theorem wm_M_190 : Cond.methodLink R_M 190 y_M_fromLetters ∈ mt_T := mt_in5 113 (by decide +kernel) rfl
theorem wn_M_fromLetters : Cond.instanceMethod y_M_fromLetters ∈ mt_T := mt_in5 115 (by decide +kernel) rfl
theorem ws_M_fromLetters : Cond.selects R_M y_M_fromLetters y_M_fromLetters ∈ mt_T := mt_inp 49 (by decide +kernel) rfl
theorem cv_M_190 : cV_ R_M 190 y_M_fromLetters c_M_fromLetters 7 none 2 := ⟨fa5 wm_M_190 wn_M_fromLetters ws_M_fromLetters wi_M wc_M_fromLetters, by decide, by decide, by decide +kernel⟩
theorem wc_M_letter1 : Cond.code y_M_letter1 c_M_letter1 1 (some .int) ∈ mt_T := mt_in5 119 (by decide +kernel) rfl
theorem wm_M_178 : Cond.methodLink R_M 178 y_M_letter1 ∈ mt_T := mt_in5 117 (by decide +kernel) rfl
theorem wt_M_letter1 : Cond.static y_M_letter1 ∈ mt_T := mt_in5 118 (by decide +kernel) rfl
theorem cv_M_178 : cS_ R_M 178 y_M_letter1 c_M_letter1 1 (some .int) 1 := ⟨fa4 wm_M_178 wt_M_letter1 wi_M wc_M_letter1, rfl, by decide, by decide, by decide +kernel⟩
theorem wc_M_fromQuoted : Cond.code y_M_fromQuoted c_M_fromQuoted 7 none ∈ mt_T := mt_in5 123 (by decide +kernel) rfl
theorem wm_M_193 : Cond.methodLink R_M 193 y_M_fromQuoted ∈ mt_T := mt_in5 120 (by decide +kernel) rfl
theorem wn_M_fromQuoted : Cond.instanceMethod y_M_fromQuoted ∈ mt_T := mt_in5 122 (by decide +kernel) rfl
theorem ws_M_fromQuoted : Cond.selects R_M y_M_fromQuoted y_M_fromQuoted ∈ mt_T := mt_inp 50 (by decide +kernel) rfl
theorem cv_M_193 : cV_ R_M 193 y_M_fromQuoted c_M_fromQuoted 7 none 2 := ⟨fa5 wm_M_193 wn_M_fromQuoted ws_M_fromQuoted wi_M wc_M_fromQuoted, by decide, by decide, by decide +kernel⟩
theorem wc_M_behindBlanks : Cond.code y_M_behindBlanks c_M_behindBlanks 4 (some .int) ∈ mt_T := mt_in5 127 (by decide +kernel) rfl
theorem wm_M_181 : Cond.methodLink R_M 181 y_M_behindBlanks ∈ mt_T := mt_in5 124 (by decide +kernel) rfl
theorem wn_M_behindBlanks : Cond.instanceMethod y_M_behindBlanks ∈ mt_T := mt_in5 126 (by decide +kernel) rfl
theorem ws_M_behindBlanks : Cond.selects R_M y_M_behindBlanks y_M_behindBlanks ∈ mt_T := mt_inp 51 (by decide +kernel) rfl
theorem cv_M_181 : cV_ R_M 181 y_M_behindBlanks c_M_behindBlanks 4 (some .int) 2 := ⟨fa5 wm_M_181 wn_M_behindBlanks ws_M_behindBlanks wi_M wc_M_behindBlanks, by decide, by decide, by decide +kernel⟩
theorem wc_M_lineBreak : Cond.code y_M_lineBreak c_M_lineBreak 3 (some .int) ∈ mt_T := mt_in5 131 (by decide +kernel) rfl
theorem wm_M_184 : Cond.methodLink R_M 184 y_M_lineBreak ∈ mt_T := mt_in5 128 (by decide +kernel) rfl
theorem wn_M_lineBreak : Cond.instanceMethod y_M_lineBreak ∈ mt_T := mt_in5 130 (by decide +kernel) rfl
theorem ws_M_lineBreak : Cond.selects R_M y_M_lineBreak y_M_lineBreak ∈ mt_T := mt_inp 52 (by decide +kernel) rfl
theorem cv_M_184 : cV_ R_M 184 y_M_lineBreak c_M_lineBreak 3 (some .int) 2 := ⟨fa5 wm_M_184 wn_M_lineBreak ws_M_lineBreak wi_M wc_M_lineBreak, by decide, by decide, by decide +kernel⟩
theorem wc_M_hex : Cond.code y_M_hex c_M_hex 1 (some .int) ∈ mt_T := mt_in5 134 (by decide +kernel) rfl
theorem wm_M_187 : Cond.methodLink R_M 187 y_M_hex ∈ mt_T := mt_in5 132 (by decide +kernel) rfl
theorem wt_M_hex : Cond.static y_M_hex ∈ mt_T := mt_in5 133 (by decide +kernel) rfl
theorem cv_M_187 : cS_ R_M 187 y_M_hex c_M_hex 1 (some .int) 1 := ⟨fa4 wm_M_187 wt_M_hex wi_M wc_M_hex, rfl, by decide, by decide, by decide +kernel⟩
theorem wc_M_parts : Cond.code y_M_parts c_M_parts 10 (some .int) ∈ mt_T := mt_in5 138 (by decide +kernel) rfl
theorem wm_M_214 : Cond.methodLink R_M 214 y_M_parts ∈ mt_T := mt_in5 135 (by decide +kernel) rfl
theorem wn_M_parts : Cond.instanceMethod y_M_parts ∈ mt_T := mt_in5 137 (by decide +kernel) rfl
theorem ws_M_parts : Cond.selects R_M y_M_parts y_M_parts ∈ mt_T := mt_inp 53 (by decide +kernel) rfl
theorem cv_M_214 : cV_ R_M 214 y_M_parts c_M_parts 10 (some .int) 1 := ⟨fa5 wm_M_214 wn_M_parts ws_M_parts wi_M wc_M_parts, by decide, by decide, by decide +kernel⟩
theorem wc_M_delimiter : Cond.code y_M_delimiter c_M_delimiter 7 (some .int) ∈ mt_T := mt_in5 142 (by decide +kernel) rfl
theorem wm_M_172 : Cond.methodLink R_M 172 y_M_delimiter ∈ mt_T := mt_in5 139 (by decide +kernel) rfl
theorem wn_M_delimiter : Cond.instanceMethod y_M_delimiter ∈ mt_T := mt_in5 141 (by decide +kernel) rfl
theorem ws_M_delimiter : Cond.selects R_M y_M_delimiter y_M_delimiter ∈ mt_T := mt_inp 54 (by decide +kernel) rfl
theorem cv_M_172 : cV_ R_M 172 y_M_delimiter c_M_delimiter 7 (some .int) 3 := ⟨fa5 wm_M_172 wn_M_delimiter ws_M_delimiter wi_M wc_M_delimiter, by decide, by decide, by decide +kernel⟩
theorem wc_M_entities : Cond.code y_M_entities c_M_entities 1 (some .int) ∈ mt_T := mt_in5 146 (by decide +kernel) rfl
theorem wm_L_61 : Cond.methodLink R_L 61 y_M_entities ∈ mt_T := mt_in5 143 (by decide +kernel) rfl
theorem wn_M_entities : Cond.instanceMethod y_M_entities ∈ mt_T := mt_in5 144 (by decide +kernel) rfl
theorem ws_M_entities : Cond.selects R_M y_M_entities y_M_entities ∈ mt_T := mt_in5 145 (by decide +kernel) rfl
theorem cv_L_61 : cV_ R_L 61 y_M_entities c_M_entities 1 (some .int) 0 := ⟨fa5 wm_L_61 wn_M_entities ws_M_entities wi_M wc_M_entities, by decide, by decide, by decide +kernel⟩
theorem wc_M_look : Cond.code y_M_look c_M_look 4 (some .int) ∈ mt_T := mt_in5 150 (by decide +kernel) rfl
theorem wm_L_67 : Cond.methodLink R_L 67 y_M_look ∈ mt_T := mt_in5 147 (by decide +kernel) rfl
theorem wn_M_look : Cond.instanceMethod y_M_look ∈ mt_T := mt_in5 148 (by decide +kernel) rfl
theorem ws_M_look : Cond.selects R_M y_M_look y_M_look ∈ mt_T := mt_in5 149 (by decide +kernel) rfl
theorem cv_L_67 : cV_ R_L 67 y_M_look c_M_look 4 (some .int) 2 := ⟨fa5 wm_L_67 wn_M_look ws_M_look wi_M wc_M_look, by decide, by decide, by decide +kernel⟩
theorem wc_M_isEntity : Cond.code y_M_isEntity c_M_isEntity 2 (some .boolean) ∈ mt_T := mt_in5 154 (by decide +kernel) rfl
theorem wm_M_224 : Cond.methodLink R_M 224 y_M_isEntity ∈ mt_T := mt_in5 151 (by decide +kernel) rfl
theorem wn_M_isEntity : Cond.instanceMethod y_M_isEntity ∈ mt_T := mt_in5 153 (by decide +kernel) rfl
theorem ws_M_isEntity : Cond.selects R_M y_M_isEntity y_M_isEntity ∈ mt_T := mt_inp 55 (by decide +kernel) rfl
theorem cv_M_224 : cV_ R_M 224 y_M_isEntity c_M_isEntity 2 (some .boolean) 1 := ⟨fa5 wm_M_224 wn_M_isEntity ws_M_isEntity wi_M wc_M_isEntity, by decide, by decide, by decide +kernel⟩
theorem wc_M_fails : Cond.code y_M_fails c_M_fails 3 (some .boolean) ∈ mt_T := mt_in5 158 (by decide +kernel) rfl
theorem wm_M_227 : Cond.methodLink R_M 227 y_M_fails ∈ mt_T := mt_in5 155 (by decide +kernel) rfl
theorem wn_M_fails : Cond.instanceMethod y_M_fails ∈ mt_T := mt_in5 157 (by decide +kernel) rfl
theorem ws_M_fails : Cond.selects R_M y_M_fails y_M_fails ∈ mt_T := mt_inp 56 (by decide +kernel) rfl
theorem cv_M_227 : cV_ R_M 227 y_M_fails c_M_fails 3 (some .boolean) 2 := ⟨fa5 wm_M_227 wn_M_fails ws_M_fails wi_M wc_M_fails, by decide, by decide, by decide +kernel⟩
theorem wc_M_length : Cond.code y_M_length c_M_length 5 (some .int) ∈ mt_T := mt_in5 162 (by decide +kernel) rfl
theorem wm_L_74 : Cond.methodLink R_L 74 y_M_length ∈ mt_T := mt_in5 159 (by decide +kernel) rfl
theorem wn_M_length : Cond.instanceMethod y_M_length ∈ mt_T := mt_in5 160 (by decide +kernel) rfl
theorem ws_M_length : Cond.selects R_M y_M_length y_M_length ∈ mt_T := mt_in5 161 (by decide +kernel) rfl
theorem cv_L_74 : cV_ R_L 74 y_M_length c_M_length 5 (some .int) 3 := ⟨fa5 wm_L_74 wn_M_length ws_M_length wi_M wc_M_length, by decide, by decide, by decide +kernel⟩
theorem wc_M_isField : Cond.code y_M_isField c_M_isField 3 (some .boolean) ∈ mt_T := mt_in5 166 (by decide +kernel) rfl
theorem wm_M_231 : Cond.methodLink R_M 231 y_M_isField ∈ mt_T := mt_in5 163 (by decide +kernel) rfl
theorem wn_M_isField : Cond.instanceMethod y_M_isField ∈ mt_T := mt_in5 165 (by decide +kernel) rfl
theorem ws_M_isField : Cond.selects R_M y_M_isField y_M_isField ∈ mt_T := mt_inp 57 (by decide +kernel) rfl
theorem cv_M_231 : cV_ R_M 231 y_M_isField c_M_isField 3 (some .boolean) 2 := ⟨fa5 wm_M_231 wn_M_isField ws_M_isField wi_M wc_M_isField, by decide, by decide, by decide +kernel⟩
theorem wc_M_letter : Cond.code y_M_letter c_M_letter 6 (some .int) ∈ mt_T := mt_in5 170 (by decide +kernel) rfl
theorem wm_L_78 : Cond.methodLink R_L 78 y_M_letter ∈ mt_T := mt_in5 167 (by decide +kernel) rfl
theorem wn_M_letter : Cond.instanceMethod y_M_letter ∈ mt_T := mt_in5 168 (by decide +kernel) rfl
theorem ws_M_letter : Cond.selects R_M y_M_letter y_M_letter ∈ mt_T := mt_in5 169 (by decide +kernel) rfl
theorem cv_L_78 : cV_ R_L 78 y_M_letter c_M_letter 6 (some .int) 4 := ⟨fa5 wm_L_78 wn_M_letter ws_M_letter wi_M wc_M_letter, by decide, by decide, by decide +kernel⟩
theorem wc_M_content : Cond.code y_M_content c_M_content 4 (some .int) ∈ mt_T := mt_in5 174 (by decide +kernel) rfl
theorem wm_L_81 : Cond.methodLink R_L 81 y_M_content ∈ mt_T := mt_in5 171 (by decide +kernel) rfl
theorem wn_M_content : Cond.instanceMethod y_M_content ∈ mt_T := mt_in5 172 (by decide +kernel) rfl
theorem ws_M_content : Cond.selects R_M y_M_content y_M_content ∈ mt_T := mt_in5 173 (by decide +kernel) rfl
theorem cv_L_81 : cV_ R_L 81 y_M_content c_M_content 4 (some .int) 2 := ⟨fa5 wm_L_81 wn_M_content ws_M_content wi_M wc_M_content, by decide, by decide, by decide +kernel⟩
theorem wc_M_boundary : Cond.code y_M_boundary c_M_boundary 3 (some .int) ∈ mt_T := mt_in5 178 (by decide +kernel) rfl
theorem wm_L_84 : Cond.methodLink R_L 84 y_M_boundary ∈ mt_T := mt_in5 175 (by decide +kernel) rfl
theorem wn_M_boundary : Cond.instanceMethod y_M_boundary ∈ mt_T := mt_in5 176 (by decide +kernel) rfl
theorem ws_M_boundary : Cond.selects R_M y_M_boundary y_M_boundary ∈ mt_T := mt_in5 177 (by decide +kernel) rfl
theorem cv_L_84 : cV_ R_L 84 y_M_boundary c_M_boundary 3 (some .int) 2 := ⟨fa5 wm_L_84 wn_M_boundary ws_M_boundary wi_M wc_M_boundary, by decide, by decide, by decide +kernel⟩
theorem wc_M_write : Cond.code y_M_write c_M_write 2 (some .int) ∈ mt_T := mt_in5 182 (by decide +kernel) rfl
theorem wm_L_88 : Cond.methodLink R_L 88 y_M_write ∈ mt_T := mt_in5 179 (by decide +kernel) rfl
theorem wn_M_write : Cond.instanceMethod y_M_write ∈ mt_T := mt_in5 180 (by decide +kernel) rfl
theorem ws_M_write : Cond.selects R_M y_M_write y_M_write ∈ mt_T := mt_in5 181 (by decide +kernel) rfl
theorem cv_L_88 : cV_ R_L 88 y_M_write c_M_write 2 (some .int) 0 := ⟨fa5 wm_L_88 wn_M_write ws_M_write wi_M wc_M_write, by decide, by decide, by decide +kernel⟩
theorem wc_M_opens : Cond.code y_M_opens c_M_opens 2 none ∈ mt_T := mt_in5 186 (by decide +kernel) rfl
theorem wm_M_279 : Cond.methodLink R_M 279 y_M_opens ∈ mt_T := mt_in5 183 (by decide +kernel) rfl
theorem wn_M_opens : Cond.instanceMethod y_M_opens ∈ mt_T := mt_in5 185 (by decide +kernel) rfl
theorem ws_M_opens : Cond.selects R_M y_M_opens y_M_opens ∈ mt_T := mt_inp 58 (by decide +kernel) rfl
theorem cv_M_279 : cV_ R_M 279 y_M_opens c_M_opens 2 none 1 := ⟨fa5 wm_M_279 wn_M_opens ws_M_opens wi_M wc_M_opens, by decide, by decide, by decide +kernel⟩
theorem wc_M_putHead : Cond.code y_M_putHead c_M_putHead 3 none ∈ mt_T := mt_in5 190 (by decide +kernel) rfl
theorem wm_M_266 : Cond.methodLink R_M 266 y_M_putHead ∈ mt_T := mt_in5 187 (by decide +kernel) rfl
theorem wn_M_putHead : Cond.instanceMethod y_M_putHead ∈ mt_T := mt_in5 189 (by decide +kernel) rfl
theorem ws_M_putHead : Cond.selects R_M y_M_putHead y_M_putHead ∈ mt_T := mt_inp 59 (by decide +kernel) rfl
theorem cv_M_266 : cV_ R_M 266 y_M_putHead c_M_putHead 3 none 1 := ⟨fa5 wm_M_266 wn_M_putHead ws_M_putHead wi_M wc_M_putHead, by decide, by decide, by decide +kernel⟩
theorem wc_M_putText : Cond.code y_M_putText c_M_putText 4 none ∈ mt_T := mt_in5 194 (by decide +kernel) rfl
theorem wm_M_257 : Cond.methodLink R_M 257 y_M_putText ∈ mt_T := mt_in5 191 (by decide +kernel) rfl
theorem wn_M_putText : Cond.instanceMethod y_M_putText ∈ mt_T := mt_in5 193 (by decide +kernel) rfl
theorem ws_M_putText : Cond.selects R_M y_M_putText y_M_putText ∈ mt_T := mt_inp 60 (by decide +kernel) rfl
theorem cv_M_257 : cV_ R_M 257 y_M_putText c_M_putText 4 none 2 := ⟨fa5 wm_M_257 wn_M_putText ws_M_putText wi_M wc_M_putText, by decide, by decide, by decide +kernel⟩
theorem wc_M_put : Cond.code y_M_put c_M_put 2 none ∈ mt_T := mt_in5 198 (by decide +kernel) rfl
theorem wm_M_238 : Cond.methodLink R_M 238 y_M_put ∈ mt_T := mt_in5 195 (by decide +kernel) rfl
theorem wn_M_put : Cond.instanceMethod y_M_put ∈ mt_T := mt_in5 197 (by decide +kernel) rfl
theorem ws_M_put : Cond.selects R_M y_M_put y_M_put ∈ mt_T := mt_inp 61 (by decide +kernel) rfl
theorem cv_M_238 : cV_ R_M 238 y_M_put c_M_put 2 none 1 := ⟨fa5 wm_M_238 wn_M_put ws_M_put wi_M wc_M_put, by decide, by decide, by decide +kernel⟩
theorem wc_M_putLine : Cond.code y_M_putLine c_M_putLine 1 none ∈ mt_T := mt_in5 202 (by decide +kernel) rfl
theorem wm_M_247 : Cond.methodLink R_M 247 y_M_putLine ∈ mt_T := mt_in5 199 (by decide +kernel) rfl
theorem wn_M_putLine : Cond.instanceMethod y_M_putLine ∈ mt_T := mt_in5 201 (by decide +kernel) rfl
theorem ws_M_putLine : Cond.selects R_M y_M_putLine y_M_putLine ∈ mt_T := mt_inp 62 (by decide +kernel) rfl
theorem cv_M_247 : cV_ R_M 247 y_M_putLine c_M_putLine 1 none 0 := ⟨fa5 wm_M_247 wn_M_putLine ws_M_putLine wi_M wc_M_putLine, by decide, by decide, by decide +kernel⟩
theorem wc_M_putLetters : Cond.code y_M_putLetters c_M_putLetters 8 none ∈ mt_T := mt_in5 206 (by decide +kernel) rfl
theorem wm_M_260 : Cond.methodLink R_M 260 y_M_putLetters ∈ mt_T := mt_in5 203 (by decide +kernel) rfl
theorem wn_M_putLetters : Cond.instanceMethod y_M_putLetters ∈ mt_T := mt_in5 205 (by decide +kernel) rfl
theorem ws_M_putLetters : Cond.selects R_M y_M_putLetters y_M_putLetters ∈ mt_T := mt_inp 63 (by decide +kernel) rfl
theorem cv_M_260 : cV_ R_M 260 y_M_putLetters c_M_putLetters 8 none 2 := ⟨fa5 wm_M_260 wn_M_putLetters ws_M_putLetters wi_M wc_M_putLetters, by decide, by decide, by decide +kernel⟩
theorem wc_M_toLetter : Cond.code y_M_toLetter c_M_toLetter 1 (some .int) ∈ mt_T := mt_in5 209 (by decide +kernel) rfl
theorem wm_M_244 : Cond.methodLink R_M 244 y_M_toLetter ∈ mt_T := mt_in5 207 (by decide +kernel) rfl
theorem wt_M_toLetter : Cond.static y_M_toLetter ∈ mt_T := mt_in5 208 (by decide +kernel) rfl
theorem cv_M_244 : cS_ R_M 244 y_M_toLetter c_M_toLetter 1 (some .int) 1 := ⟨fa4 wm_M_244 wt_M_toLetter wi_M wc_M_toLetter, rfl, by decide, by decide, by decide +kernel⟩
theorem wc_M_putQuoted : Cond.code y_M_putQuoted c_M_putQuoted 5 none ∈ mt_T := mt_in5 213 (by decide +kernel) rfl
theorem wm_M_263 : Cond.methodLink R_M 263 y_M_putQuoted ∈ mt_T := mt_in5 210 (by decide +kernel) rfl
theorem wn_M_putQuoted : Cond.instanceMethod y_M_putQuoted ∈ mt_T := mt_in5 212 (by decide +kernel) rfl
theorem ws_M_putQuoted : Cond.selects R_M y_M_putQuoted y_M_putQuoted ∈ mt_T := mt_inp 64 (by decide +kernel) rfl
theorem cv_M_263 : cV_ R_M 263 y_M_putQuoted c_M_putQuoted 5 none 2 := ⟨fa5 wm_M_263 wn_M_putQuoted ws_M_putQuoted wi_M wc_M_putQuoted, by decide, by decide, by decide +kernel⟩
theorem wc_M_plain : Cond.code y_M_plain c_M_plain 6 (some .boolean) ∈ mt_T := mt_in5 217 (by decide +kernel) rfl
theorem wm_M_250 : Cond.methodLink R_M 250 y_M_plain ∈ mt_T := mt_in5 214 (by decide +kernel) rfl
theorem wn_M_plain : Cond.instanceMethod y_M_plain ∈ mt_T := mt_in5 216 (by decide +kernel) rfl
theorem ws_M_plain : Cond.selects R_M y_M_plain y_M_plain ∈ mt_T := mt_inp 65 (by decide +kernel) rfl
theorem cv_M_250 : cV_ R_M 250 y_M_plain c_M_plain 6 (some .boolean) 4 := ⟨fa5 wm_M_250 wn_M_plain ws_M_plain wi_M wc_M_plain, by decide, by decide, by decide +kernel⟩
theorem wc_M_digit : Cond.code y_M_digit c_M_digit 1 (some .int) ∈ mt_T := mt_in5 220 (by decide +kernel) rfl
theorem wm_M_254 : Cond.methodLink R_M 254 y_M_digit ∈ mt_T := mt_in5 218 (by decide +kernel) rfl
theorem wt_M_digit : Cond.static y_M_digit ∈ mt_T := mt_in5 219 (by decide +kernel) rfl
theorem cv_M_254 : cS_ R_M 254 y_M_digit c_M_digit 1 (some .int) 1 := ⟨fa4 wm_M_254 wt_M_digit wi_M wc_M_digit, rfl, by decide, by decide, by decide +kernel⟩
theorem wc_M_goesOn : Cond.code y_M_goesOn c_M_goesOn 4 none ∈ mt_T := mt_in5 224 (by decide +kernel) rfl
theorem wm_M_282 : Cond.methodLink R_M 282 y_M_goesOn ∈ mt_T := mt_in5 221 (by decide +kernel) rfl
theorem wn_M_goesOn : Cond.instanceMethod y_M_goesOn ∈ mt_T := mt_in5 223 (by decide +kernel) rfl
theorem ws_M_goesOn : Cond.selects R_M y_M_goesOn y_M_goesOn ∈ mt_T := mt_inp 66 (by decide +kernel) rfl
theorem cv_M_282 : cV_ R_M 282 y_M_goesOn c_M_goesOn 4 none 0 := ⟨fa5 wm_M_282 wn_M_goesOn ws_M_goesOn wi_M wc_M_goesOn, by decide, by decide, by decide +kernel⟩
theorem wc_M_partOf : Cond.code y_M_partOf c_M_partOf 4 (some .int) ∈ mt_T := mt_in5 228 (by decide +kernel) rfl
theorem wm_M_272 : Cond.methodLink R_M 272 y_M_partOf ∈ mt_T := mt_in5 225 (by decide +kernel) rfl
theorem wn_M_partOf : Cond.instanceMethod y_M_partOf ∈ mt_T := mt_in5 227 (by decide +kernel) rfl
theorem ws_M_partOf : Cond.selects R_M y_M_partOf y_M_partOf ∈ mt_T := mt_inp 67 (by decide +kernel) rfl
theorem cv_M_272 : cV_ R_M 272 y_M_partOf c_M_partOf 4 (some .int) 2 := ⟨fa5 wm_M_272 wn_M_partOf ws_M_partOf wi_M wc_M_partOf, by decide, by decide, by decide +kernel⟩
theorem wc_M_putDelimiter : Cond.code y_M_putDelimiter c_M_putDelimiter 3 none ∈ mt_T := mt_in5 232 (by decide +kernel) rfl
theorem wm_M_275 : Cond.methodLink R_M 275 y_M_putDelimiter ∈ mt_T := mt_in5 229 (by decide +kernel) rfl
theorem wn_M_putDelimiter : Cond.instanceMethod y_M_putDelimiter ∈ mt_T := mt_in5 231 (by decide +kernel) rfl
theorem ws_M_putDelimiter : Cond.selects R_M y_M_putDelimiter y_M_putDelimiter ∈ mt_T := mt_inp 68 (by decide +kernel) rfl
theorem cv_M_275 : cV_ R_M 275 y_M_putDelimiter c_M_putDelimiter 3 none 2 := ⟨fa5 wm_M_275 wn_M_putDelimiter ws_M_putDelimiter wi_M wc_M_putDelimiter, by decide, by decide, by decide +kernel⟩
theorem wc_M_written : Cond.code y_M_written c_M_written 2 (some .int) ∈ mt_T := mt_in5 236 (by decide +kernel) rfl
theorem wm_L_93 : Cond.methodLink R_L 93 y_M_written ∈ mt_T := mt_in5 233 (by decide +kernel) rfl
theorem wn_M_written : Cond.instanceMethod y_M_written ∈ mt_T := mt_in5 234 (by decide +kernel) rfl
theorem ws_M_written : Cond.selects R_M y_M_written y_M_written ∈ mt_T := mt_in5 235 (by decide +kernel) rfl
theorem cv_L_93 : cV_ R_L 93 y_M_written c_M_written 2 (some .int) 1 := ⟨fa5 wm_L_93 wn_M_written ws_M_written wi_M wc_M_written, by decide, by decide, by decide +kernel⟩
theorem wc_M_again : Cond.code y_M_again c_M_again 2 (some .int) ∈ mt_T := mt_in6 0 (by decide +kernel) rfl
theorem wm_L_97 : Cond.methodLink R_L 97 y_M_again ∈ mt_T := mt_in5 237 (by decide +kernel) rfl
theorem wn_M_again : Cond.instanceMethod y_M_again ∈ mt_T := mt_in5 238 (by decide +kernel) rfl
theorem ws_M_again : Cond.selects R_M y_M_again y_M_again ∈ mt_T := mt_in5 239 (by decide +kernel) rfl
theorem cv_L_97 : cV_ R_L 97 y_M_again c_M_again 2 (some .int) 0 := ⟨fa5 wm_L_97 wn_M_again ws_M_again wi_M wc_M_again, by decide, by decide, by decide +kernel⟩
theorem wk_D_59 : Cond.constant R_D 59 (Int32.ofInt (65535)) ∈ mt_T := mt_in3 79 (by decide +kernel) rfl
theorem wk_M_50 : Cond.constantLong R_M 50 (Int64.ofInt (255)) ∈ mt_T := mt_in4 219 (by decide +kernel) rfl
theorem wk_M_123 : Cond.constantLong R_M 123 (Int64.ofInt (7196677052775077620)) ∈ mt_T := mt_in5 39 (by decide +kernel) rfl
theorem wk_M_125 : Cond.constantLong R_M 125 (Int64.ofInt (8269659629885888229)) ∈ mt_T := mt_in5 40 (by decide +kernel) rfl
theorem wk_M_127 : Cond.constantLong R_M 127 (Int64.ofInt (487216738105191)) ∈ mt_T := mt_in5 41 (by decide +kernel) rfl
theorem wk_M_87 : Cond.constantLong R_M 87 (Int64.ofInt (127)) ∈ mt_T := mt_in5 54 (by decide +kernel) rfl
theorem wk_M_144 : Cond.constantLong R_M 144 (Int64.ofInt (3393535433524)) ∈ mt_T := mt_in5 81 (by decide +kernel) rfl
theorem wk_M_146 : Cond.constantLong R_M 146 (Int64.ofInt (8208865467050981490)) ∈ mt_T := mt_in5 82 (by decide +kernel) rfl
theorem wk_M_148 : Cond.constantLong R_M 148 (Int64.ofInt (465605798442597)) ∈ mt_T := mt_in5 83 (by decide +kernel) rfl
theorem wk_M_158 : Cond.constantLong R_M 158 (Int64.ofInt (1996901)) ∈ mt_T := mt_in5 88 (by decide +kernel) rfl
theorem wk_M_160 : Cond.constantLong R_M 160 (Int64.ofInt (482888516137957)) ∈ mt_T := mt_in5 93 (by decide +kernel) rfl
theorem wk_M_162 : Cond.constantLong R_M 162 (Int64.ofInt (3944599132466)) ∈ mt_T := mt_in5 94 (by decide +kernel) rfl
theorem wk_M_164 : Cond.constantLong R_M 164 (Int64.ofInt (7920621897859496308)) ∈ mt_T := mt_in5 95 (by decide +kernel) rfl
theorem wk_M_153 : Cond.constantLong R_M 153 (Int64.ofInt (55661328426629497)) ∈ mt_T := mt_in5 100 (by decide +kernel) rfl
theorem wk_L_43 : Cond.constantLong R_L 43 (Int64.ofInt (4294967295)) ∈ mt_T := mt_in6 1 (by decide +kernel) rfl
end
section
theorem d_B_init_0 : decode c_B_init 0 = .ok (.aload_n 0, 1) := by decide +kernel
theorem d_B_init_1 : decode c_B_init 1 = .ok (.invokespecial 3, 3) := by decide +kernel
theorem d_B_init_4 : decode c_B_init 4 = .ok (.aload_n 0, 1) := by decide +kernel
theorem d_B_init_5 : decode c_B_init 5 = .ok (.iload_n 1, 1) := by decide +kernel
theorem d_B_init_6 : decode c_B_init 6 = .ok (.newarray .int, 2) := by decide +kernel
theorem d_B_init_8 : decode c_B_init 8 = .ok (.putfield 9, 3) := by decide +kernel
theorem d_B_init_11 : decode c_B_init 11 = .ok (.aload_n 0, 1) := by decide +kernel
theorem d_B_init_12 : decode c_B_init 12 = .ok (.iconst 0, 1) := by decide +kernel
theorem d_B_init_13 : decode c_B_init 13 = .ok (.putfield 15, 3) := by decide +kernel
theorem d_B_init_16 : decode c_B_init 16 = .ok (.aload_n 0, 1) := by decide +kernel
theorem d_B_init_17 : decode c_B_init 17 = .ok (.iconst 0, 1) := by decide +kernel
theorem d_B_init_18 : decode c_B_init 18 = .ok (.putfield 19, 3) := by decide +kernel
theorem d_B_init_21 : decode c_B_init 21 = .ok (.return_, 1) := by decide +kernel
theorem d_B_put_0 : decode c_B_put 0 = .ok (.aload_n 0, 1) := by decide +kernel
theorem d_B_put_1 : decode c_B_put 1 = .ok (.getfield 15, 3) := by decide +kernel
theorem d_B_put_4 : decode c_B_put 4 = .ok (.ifCond .lt 15, 3) := by decide +kernel
theorem d_B_put_7 : decode c_B_put 7 = .ok (.aload_n 0, 1) := by decide +kernel
theorem d_B_put_8 : decode c_B_put 8 = .ok (.getfield 15, 3) := by decide +kernel
theorem d_B_put_11 : decode c_B_put 11 = .ok (.aload_n 0, 1) := by decide +kernel
theorem d_B_put_12 : decode c_B_put 12 = .ok (.getfield 9, 3) := by decide +kernel
theorem d_B_put_15 : decode c_B_put 15 = .ok (.arraylength, 1) := by decide +kernel
theorem d_B_put_16 : decode c_B_put 16 = .ok (.if_icmp .lt 9, 3) := by decide +kernel
theorem d_B_put_19 : decode c_B_put 19 = .ok (.aload_n 0, 1) := by decide +kernel
theorem d_B_put_20 : decode c_B_put 20 = .ok (.iconst 1, 1) := by decide +kernel
theorem d_B_put_21 : decode c_B_put 21 = .ok (.putfield 19, 3) := by decide +kernel
theorem d_B_put_24 : decode c_B_put 24 = .ok (.return_, 1) := by decide +kernel
theorem d_B_put_25 : decode c_B_put 25 = .ok (.aload_n 0, 1) := by decide +kernel
theorem d_B_put_26 : decode c_B_put 26 = .ok (.getfield 9, 3) := by decide +kernel
theorem d_B_put_29 : decode c_B_put 29 = .ok (.aload_n 0, 1) := by decide +kernel
theorem d_B_put_30 : decode c_B_put 30 = .ok (.getfield 15, 3) := by decide +kernel
theorem d_B_put_33 : decode c_B_put 33 = .ok (.iload_n 1, 1) := by decide +kernel
theorem d_B_put_34 : decode c_B_put 34 = .ok (.iastore, 1) := by decide +kernel
theorem d_B_put_35 : decode c_B_put 35 = .ok (.aload_n 0, 1) := by decide +kernel
theorem d_B_put_36 : decode c_B_put 36 = .ok (.dup, 1) := by decide +kernel
theorem d_B_put_37 : decode c_B_put 37 = .ok (.getfield 15, 3) := by decide +kernel
theorem d_B_put_40 : decode c_B_put 40 = .ok (.iconst 1, 1) := by decide +kernel
theorem d_B_put_41 : decode c_B_put 41 = .ok (.iadd, 1) := by decide +kernel
theorem d_B_put_42 : decode c_B_put 42 = .ok (.putfield 15, 3) := by decide +kernel
theorem d_B_put_45 : decode c_B_put 45 = .ok (.return_, 1) := by decide +kernel
theorem d_B_empty_0 : decode c_B_empty 0 = .ok (.aload_n 0, 1) := by decide +kernel
theorem d_B_empty_1 : decode c_B_empty 1 = .ok (.iconst 0, 1) := by decide +kernel
theorem d_B_empty_2 : decode c_B_empty 2 = .ok (.putfield 15, 3) := by decide +kernel
theorem d_B_empty_5 : decode c_B_empty 5 = .ok (.aload_n 0, 1) := by decide +kernel
theorem d_B_empty_6 : decode c_B_empty 6 = .ok (.iconst 0, 1) := by decide +kernel
theorem d_B_empty_7 : decode c_B_empty 7 = .ok (.putfield 19, 3) := by decide +kernel
theorem d_B_empty_10 : decode c_B_empty 10 = .ok (.return_, 1) := by decide +kernel
theorem d_B_putRange_0 : decode c_B_putRange 0 = .ok (.iload_n 2, 1) := by decide +kernel
theorem d_B_putRange_1 : decode c_B_putRange 1 = .ok (.istore 4, 2) := by decide +kernel
theorem d_B_putRange_3 : decode c_B_putRange 3 = .ok (.iload 4, 2) := by decide +kernel
theorem d_B_putRange_5 : decode c_B_putRange 5 = .ok (.iload_n 3, 1) := by decide +kernel
theorem d_B_putRange_6 : decode c_B_putRange 6 = .ok (.if_icmp .ge 19, 3) := by decide +kernel
theorem d_B_putRange_9 : decode c_B_putRange 9 = .ok (.aload_n 0, 1) := by decide +kernel
theorem d_B_putRange_10 : decode c_B_putRange 10 = .ok (.aload_n 1, 1) := by decide +kernel
theorem d_B_putRange_11 : decode c_B_putRange 11 = .ok (.iload 4, 2) := by decide +kernel
theorem d_B_putRange_13 : decode c_B_putRange 13 = .ok (.invokevirtual 23, 3) := by decide +kernel
theorem d_B_putRange_16 : decode c_B_putRange 16 = .ok (.invokevirtual 27, 3) := by decide +kernel
theorem d_B_putRange_19 : decode c_B_putRange 19 = .ok (.iinc 4 1, 3) := by decide +kernel
theorem d_B_putRange_22 : decode c_B_putRange 22 = .ok (.goto (-19), 3) := by decide +kernel
theorem d_B_putRange_25 : decode c_B_putRange 25 = .ok (.return_, 1) := by decide +kernel
theorem d_B_at_0 : decode c_B_at 0 = .ok (.iload_n 1, 1) := by decide +kernel
theorem d_B_at_1 : decode c_B_at 1 = .ok (.ifCond .lt 29, 3) := by decide +kernel
theorem d_B_at_4 : decode c_B_at 4 = .ok (.iload_n 1, 1) := by decide +kernel
theorem d_B_at_5 : decode c_B_at 5 = .ok (.aload_n 0, 1) := by decide +kernel
theorem d_B_at_6 : decode c_B_at 6 = .ok (.getfield 15, 3) := by decide +kernel
theorem d_B_at_9 : decode c_B_at 9 = .ok (.if_icmp .ge 21, 3) := by decide +kernel
theorem d_B_at_12 : decode c_B_at 12 = .ok (.iload_n 1, 1) := by decide +kernel
theorem d_B_at_13 : decode c_B_at 13 = .ok (.aload_n 0, 1) := by decide +kernel
theorem d_B_at_14 : decode c_B_at 14 = .ok (.getfield 9, 3) := by decide +kernel
theorem d_B_at_17 : decode c_B_at 17 = .ok (.arraylength, 1) := by decide +kernel
theorem d_B_at_18 : decode c_B_at 18 = .ok (.if_icmp .ge 12, 3) := by decide +kernel
theorem d_B_at_21 : decode c_B_at 21 = .ok (.aload_n 0, 1) := by decide +kernel
theorem d_B_at_22 : decode c_B_at 22 = .ok (.getfield 9, 3) := by decide +kernel
theorem d_B_at_25 : decode c_B_at 25 = .ok (.iload_n 1, 1) := by decide +kernel
theorem d_B_at_26 : decode c_B_at 26 = .ok (.iaload, 1) := by decide +kernel
theorem d_B_at_27 : decode c_B_at 27 = .ok (.goto 4, 3) := by decide +kernel
theorem d_B_at_30 : decode c_B_at 30 = .ok (.iconst (-1), 1) := by decide +kernel
theorem d_B_at_31 : decode c_B_at 31 = .ok (.ireturn, 1) := by decide +kernel
theorem d_B_lineEnd_0 : decode c_B_lineEnd 0 = .ok (.iload_n 1, 1) := by decide +kernel
theorem d_B_lineEnd_1 : decode c_B_lineEnd 1 = .ok (.istore_n 3, 1) := by decide +kernel
theorem d_B_lineEnd_2 : decode c_B_lineEnd 2 = .ok (.iload_n 3, 1) := by decide +kernel
theorem d_B_lineEnd_3 : decode c_B_lineEnd 3 = .ok (.iload_n 2, 1) := by decide +kernel
theorem d_B_lineEnd_4 : decode c_B_lineEnd 4 = .ok (.if_icmp .ge 23, 3) := by decide +kernel
theorem d_B_lineEnd_7 : decode c_B_lineEnd 7 = .ok (.aload_n 0, 1) := by decide +kernel
theorem d_B_lineEnd_8 : decode c_B_lineEnd 8 = .ok (.iload_n 3, 1) := by decide +kernel
theorem d_B_lineEnd_9 : decode c_B_lineEnd 9 = .ok (.invokevirtual 23, 3) := by decide +kernel
theorem d_B_lineEnd_12 : decode c_B_lineEnd 12 = .ok (.bipush 10, 2) := by decide +kernel
theorem d_B_lineEnd_14 : decode c_B_lineEnd 14 = .ok (.if_icmp .ne 7, 3) := by decide +kernel
theorem d_B_lineEnd_17 : decode c_B_lineEnd 17 = .ok (.iload_n 3, 1) := by decide +kernel
theorem d_B_lineEnd_18 : decode c_B_lineEnd 18 = .ok (.iconst 1, 1) := by decide +kernel
theorem d_B_lineEnd_19 : decode c_B_lineEnd 19 = .ok (.iadd, 1) := by decide +kernel
theorem d_B_lineEnd_20 : decode c_B_lineEnd 20 = .ok (.ireturn, 1) := by decide +kernel
theorem d_B_lineEnd_21 : decode c_B_lineEnd 21 = .ok (.iinc 3 1, 3) := by decide +kernel
theorem d_B_lineEnd_24 : decode c_B_lineEnd 24 = .ok (.goto (-22), 3) := by decide +kernel
theorem d_B_lineEnd_27 : decode c_B_lineEnd 27 = .ok (.iload_n 2, 1) := by decide +kernel
theorem d_B_lineEnd_28 : decode c_B_lineEnd 28 = .ok (.ireturn, 1) := by decide +kernel
theorem d_B_textEnd_0 : decode c_B_textEnd 0 = .ok (.iload_n 2, 1) := by decide +kernel
theorem d_B_textEnd_1 : decode c_B_textEnd 1 = .ok (.iload_n 1, 1) := by decide +kernel
theorem d_B_textEnd_2 : decode c_B_textEnd 2 = .ok (.if_icmp .le 15, 3) := by decide +kernel
theorem d_B_textEnd_5 : decode c_B_textEnd 5 = .ok (.aload_n 0, 1) := by decide +kernel
theorem d_B_textEnd_6 : decode c_B_textEnd 6 = .ok (.iload_n 2, 1) := by decide +kernel
theorem d_B_textEnd_7 : decode c_B_textEnd 7 = .ok (.iconst 1, 1) := by decide +kernel
theorem d_B_textEnd_8 : decode c_B_textEnd 8 = .ok (.isub, 1) := by decide +kernel
theorem d_B_textEnd_9 : decode c_B_textEnd 9 = .ok (.invokevirtual 23, 3) := by decide +kernel
theorem d_B_textEnd_12 : decode c_B_textEnd 12 = .ok (.bipush 10, 2) := by decide +kernel
theorem d_B_textEnd_14 : decode c_B_textEnd 14 = .ok (.if_icmp .eq 5, 3) := by decide +kernel
theorem d_B_textEnd_17 : decode c_B_textEnd 17 = .ok (.iload_n 2, 1) := by decide +kernel
theorem d_B_textEnd_18 : decode c_B_textEnd 18 = .ok (.ireturn, 1) := by decide +kernel
theorem d_B_textEnd_19 : decode c_B_textEnd 19 = .ok (.iload_n 2, 1) := by decide +kernel
theorem d_B_textEnd_20 : decode c_B_textEnd 20 = .ok (.iconst 2, 1) := by decide +kernel
theorem d_B_textEnd_21 : decode c_B_textEnd 21 = .ok (.isub, 1) := by decide +kernel
theorem d_B_textEnd_22 : decode c_B_textEnd 22 = .ok (.iload_n 1, 1) := by decide +kernel
theorem d_B_textEnd_23 : decode c_B_textEnd 23 = .ok (.if_icmp .lt 19, 3) := by decide +kernel
theorem d_B_textEnd_26 : decode c_B_textEnd 26 = .ok (.aload_n 0, 1) := by decide +kernel
theorem d_B_textEnd_27 : decode c_B_textEnd 27 = .ok (.iload_n 2, 1) := by decide +kernel
theorem d_B_textEnd_28 : decode c_B_textEnd 28 = .ok (.iconst 2, 1) := by decide +kernel
theorem d_B_textEnd_29 : decode c_B_textEnd 29 = .ok (.isub, 1) := by decide +kernel
theorem d_B_textEnd_30 : decode c_B_textEnd 30 = .ok (.invokevirtual 23, 3) := by decide +kernel
theorem d_B_textEnd_33 : decode c_B_textEnd 33 = .ok (.bipush 13, 2) := by decide +kernel
theorem d_B_textEnd_35 : decode c_B_textEnd 35 = .ok (.if_icmp .ne 7, 3) := by decide +kernel
theorem d_B_textEnd_38 : decode c_B_textEnd 38 = .ok (.iconst 1, 1) := by decide +kernel
theorem d_B_textEnd_39 : decode c_B_textEnd 39 = .ok (.goto 4, 3) := by decide +kernel
theorem d_B_textEnd_42 : decode c_B_textEnd 42 = .ok (.iconst 0, 1) := by decide +kernel
theorem d_B_textEnd_43 : decode c_B_textEnd 43 = .ok (.istore_n 3, 1) := by decide +kernel
theorem d_B_textEnd_44 : decode c_B_textEnd 44 = .ok (.iload_n 3, 1) := by decide +kernel
theorem d_B_textEnd_45 : decode c_B_textEnd 45 = .ok (.ifCond .eq 9, 3) := by decide +kernel
theorem d_B_textEnd_48 : decode c_B_textEnd 48 = .ok (.iload_n 2, 1) := by decide +kernel
theorem d_B_textEnd_49 : decode c_B_textEnd 49 = .ok (.iconst 2, 1) := by decide +kernel
theorem d_B_textEnd_50 : decode c_B_textEnd 50 = .ok (.isub, 1) := by decide +kernel
theorem d_B_textEnd_51 : decode c_B_textEnd 51 = .ok (.goto 6, 3) := by decide +kernel
theorem d_B_textEnd_54 : decode c_B_textEnd 54 = .ok (.iload_n 2, 1) := by decide +kernel
theorem d_B_textEnd_55 : decode c_B_textEnd 55 = .ok (.iconst 1, 1) := by decide +kernel
theorem d_B_textEnd_56 : decode c_B_textEnd 56 = .ok (.isub, 1) := by decide +kernel
theorem d_B_textEnd_57 : decode c_B_textEnd 57 = .ok (.ireturn, 1) := by decide +kernel
theorem d_B_skipBlanks_0 : decode c_B_skipBlanks 0 = .ok (.iload_n 1, 1) := by decide +kernel
theorem d_B_skipBlanks_1 : decode c_B_skipBlanks 1 = .ok (.istore_n 3, 1) := by decide +kernel
theorem d_B_skipBlanks_2 : decode c_B_skipBlanks 2 = .ok (.iload_n 3, 1) := by decide +kernel
theorem d_B_skipBlanks_3 : decode c_B_skipBlanks 3 = .ok (.iload_n 2, 1) := by decide +kernel
theorem d_B_skipBlanks_4 : decode c_B_skipBlanks 4 = .ok (.if_icmp .ge 22, 3) := by decide +kernel
theorem d_B_skipBlanks_7 : decode c_B_skipBlanks 7 = .ok (.aload_n 0, 1) := by decide +kernel
theorem d_B_skipBlanks_8 : decode c_B_skipBlanks 8 = .ok (.iload_n 3, 1) := by decide +kernel
theorem d_B_skipBlanks_9 : decode c_B_skipBlanks 9 = .ok (.invokevirtual 23, 3) := by decide +kernel
theorem d_B_skipBlanks_12 : decode c_B_skipBlanks 12 = .ok (.invokestatic 44, 3) := by decide +kernel
theorem d_B_skipBlanks_15 : decode c_B_skipBlanks 15 = .ok (.ifCond .ne 5, 3) := by decide +kernel
theorem d_B_skipBlanks_18 : decode c_B_skipBlanks 18 = .ok (.iload_n 3, 1) := by decide +kernel
theorem d_B_skipBlanks_19 : decode c_B_skipBlanks 19 = .ok (.ireturn, 1) := by decide +kernel
theorem d_B_skipBlanks_20 : decode c_B_skipBlanks 20 = .ok (.iinc 3 1, 3) := by decide +kernel
theorem d_B_skipBlanks_23 : decode c_B_skipBlanks 23 = .ok (.goto (-21), 3) := by decide +kernel
theorem d_B_skipBlanks_26 : decode c_B_skipBlanks 26 = .ok (.iload_n 2, 1) := by decide +kernel
theorem d_B_skipBlanks_27 : decode c_B_skipBlanks 27 = .ok (.ireturn, 1) := by decide +kernel
theorem d_B_spells_0 : decode c_B_spells 0 = .ok (.iload_n 3, 1) := by decide +kernel
theorem d_B_spells_1 : decode c_B_spells 1 = .ok (.iload_n 2, 1) := by decide +kernel
theorem d_B_spells_2 : decode c_B_spells 2 = .ok (.isub, 1) := by decide +kernel
theorem d_B_spells_3 : decode c_B_spells 3 = .ok (.aload_n 1, 1) := by decide +kernel
theorem d_B_spells_4 : decode c_B_spells 4 = .ok (.invokevirtual 31, 3) := by decide +kernel
theorem d_B_spells_7 : decode c_B_spells 7 = .ok (.if_icmp .eq 5, 3) := by decide +kernel
theorem d_B_spells_10 : decode c_B_spells 10 = .ok (.iconst 0, 1) := by decide +kernel
theorem d_B_spells_11 : decode c_B_spells 11 = .ok (.ireturn, 1) := by decide +kernel
theorem d_B_spells_12 : decode c_B_spells 12 = .ok (.iconst 0, 1) := by decide +kernel
theorem d_B_spells_13 : decode c_B_spells 13 = .ok (.istore 4, 2) := by decide +kernel
theorem d_B_spells_15 : decode c_B_spells 15 = .ok (.iload 4, 2) := by decide +kernel
theorem d_B_spells_17 : decode c_B_spells 17 = .ok (.aload_n 1, 1) := by decide +kernel
theorem d_B_spells_18 : decode c_B_spells 18 = .ok (.invokevirtual 31, 3) := by decide +kernel
theorem d_B_spells_21 : decode c_B_spells 21 = .ok (.if_icmp .ge 31, 3) := by decide +kernel
theorem d_B_spells_24 : decode c_B_spells 24 = .ok (.aload_n 0, 1) := by decide +kernel
theorem d_B_spells_25 : decode c_B_spells 25 = .ok (.iload_n 2, 1) := by decide +kernel
theorem d_B_spells_26 : decode c_B_spells 26 = .ok (.iload 4, 2) := by decide +kernel
theorem d_B_spells_28 : decode c_B_spells 28 = .ok (.iadd, 1) := by decide +kernel
theorem d_B_spells_29 : decode c_B_spells 29 = .ok (.invokevirtual 23, 3) := by decide +kernel
theorem d_B_spells_32 : decode c_B_spells 32 = .ok (.invokestatic 41, 3) := by decide +kernel
theorem d_B_spells_35 : decode c_B_spells 35 = .ok (.aload_n 1, 1) := by decide +kernel
theorem d_B_spells_36 : decode c_B_spells 36 = .ok (.iload 4, 2) := by decide +kernel
theorem d_B_spells_38 : decode c_B_spells 38 = .ok (.invokevirtual 37, 3) := by decide +kernel
theorem d_B_spells_41 : decode c_B_spells 41 = .ok (.if_icmp .eq 5, 3) := by decide +kernel
theorem d_B_spells_44 : decode c_B_spells 44 = .ok (.iconst 0, 1) := by decide +kernel
theorem d_B_spells_45 : decode c_B_spells 45 = .ok (.ireturn, 1) := by decide +kernel
theorem d_B_spells_46 : decode c_B_spells 46 = .ok (.iinc 4 1, 3) := by decide +kernel
theorem d_B_spells_49 : decode c_B_spells 49 = .ok (.goto (-34), 3) := by decide +kernel
theorem d_B_spells_52 : decode c_B_spells 52 = .ok (.iconst 1, 1) := by decide +kernel
theorem d_B_spells_53 : decode c_B_spells 53 = .ok (.ireturn, 1) := by decide +kernel
theorem d_B_lineEndSize_0 : decode c_B_lineEndSize 0 = .ok (.iload_n 1, 1) := by decide +kernel
theorem d_B_lineEndSize_1 : decode c_B_lineEndSize 1 = .ok (.iload_n 2, 1) := by decide +kernel
theorem d_B_lineEndSize_2 : decode c_B_lineEndSize 2 = .ok (.if_icmp .ge 15, 3) := by decide +kernel
theorem d_B_lineEndSize_5 : decode c_B_lineEndSize 5 = .ok (.aload_n 0, 1) := by decide +kernel
theorem d_B_lineEndSize_6 : decode c_B_lineEndSize 6 = .ok (.iload_n 1, 1) := by decide +kernel
theorem d_B_lineEndSize_7 : decode c_B_lineEndSize 7 = .ok (.invokevirtual 23, 3) := by decide +kernel
theorem d_B_lineEndSize_10 : decode c_B_lineEndSize 10 = .ok (.bipush 10, 2) := by decide +kernel
theorem d_B_lineEndSize_12 : decode c_B_lineEndSize 12 = .ok (.if_icmp .ne 5, 3) := by decide +kernel
theorem d_B_lineEndSize_15 : decode c_B_lineEndSize 15 = .ok (.iconst 1, 1) := by decide +kernel
theorem d_B_lineEndSize_16 : decode c_B_lineEndSize 16 = .ok (.ireturn, 1) := by decide +kernel
theorem d_B_lineEndSize_17 : decode c_B_lineEndSize 17 = .ok (.iload_n 1, 1) := by decide +kernel
theorem d_B_lineEndSize_18 : decode c_B_lineEndSize 18 = .ok (.iconst 1, 1) := by decide +kernel
theorem d_B_lineEndSize_19 : decode c_B_lineEndSize 19 = .ok (.iadd, 1) := by decide +kernel
theorem d_B_lineEndSize_20 : decode c_B_lineEndSize 20 = .ok (.iload_n 2, 1) := by decide +kernel
theorem d_B_lineEndSize_21 : decode c_B_lineEndSize 21 = .ok (.if_icmp .ge 29, 3) := by decide +kernel
theorem d_B_lineEndSize_24 : decode c_B_lineEndSize 24 = .ok (.aload_n 0, 1) := by decide +kernel
theorem d_B_lineEndSize_25 : decode c_B_lineEndSize 25 = .ok (.iload_n 1, 1) := by decide +kernel
theorem d_B_lineEndSize_26 : decode c_B_lineEndSize 26 = .ok (.invokevirtual 23, 3) := by decide +kernel
theorem d_B_lineEndSize_29 : decode c_B_lineEndSize 29 = .ok (.bipush 13, 2) := by decide +kernel
theorem d_B_lineEndSize_31 : decode c_B_lineEndSize 31 = .ok (.if_icmp .ne 19, 3) := by decide +kernel
theorem d_B_lineEndSize_34 : decode c_B_lineEndSize 34 = .ok (.aload_n 0, 1) := by decide +kernel
theorem d_B_lineEndSize_35 : decode c_B_lineEndSize 35 = .ok (.iload_n 1, 1) := by decide +kernel
theorem d_B_lineEndSize_36 : decode c_B_lineEndSize 36 = .ok (.iconst 1, 1) := by decide +kernel
theorem d_B_lineEndSize_37 : decode c_B_lineEndSize 37 = .ok (.iadd, 1) := by decide +kernel
theorem d_B_lineEndSize_38 : decode c_B_lineEndSize 38 = .ok (.invokevirtual 23, 3) := by decide +kernel
theorem d_B_lineEndSize_41 : decode c_B_lineEndSize 41 = .ok (.bipush 10, 2) := by decide +kernel
theorem d_B_lineEndSize_43 : decode c_B_lineEndSize 43 = .ok (.if_icmp .ne 7, 3) := by decide +kernel
theorem d_B_lineEndSize_46 : decode c_B_lineEndSize 46 = .ok (.iconst 1, 1) := by decide +kernel
theorem d_B_lineEndSize_47 : decode c_B_lineEndSize 47 = .ok (.goto 4, 3) := by decide +kernel
theorem d_B_lineEndSize_50 : decode c_B_lineEndSize 50 = .ok (.iconst 0, 1) := by decide +kernel
theorem d_B_lineEndSize_51 : decode c_B_lineEndSize 51 = .ok (.istore_n 3, 1) := by decide +kernel
theorem d_B_lineEndSize_52 : decode c_B_lineEndSize 52 = .ok (.iload_n 3, 1) := by decide +kernel
theorem d_B_lineEndSize_53 : decode c_B_lineEndSize 53 = .ok (.ifCond .eq 7, 3) := by decide +kernel
theorem d_B_lineEndSize_56 : decode c_B_lineEndSize 56 = .ok (.iconst 2, 1) := by decide +kernel
theorem d_B_lineEndSize_57 : decode c_B_lineEndSize 57 = .ok (.goto 4, 3) := by decide +kernel
theorem d_B_lineEndSize_60 : decode c_B_lineEndSize 60 = .ok (.iconst 0, 1) := by decide +kernel
theorem d_B_lineEndSize_61 : decode c_B_lineEndSize 61 = .ok (.ireturn, 1) := by decide +kernel
theorem d_B_has_0 : decode c_B_has 0 = .ok (.iload_n 3, 1) := by decide +kernel
theorem d_B_has_1 : decode c_B_has 1 = .ok (.iload_n 2, 1) := by decide +kernel
theorem d_B_has_2 : decode c_B_has 2 = .ok (.isub, 1) := by decide +kernel
theorem d_B_has_3 : decode c_B_has 3 = .ok (.aload_n 1, 1) := by decide +kernel
theorem d_B_has_4 : decode c_B_has 4 = .ok (.invokevirtual 31, 3) := by decide +kernel
theorem d_B_has_7 : decode c_B_has 7 = .ok (.if_icmp .ge 5, 3) := by decide +kernel
theorem d_B_has_10 : decode c_B_has 10 = .ok (.iconst 0, 1) := by decide +kernel
theorem d_B_has_11 : decode c_B_has 11 = .ok (.ireturn, 1) := by decide +kernel
theorem d_B_has_12 : decode c_B_has 12 = .ok (.iconst 0, 1) := by decide +kernel
theorem d_B_has_13 : decode c_B_has 13 = .ok (.istore 4, 2) := by decide +kernel
theorem d_B_has_15 : decode c_B_has 15 = .ok (.iload 4, 2) := by decide +kernel
theorem d_B_has_17 : decode c_B_has 17 = .ok (.aload_n 1, 1) := by decide +kernel
theorem d_B_has_18 : decode c_B_has 18 = .ok (.invokevirtual 31, 3) := by decide +kernel
theorem d_B_has_21 : decode c_B_has 21 = .ok (.if_icmp .ge 28, 3) := by decide +kernel
theorem d_B_has_24 : decode c_B_has 24 = .ok (.aload_n 0, 1) := by decide +kernel
theorem d_B_has_25 : decode c_B_has 25 = .ok (.iload_n 2, 1) := by decide +kernel
theorem d_B_has_26 : decode c_B_has 26 = .ok (.iload 4, 2) := by decide +kernel
theorem d_B_has_28 : decode c_B_has 28 = .ok (.iadd, 1) := by decide +kernel
theorem d_B_has_29 : decode c_B_has 29 = .ok (.invokevirtual 23, 3) := by decide +kernel
theorem d_B_has_32 : decode c_B_has 32 = .ok (.aload_n 1, 1) := by decide +kernel
theorem d_B_has_33 : decode c_B_has 33 = .ok (.iload 4, 2) := by decide +kernel
theorem d_B_has_35 : decode c_B_has 35 = .ok (.invokevirtual 37, 3) := by decide +kernel
theorem d_B_has_38 : decode c_B_has 38 = .ok (.if_icmp .eq 5, 3) := by decide +kernel
theorem d_B_has_41 : decode c_B_has 41 = .ok (.iconst 0, 1) := by decide +kernel
theorem d_B_has_42 : decode c_B_has 42 = .ok (.ireturn, 1) := by decide +kernel
theorem d_B_has_43 : decode c_B_has 43 = .ok (.iinc 4 1, 3) := by decide +kernel
theorem d_B_has_46 : decode c_B_has 46 = .ok (.goto (-31), 3) := by decide +kernel
theorem d_B_has_49 : decode c_B_has 49 = .ok (.iconst 1, 1) := by decide +kernel
theorem d_B_has_50 : decode c_B_has 50 = .ok (.ireturn, 1) := by decide +kernel
theorem d_B_putText_0 : decode c_B_putText 0 = .ok (.iconst 0, 1) := by decide +kernel
theorem d_B_putText_1 : decode c_B_putText 1 = .ok (.istore_n 2, 1) := by decide +kernel
theorem d_B_putText_2 : decode c_B_putText 2 = .ok (.iload_n 2, 1) := by decide +kernel
theorem d_B_putText_3 : decode c_B_putText 3 = .ok (.aload_n 1, 1) := by decide +kernel
theorem d_B_putText_4 : decode c_B_putText 4 = .ok (.invokevirtual 31, 3) := by decide +kernel
theorem d_B_putText_7 : decode c_B_putText 7 = .ok (.if_icmp .ge 18, 3) := by decide +kernel
theorem d_B_putText_10 : decode c_B_putText 10 = .ok (.aload_n 0, 1) := by decide +kernel
theorem d_B_putText_11 : decode c_B_putText 11 = .ok (.aload_n 1, 1) := by decide +kernel
theorem d_B_putText_12 : decode c_B_putText 12 = .ok (.iload_n 2, 1) := by decide +kernel
theorem d_B_putText_13 : decode c_B_putText 13 = .ok (.invokevirtual 37, 3) := by decide +kernel
theorem d_B_putText_16 : decode c_B_putText 16 = .ok (.invokevirtual 27, 3) := by decide +kernel
theorem d_B_putText_19 : decode c_B_putText 19 = .ok (.iinc 2 1, 3) := by decide +kernel
theorem d_B_putText_22 : decode c_B_putText 22 = .ok (.goto (-20), 3) := by decide +kernel
theorem d_B_putText_25 : decode c_B_putText 25 = .ok (.return_, 1) := by decide +kernel
end
section
theorem d_D_init_0 : decode c_D_init 0 = .ok (.aload_n 0, 1) := by decide +kernel
theorem d_D_init_1 : decode c_D_init 1 = .ok (.invokespecial 3, 3) := by decide +kernel
theorem d_D_init_4 : decode c_D_init 4 = .ok (.aload_n 0, 1) := by decide +kernel
theorem d_D_init_5 : decode c_D_init 5 = .ok (.aload_n 1, 1) := by decide +kernel
theorem d_D_init_6 : decode c_D_init 6 = .ok (.putfield 9, 3) := by decide +kernel
theorem d_D_init_9 : decode c_D_init 9 = .ok (.aload_n 0, 1) := by decide +kernel
theorem d_D_init_10 : decode c_D_init 10 = .ok (.aload_n 2, 1) := by decide +kernel
theorem d_D_init_11 : decode c_D_init 11 = .ok (.putfield 15, 3) := by decide +kernel
theorem d_D_init_14 : decode c_D_init 14 = .ok (.return_, 1) := by decide +kernel
theorem d_D_decode_0 : decode c_D_decode 0 = .ok (.aload_n 1, 1) := by decide +kernel
theorem d_D_decode_1 : decode c_D_decode 1 = .ok (.aload_n 0, 1) := by decide +kernel
theorem d_D_decode_2 : decode c_D_decode 2 = .ok (.getfield 15, 3) := by decide +kernel
theorem d_D_decode_5 : decode c_D_decode 5 = .ok (.getfield 18, 3) := by decide +kernel
theorem d_D_decode_8 : decode c_D_decode 8 = .ok (.putfield 24, 3) := by decide +kernel
theorem d_D_decode_11 : decode c_D_decode 11 = .ok (.aload_n 1, 1) := by decide +kernel
theorem d_D_decode_12 : decode c_D_decode 12 = .ok (.getfield 29, 3) := by decide +kernel
theorem d_D_decode_15 : decode c_D_decode 15 = .ok (.iconst 1, 1) := by decide +kernel
theorem d_D_decode_16 : decode c_D_decode 16 = .ok (.if_icmp .ne 18, 3) := by decide +kernel
theorem d_D_decode_19 : decode c_D_decode 19 = .ok (.aload_n 0, 1) := by decide +kernel
theorem d_D_decode_20 : decode c_D_decode 20 = .ok (.aload_n 1, 1) := by decide +kernel
theorem d_D_decode_21 : decode c_D_decode 21 = .ok (.getfield 32, 3) := by decide +kernel
theorem d_D_decode_24 : decode c_D_decode 24 = .ok (.aload_n 1, 1) := by decide +kernel
theorem d_D_decode_25 : decode c_D_decode 25 = .ok (.getfield 35, 3) := by decide +kernel
theorem d_D_decode_28 : decode c_D_decode 28 = .ok (.invokevirtual 38, 3) := by decide +kernel
theorem d_D_decode_31 : decode c_D_decode 31 = .ok (.goto 45, 3) := by decide +kernel
theorem d_D_decode_34 : decode c_D_decode 34 = .ok (.aload_n 1, 1) := by decide +kernel
theorem d_D_decode_35 : decode c_D_decode 35 = .ok (.getfield 29, 3) := by decide +kernel
theorem d_D_decode_38 : decode c_D_decode 38 = .ok (.iconst 2, 1) := by decide +kernel
theorem d_D_decode_39 : decode c_D_decode 39 = .ok (.if_icmp .ne 18, 3) := by decide +kernel
theorem d_D_decode_42 : decode c_D_decode 42 = .ok (.aload_n 0, 1) := by decide +kernel
theorem d_D_decode_43 : decode c_D_decode 43 = .ok (.aload_n 1, 1) := by decide +kernel
theorem d_D_decode_44 : decode c_D_decode 44 = .ok (.getfield 32, 3) := by decide +kernel
theorem d_D_decode_47 : decode c_D_decode 47 = .ok (.aload_n 1, 1) := by decide +kernel
theorem d_D_decode_48 : decode c_D_decode 48 = .ok (.getfield 35, 3) := by decide +kernel
theorem d_D_decode_51 : decode c_D_decode 51 = .ok (.invokevirtual 42, 3) := by decide +kernel
theorem d_D_decode_54 : decode c_D_decode 54 = .ok (.goto 22, 3) := by decide +kernel
theorem d_D_decode_57 : decode c_D_decode 57 = .ok (.aload_n 0, 1) := by decide +kernel
theorem d_D_decode_58 : decode c_D_decode 58 = .ok (.getfield 15, 3) := by decide +kernel
theorem d_D_decode_61 : decode c_D_decode 61 = .ok (.aload_n 0, 1) := by decide +kernel
theorem d_D_decode_62 : decode c_D_decode 62 = .ok (.getfield 9, 3) := by decide +kernel
theorem d_D_decode_65 : decode c_D_decode 65 = .ok (.aload_n 1, 1) := by decide +kernel
theorem d_D_decode_66 : decode c_D_decode 66 = .ok (.getfield 32, 3) := by decide +kernel
theorem d_D_decode_69 : decode c_D_decode 69 = .ok (.aload_n 1, 1) := by decide +kernel
theorem d_D_decode_70 : decode c_D_decode 70 = .ok (.getfield 35, 3) := by decide +kernel
theorem d_D_decode_73 : decode c_D_decode 73 = .ok (.invokevirtual 45, 3) := by decide +kernel
theorem d_D_decode_76 : decode c_D_decode 76 = .ok (.aload_n 1, 1) := by decide +kernel
theorem d_D_decode_77 : decode c_D_decode 77 = .ok (.aload_n 0, 1) := by decide +kernel
theorem d_D_decode_78 : decode c_D_decode 78 = .ok (.getfield 15, 3) := by decide +kernel
theorem d_D_decode_81 : decode c_D_decode 81 = .ok (.getfield 18, 3) := by decide +kernel
theorem d_D_decode_84 : decode c_D_decode 84 = .ok (.aload_n 1, 1) := by decide +kernel
theorem d_D_decode_85 : decode c_D_decode 85 = .ok (.getfield 24, 3) := by decide +kernel
theorem d_D_decode_88 : decode c_D_decode 88 = .ok (.isub, 1) := by decide +kernel
theorem d_D_decode_89 : decode c_D_decode 89 = .ok (.putfield 49, 3) := by decide +kernel
theorem d_D_decode_92 : decode c_D_decode 92 = .ok (.return_, 1) := by decide +kernel
theorem d_D_decodeBase64_0 : decode c_D_decodeBase64 0 = .ok (.iconst 0, 1) := by decide +kernel
theorem d_D_decodeBase64_1 : decode c_D_decodeBase64 1 = .ok (.istore_n 3, 1) := by decide +kernel
theorem d_D_decodeBase64_2 : decode c_D_decodeBase64 2 = .ok (.iconst 0, 1) := by decide +kernel
theorem d_D_decodeBase64_3 : decode c_D_decodeBase64 3 = .ok (.istore 4, 2) := by decide +kernel
theorem d_D_decodeBase64_5 : decode c_D_decodeBase64 5 = .ok (.iload_n 1, 1) := by decide +kernel
theorem d_D_decodeBase64_6 : decode c_D_decodeBase64 6 = .ok (.istore 5, 2) := by decide +kernel
theorem d_D_decodeBase64_8 : decode c_D_decodeBase64 8 = .ok (.iload 5, 2) := by decide +kernel
theorem d_D_decodeBase64_10 : decode c_D_decodeBase64 10 = .ok (.iload_n 2, 1) := by decide +kernel
theorem d_D_decodeBase64_11 : decode c_D_decodeBase64 11 = .ok (.if_icmp .ge 81, 3) := by decide +kernel
theorem d_D_decodeBase64_14 : decode c_D_decodeBase64 14 = .ok (.aload_n 0, 1) := by decide +kernel
theorem d_D_decodeBase64_15 : decode c_D_decodeBase64 15 = .ok (.getfield 9, 3) := by decide +kernel
theorem d_D_decodeBase64_18 : decode c_D_decodeBase64 18 = .ok (.iload 5, 2) := by decide +kernel
theorem d_D_decodeBase64_20 : decode c_D_decodeBase64 20 = .ok (.invokevirtual 52, 3) := by decide +kernel
theorem d_D_decodeBase64_23 : decode c_D_decodeBase64 23 = .ok (.bipush 61, 2) := by decide +kernel
theorem d_D_decodeBase64_25 : decode c_D_decodeBase64 25 = .ok (.if_icmp .eq 67, 3) := by decide +kernel
theorem d_D_decodeBase64_28 : decode c_D_decodeBase64 28 = .ok (.aload_n 0, 1) := by decide +kernel
theorem d_D_decodeBase64_29 : decode c_D_decodeBase64 29 = .ok (.getfield 9, 3) := by decide +kernel
theorem d_D_decodeBase64_32 : decode c_D_decodeBase64 32 = .ok (.iload 5, 2) := by decide +kernel
theorem d_D_decodeBase64_34 : decode c_D_decodeBase64 34 = .ok (.invokevirtual 52, 3) := by decide +kernel
theorem d_D_decodeBase64_37 : decode c_D_decodeBase64 37 = .ok (.invokestatic 56, 3) := by decide +kernel
theorem d_D_decodeBase64_40 : decode c_D_decodeBase64 40 = .ok (.istore 6, 2) := by decide +kernel
theorem d_D_decodeBase64_42 : decode c_D_decodeBase64 42 = .ok (.iload 6, 2) := by decide +kernel
theorem d_D_decodeBase64_44 : decode c_D_decodeBase64 44 = .ok (.ifCond .lt 17, 3) := by decide +kernel
theorem d_D_decodeBase64_47 : decode c_D_decodeBase64 47 = .ok (.iload_n 3, 1) := by decide +kernel
theorem d_D_decodeBase64_48 : decode c_D_decodeBase64 48 = .ok (.bipush 6, 2) := by decide +kernel
theorem d_D_decodeBase64_50 : decode c_D_decodeBase64 50 = .ok (.ishl, 1) := by decide +kernel
theorem d_D_decodeBase64_51 : decode c_D_decodeBase64 51 = .ok (.iload 6, 2) := by decide +kernel
theorem d_D_decodeBase64_53 : decode c_D_decodeBase64 53 = .ok (.ior, 1) := by decide +kernel
theorem d_D_decodeBase64_54 : decode c_D_decodeBase64 54 = .ok (.ldc 59, 2) := by decide +kernel
theorem d_D_decodeBase64_56 : decode c_D_decodeBase64 56 = .ok (.iand, 1) := by decide +kernel
theorem d_D_decodeBase64_57 : decode c_D_decodeBase64 57 = .ok (.istore_n 3, 1) := by decide +kernel
theorem d_D_decodeBase64_58 : decode c_D_decodeBase64 58 = .ok (.iinc 4 6, 3) := by decide +kernel
theorem d_D_decodeBase64_61 : decode c_D_decodeBase64 61 = .ok (.iload 4, 2) := by decide +kernel
theorem d_D_decodeBase64_63 : decode c_D_decodeBase64 63 = .ok (.bipush 8, 2) := by decide +kernel
theorem d_D_decodeBase64_65 : decode c_D_decodeBase64 65 = .ok (.if_icmp .lt 21, 3) := by decide +kernel
theorem d_D_decodeBase64_68 : decode c_D_decodeBase64 68 = .ok (.iinc 4 (-8), 3) := by decide +kernel
theorem d_D_decodeBase64_71 : decode c_D_decodeBase64 71 = .ok (.aload_n 0, 1) := by decide +kernel
theorem d_D_decodeBase64_72 : decode c_D_decodeBase64 72 = .ok (.getfield 15, 3) := by decide +kernel
theorem d_D_decodeBase64_75 : decode c_D_decodeBase64 75 = .ok (.iload_n 3, 1) := by decide +kernel
theorem d_D_decodeBase64_76 : decode c_D_decodeBase64 76 = .ok (.iload 4, 2) := by decide +kernel
theorem d_D_decodeBase64_78 : decode c_D_decodeBase64 78 = .ok (.ishr, 1) := by decide +kernel
theorem d_D_decodeBase64_79 : decode c_D_decodeBase64 79 = .ok (.sipush 255, 3) := by decide +kernel
theorem d_D_decodeBase64_82 : decode c_D_decodeBase64 82 = .ok (.iand, 1) := by decide +kernel
theorem d_D_decodeBase64_83 : decode c_D_decodeBase64 83 = .ok (.invokevirtual 60, 3) := by decide +kernel
theorem d_D_decodeBase64_86 : decode c_D_decodeBase64 86 = .ok (.iinc 5 1, 3) := by decide +kernel
theorem d_D_decodeBase64_89 : decode c_D_decodeBase64 89 = .ok (.goto (-81), 3) := by decide +kernel
theorem d_D_decodeBase64_92 : decode c_D_decodeBase64 92 = .ok (.return_, 1) := by decide +kernel
theorem d_D_decodeQuotedPrintable_0 : decode c_D_decodeQuotedPrintable 0 = .ok (.iload_n 1, 1) := by decide +kernel
theorem d_D_decodeQuotedPrintable_1 : decode c_D_decodeQuotedPrintable 1 = .ok (.istore_n 3, 1) := by decide +kernel
theorem d_D_decodeQuotedPrintable_2 : decode c_D_decodeQuotedPrintable 2 = .ok (.iconst 0, 1) := by decide +kernel
theorem d_D_decodeQuotedPrintable_3 : decode c_D_decodeQuotedPrintable 3 = .ok (.istore 4, 2) := by decide +kernel
theorem d_D_decodeQuotedPrintable_5 : decode c_D_decodeQuotedPrintable 5 = .ok (.iload 4, 2) := by decide +kernel
theorem d_D_decodeQuotedPrintable_7 : decode c_D_decodeQuotedPrintable 7 = .ok (.sipush 320, 3) := by decide +kernel
theorem d_D_decodeQuotedPrintable_10 : decode c_D_decodeQuotedPrintable 10 = .ok (.if_icmp .ge 71, 3) := by decide +kernel
theorem d_D_decodeQuotedPrintable_13 : decode c_D_decodeQuotedPrintable 13 = .ok (.iload_n 3, 1) := by decide +kernel
theorem d_D_decodeQuotedPrintable_14 : decode c_D_decodeQuotedPrintable 14 = .ok (.iload_n 2, 1) := by decide +kernel
theorem d_D_decodeQuotedPrintable_15 : decode c_D_decodeQuotedPrintable 15 = .ok (.if_icmp .ge 66, 3) := by decide +kernel
theorem d_D_decodeQuotedPrintable_18 : decode c_D_decodeQuotedPrintable 18 = .ok (.aload_n 0, 1) := by decide +kernel
theorem d_D_decodeQuotedPrintable_19 : decode c_D_decodeQuotedPrintable 19 = .ok (.getfield 9, 3) := by decide +kernel
theorem d_D_decodeQuotedPrintable_22 : decode c_D_decodeQuotedPrintable 22 = .ok (.iload_n 3, 1) := by decide +kernel
theorem d_D_decodeQuotedPrintable_23 : decode c_D_decodeQuotedPrintable 23 = .ok (.invokevirtual 52, 3) := by decide +kernel
theorem d_D_decodeQuotedPrintable_26 : decode c_D_decodeQuotedPrintable 26 = .ok (.istore 5, 2) := by decide +kernel
theorem d_D_decodeQuotedPrintable_28 : decode c_D_decodeQuotedPrintable 28 = .ok (.iload 5, 2) := by decide +kernel
theorem d_D_decodeQuotedPrintable_30 : decode c_D_decodeQuotedPrintable 30 = .ok (.bipush 61, 2) := by decide +kernel
theorem d_D_decodeQuotedPrintable_32 : decode c_D_decodeQuotedPrintable 32 = .ok (.if_icmp .ne 13, 3) := by decide +kernel
theorem d_D_decodeQuotedPrintable_35 : decode c_D_decodeQuotedPrintable 35 = .ok (.aload_n 0, 1) := by decide +kernel
theorem d_D_decodeQuotedPrintable_36 : decode c_D_decodeQuotedPrintable 36 = .ok (.iload_n 3, 1) := by decide +kernel
theorem d_D_decodeQuotedPrintable_37 : decode c_D_decodeQuotedPrintable 37 = .ok (.iload_n 2, 1) := by decide +kernel
theorem d_D_decodeQuotedPrintable_38 : decode c_D_decodeQuotedPrintable 38 = .ok (.invokevirtual 64, 3) := by decide +kernel
theorem d_D_decodeQuotedPrintable_41 : decode c_D_decodeQuotedPrintable 41 = .ok (.istore_n 3, 1) := by decide +kernel
theorem d_D_decodeQuotedPrintable_42 : decode c_D_decodeQuotedPrintable 42 = .ok (.goto 33, 3) := by decide +kernel
theorem d_D_decodeQuotedPrintable_45 : decode c_D_decodeQuotedPrintable 45 = .ok (.iload 5, 2) := by decide +kernel
theorem d_D_decodeQuotedPrintable_47 : decode c_D_decodeQuotedPrintable 47 = .ok (.invokestatic 68, 3) := by decide +kernel
theorem d_D_decodeQuotedPrintable_50 : decode c_D_decodeQuotedPrintable 50 = .ok (.ifCond .eq 13, 3) := by decide +kernel
theorem d_D_decodeQuotedPrintable_53 : decode c_D_decodeQuotedPrintable 53 = .ok (.aload_n 0, 1) := by decide +kernel
theorem d_D_decodeQuotedPrintable_54 : decode c_D_decodeQuotedPrintable 54 = .ok (.iload_n 3, 1) := by decide +kernel
theorem d_D_decodeQuotedPrintable_55 : decode c_D_decodeQuotedPrintable 55 = .ok (.iload_n 2, 1) := by decide +kernel
theorem d_D_decodeQuotedPrintable_56 : decode c_D_decodeQuotedPrintable 56 = .ok (.invokevirtual 72, 3) := by decide +kernel
theorem d_D_decodeQuotedPrintable_59 : decode c_D_decodeQuotedPrintable 59 = .ok (.istore_n 3, 1) := by decide +kernel
theorem d_D_decodeQuotedPrintable_60 : decode c_D_decodeQuotedPrintable 60 = .ok (.goto 15, 3) := by decide +kernel
theorem d_D_decodeQuotedPrintable_63 : decode c_D_decodeQuotedPrintable 63 = .ok (.aload_n 0, 1) := by decide +kernel
theorem d_D_decodeQuotedPrintable_64 : decode c_D_decodeQuotedPrintable 64 = .ok (.getfield 15, 3) := by decide +kernel
theorem d_D_decodeQuotedPrintable_67 : decode c_D_decodeQuotedPrintable 67 = .ok (.iload 5, 2) := by decide +kernel
theorem d_D_decodeQuotedPrintable_69 : decode c_D_decodeQuotedPrintable 69 = .ok (.invokevirtual 60, 3) := by decide +kernel
theorem d_D_decodeQuotedPrintable_72 : decode c_D_decodeQuotedPrintable 72 = .ok (.iinc 3 1, 3) := by decide +kernel
theorem d_D_decodeQuotedPrintable_75 : decode c_D_decodeQuotedPrintable 75 = .ok (.iinc 4 1, 3) := by decide +kernel
theorem d_D_decodeQuotedPrintable_78 : decode c_D_decodeQuotedPrintable 78 = .ok (.goto (-73), 3) := by decide +kernel
theorem d_D_decodeQuotedPrintable_81 : decode c_D_decodeQuotedPrintable 81 = .ok (.return_, 1) := by decide +kernel
theorem d_D_decodeEqualSign_0 : decode c_D_decodeEqualSign 0 = .ok (.iload_n 1, 1) := by decide +kernel
theorem d_D_decodeEqualSign_1 : decode c_D_decodeEqualSign 1 = .ok (.iconst 2, 1) := by decide +kernel
theorem d_D_decodeEqualSign_2 : decode c_D_decodeEqualSign 2 = .ok (.iadd, 1) := by decide +kernel
theorem d_D_decodeEqualSign_3 : decode c_D_decodeEqualSign 3 = .ok (.iload_n 2, 1) := by decide +kernel
theorem d_D_decodeEqualSign_4 : decode c_D_decodeEqualSign 4 = .ok (.if_icmp .ge 59, 3) := by decide +kernel
theorem d_D_decodeEqualSign_7 : decode c_D_decodeEqualSign 7 = .ok (.aload_n 0, 1) := by decide +kernel
theorem d_D_decodeEqualSign_8 : decode c_D_decodeEqualSign 8 = .ok (.getfield 9, 3) := by decide +kernel
theorem d_D_decodeEqualSign_11 : decode c_D_decodeEqualSign 11 = .ok (.iload_n 1, 1) := by decide +kernel
theorem d_D_decodeEqualSign_12 : decode c_D_decodeEqualSign 12 = .ok (.iconst 1, 1) := by decide +kernel
theorem d_D_decodeEqualSign_13 : decode c_D_decodeEqualSign 13 = .ok (.iadd, 1) := by decide +kernel
theorem d_D_decodeEqualSign_14 : decode c_D_decodeEqualSign 14 = .ok (.invokevirtual 52, 3) := by decide +kernel
theorem d_D_decodeEqualSign_17 : decode c_D_decodeEqualSign 17 = .ok (.invokestatic 75, 3) := by decide +kernel
theorem d_D_decodeEqualSign_20 : decode c_D_decodeEqualSign 20 = .ok (.istore_n 3, 1) := by decide +kernel
theorem d_D_decodeEqualSign_21 : decode c_D_decodeEqualSign 21 = .ok (.aload_n 0, 1) := by decide +kernel
theorem d_D_decodeEqualSign_22 : decode c_D_decodeEqualSign 22 = .ok (.getfield 9, 3) := by decide +kernel
theorem d_D_decodeEqualSign_25 : decode c_D_decodeEqualSign 25 = .ok (.iload_n 1, 1) := by decide +kernel
theorem d_D_decodeEqualSign_26 : decode c_D_decodeEqualSign 26 = .ok (.iconst 2, 1) := by decide +kernel
theorem d_D_decodeEqualSign_27 : decode c_D_decodeEqualSign 27 = .ok (.iadd, 1) := by decide +kernel
theorem d_D_decodeEqualSign_28 : decode c_D_decodeEqualSign 28 = .ok (.invokevirtual 52, 3) := by decide +kernel
theorem d_D_decodeEqualSign_31 : decode c_D_decodeEqualSign 31 = .ok (.invokestatic 75, 3) := by decide +kernel
theorem d_D_decodeEqualSign_34 : decode c_D_decodeEqualSign 34 = .ok (.istore 4, 2) := by decide +kernel
theorem d_D_decodeEqualSign_36 : decode c_D_decodeEqualSign 36 = .ok (.iload_n 3, 1) := by decide +kernel
theorem d_D_decodeEqualSign_37 : decode c_D_decodeEqualSign 37 = .ok (.ifCond .lt 26, 3) := by decide +kernel
theorem d_D_decodeEqualSign_40 : decode c_D_decodeEqualSign 40 = .ok (.iload 4, 2) := by decide +kernel
theorem d_D_decodeEqualSign_42 : decode c_D_decodeEqualSign 42 = .ok (.ifCond .lt 21, 3) := by decide +kernel
theorem d_D_decodeEqualSign_45 : decode c_D_decodeEqualSign 45 = .ok (.aload_n 0, 1) := by decide +kernel
theorem d_D_decodeEqualSign_46 : decode c_D_decodeEqualSign 46 = .ok (.getfield 15, 3) := by decide +kernel
theorem d_D_decodeEqualSign_49 : decode c_D_decodeEqualSign 49 = .ok (.bipush 16, 2) := by decide +kernel
theorem d_D_decodeEqualSign_51 : decode c_D_decodeEqualSign 51 = .ok (.iload_n 3, 1) := by decide +kernel
theorem d_D_decodeEqualSign_52 : decode c_D_decodeEqualSign 52 = .ok (.imul, 1) := by decide +kernel
theorem d_D_decodeEqualSign_53 : decode c_D_decodeEqualSign 53 = .ok (.iload 4, 2) := by decide +kernel
theorem d_D_decodeEqualSign_55 : decode c_D_decodeEqualSign 55 = .ok (.iadd, 1) := by decide +kernel
theorem d_D_decodeEqualSign_56 : decode c_D_decodeEqualSign 56 = .ok (.invokevirtual 60, 3) := by decide +kernel
theorem d_D_decodeEqualSign_59 : decode c_D_decodeEqualSign 59 = .ok (.iload_n 1, 1) := by decide +kernel
theorem d_D_decodeEqualSign_60 : decode c_D_decodeEqualSign 60 = .ok (.iconst 3, 1) := by decide +kernel
theorem d_D_decodeEqualSign_61 : decode c_D_decodeEqualSign 61 = .ok (.iadd, 1) := by decide +kernel
theorem d_D_decodeEqualSign_62 : decode c_D_decodeEqualSign 62 = .ok (.ireturn, 1) := by decide +kernel
theorem d_D_decodeEqualSign_63 : decode c_D_decodeEqualSign 63 = .ok (.aload_n 0, 1) := by decide +kernel
theorem d_D_decodeEqualSign_64 : decode c_D_decodeEqualSign 64 = .ok (.getfield 9, 3) := by decide +kernel
theorem d_D_decodeEqualSign_67 : decode c_D_decodeEqualSign 67 = .ok (.iload_n 1, 1) := by decide +kernel
theorem d_D_decodeEqualSign_68 : decode c_D_decodeEqualSign 68 = .ok (.iconst 1, 1) := by decide +kernel
theorem d_D_decodeEqualSign_69 : decode c_D_decodeEqualSign 69 = .ok (.iadd, 1) := by decide +kernel
theorem d_D_decodeEqualSign_70 : decode c_D_decodeEqualSign 70 = .ok (.iload_n 2, 1) := by decide +kernel
theorem d_D_decodeEqualSign_71 : decode c_D_decodeEqualSign 71 = .ok (.invokevirtual 78, 3) := by decide +kernel
theorem d_D_decodeEqualSign_74 : decode c_D_decodeEqualSign 74 = .ok (.istore_n 3, 1) := by decide +kernel
theorem d_D_decodeEqualSign_75 : decode c_D_decodeEqualSign 75 = .ok (.aload_n 0, 1) := by decide +kernel
theorem d_D_decodeEqualSign_76 : decode c_D_decodeEqualSign 76 = .ok (.getfield 9, 3) := by decide +kernel
theorem d_D_decodeEqualSign_79 : decode c_D_decodeEqualSign 79 = .ok (.iload_n 3, 1) := by decide +kernel
theorem d_D_decodeEqualSign_80 : decode c_D_decodeEqualSign 80 = .ok (.iload_n 2, 1) := by decide +kernel
theorem d_D_decodeEqualSign_81 : decode c_D_decodeEqualSign 81 = .ok (.invokevirtual 81, 3) := by decide +kernel
theorem d_D_decodeEqualSign_84 : decode c_D_decodeEqualSign 84 = .ok (.istore 4, 2) := by decide +kernel
theorem d_D_decodeEqualSign_86 : decode c_D_decodeEqualSign 86 = .ok (.iload 4, 2) := by decide +kernel
theorem d_D_decodeEqualSign_88 : decode c_D_decodeEqualSign 88 = .ok (.ifCond .le 8, 3) := by decide +kernel
theorem d_D_decodeEqualSign_91 : decode c_D_decodeEqualSign 91 = .ok (.iload_n 3, 1) := by decide +kernel
theorem d_D_decodeEqualSign_92 : decode c_D_decodeEqualSign 92 = .ok (.iload 4, 2) := by decide +kernel
theorem d_D_decodeEqualSign_94 : decode c_D_decodeEqualSign 94 = .ok (.iadd, 1) := by decide +kernel
theorem d_D_decodeEqualSign_95 : decode c_D_decodeEqualSign 95 = .ok (.ireturn, 1) := by decide +kernel
theorem d_D_decodeEqualSign_96 : decode c_D_decodeEqualSign 96 = .ok (.aload_n 0, 1) := by decide +kernel
theorem d_D_decodeEqualSign_97 : decode c_D_decodeEqualSign 97 = .ok (.getfield 15, 3) := by decide +kernel
theorem d_D_decodeEqualSign_100 : decode c_D_decodeEqualSign 100 = .ok (.bipush 61, 2) := by decide +kernel
theorem d_D_decodeEqualSign_102 : decode c_D_decodeEqualSign 102 = .ok (.invokevirtual 60, 3) := by decide +kernel
theorem d_D_decodeEqualSign_105 : decode c_D_decodeEqualSign 105 = .ok (.iload_n 1, 1) := by decide +kernel
theorem d_D_decodeEqualSign_106 : decode c_D_decodeEqualSign 106 = .ok (.iconst 1, 1) := by decide +kernel
theorem d_D_decodeEqualSign_107 : decode c_D_decodeEqualSign 107 = .ok (.iadd, 1) := by decide +kernel
theorem d_D_decodeEqualSign_108 : decode c_D_decodeEqualSign 108 = .ok (.ireturn, 1) := by decide +kernel
theorem d_D_decodeBlanks_0 : decode c_D_decodeBlanks 0 = .ok (.aload_n 0, 1) := by decide +kernel
theorem d_D_decodeBlanks_1 : decode c_D_decodeBlanks 1 = .ok (.getfield 9, 3) := by decide +kernel
theorem d_D_decodeBlanks_4 : decode c_D_decodeBlanks 4 = .ok (.iload_n 1, 1) := by decide +kernel
theorem d_D_decodeBlanks_5 : decode c_D_decodeBlanks 5 = .ok (.iload_n 2, 1) := by decide +kernel
theorem d_D_decodeBlanks_6 : decode c_D_decodeBlanks 6 = .ok (.invokevirtual 78, 3) := by decide +kernel
theorem d_D_decodeBlanks_9 : decode c_D_decodeBlanks 9 = .ok (.istore_n 3, 1) := by decide +kernel
theorem d_D_decodeBlanks_10 : decode c_D_decodeBlanks 10 = .ok (.iload_n 3, 1) := by decide +kernel
theorem d_D_decodeBlanks_11 : decode c_D_decodeBlanks 11 = .ok (.iload_n 2, 1) := by decide +kernel
theorem d_D_decodeBlanks_12 : decode c_D_decodeBlanks 12 = .ok (.if_icmp .ge 28, 3) := by decide +kernel
theorem d_D_decodeBlanks_15 : decode c_D_decodeBlanks 15 = .ok (.aload_n 0, 1) := by decide +kernel
theorem d_D_decodeBlanks_16 : decode c_D_decodeBlanks 16 = .ok (.getfield 9, 3) := by decide +kernel
theorem d_D_decodeBlanks_19 : decode c_D_decodeBlanks 19 = .ok (.iload_n 3, 1) := by decide +kernel
theorem d_D_decodeBlanks_20 : decode c_D_decodeBlanks 20 = .ok (.iload_n 2, 1) := by decide +kernel
theorem d_D_decodeBlanks_21 : decode c_D_decodeBlanks 21 = .ok (.invokevirtual 81, 3) := by decide +kernel
theorem d_D_decodeBlanks_24 : decode c_D_decodeBlanks 24 = .ok (.ifCond .ne 16, 3) := by decide +kernel
theorem d_D_decodeBlanks_27 : decode c_D_decodeBlanks 27 = .ok (.aload_n 0, 1) := by decide +kernel
theorem d_D_decodeBlanks_28 : decode c_D_decodeBlanks 28 = .ok (.getfield 15, 3) := by decide +kernel
theorem d_D_decodeBlanks_31 : decode c_D_decodeBlanks 31 = .ok (.aload_n 0, 1) := by decide +kernel
theorem d_D_decodeBlanks_32 : decode c_D_decodeBlanks 32 = .ok (.getfield 9, 3) := by decide +kernel
theorem d_D_decodeBlanks_35 : decode c_D_decodeBlanks 35 = .ok (.iload_n 1, 1) := by decide +kernel
theorem d_D_decodeBlanks_36 : decode c_D_decodeBlanks 36 = .ok (.iload_n 3, 1) := by decide +kernel
theorem d_D_decodeBlanks_37 : decode c_D_decodeBlanks 37 = .ok (.invokevirtual 45, 3) := by decide +kernel
theorem d_D_decodeBlanks_40 : decode c_D_decodeBlanks 40 = .ok (.iload_n 3, 1) := by decide +kernel
theorem d_D_decodeBlanks_41 : decode c_D_decodeBlanks 41 = .ok (.ireturn, 1) := by decide +kernel
theorem d_E_init_0 : decode c_E_init 0 = .ok (.aload_n 0, 1) := by decide +kernel
theorem d_E_init_1 : decode c_E_init 1 = .ok (.invokespecial 3, 3) := by decide +kernel
theorem d_E_init_4 : decode c_E_init 4 = .ok (.aload_n 0, 1) := by decide +kernel
theorem d_E_init_5 : decode c_E_init 5 = .ok (.bipush 8, 2) := by decide +kernel
theorem d_E_init_7 : decode c_E_init 7 = .ok (.anewarray 9, 3) := by decide +kernel
theorem d_E_init_10 : decode c_E_init 10 = .ok (.putfield 11, 3) := by decide +kernel
theorem d_E_init_13 : decode c_E_init 13 = .ok (.iconst 0, 1) := by decide +kernel
theorem d_E_init_14 : decode c_E_init 14 = .ok (.istore_n 1, 1) := by decide +kernel
theorem d_E_init_15 : decode c_E_init 15 = .ok (.iload_n 1, 1) := by decide +kernel
theorem d_E_init_16 : decode c_E_init 16 = .ok (.bipush 8, 2) := by decide +kernel
theorem d_E_init_18 : decode c_E_init 18 = .ok (.if_icmp .ge 22, 3) := by decide +kernel
theorem d_E_init_21 : decode c_E_init 21 = .ok (.aload_n 0, 1) := by decide +kernel
theorem d_E_init_22 : decode c_E_init 22 = .ok (.getfield 11, 3) := by decide +kernel
theorem d_E_init_25 : decode c_E_init 25 = .ok (.iload_n 1, 1) := by decide +kernel
theorem d_E_init_26 : decode c_E_init 26 = .ok (.new 9, 3) := by decide +kernel
theorem d_E_init_29 : decode c_E_init 29 = .ok (.dup, 1) := by decide +kernel
theorem d_E_init_30 : decode c_E_init 30 = .ok (.invokespecial 17, 3) := by decide +kernel
theorem d_E_init_33 : decode c_E_init 33 = .ok (.aastore, 1) := by decide +kernel
theorem d_E_init_34 : decode c_E_init 34 = .ok (.iinc 1 1, 3) := by decide +kernel
theorem d_E_init_37 : decode c_E_init 37 = .ok (.goto (-22), 3) := by decide +kernel
theorem d_E_init_40 : decode c_E_init 40 = .ok (.return_, 1) := by decide +kernel
theorem d_E_start_0 : decode c_E_start 0 = .ok (.aload_n 0, 1) := by decide +kernel
theorem d_E_start_1 : decode c_E_start 1 = .ok (.iconst 0, 1) := by decide +kernel
theorem d_E_start_2 : decode c_E_start 2 = .ok (.putfield 18, 3) := by decide +kernel
theorem d_E_start_5 : decode c_E_start 5 = .ok (.aload_n 0, 1) := by decide +kernel
theorem d_E_start_6 : decode c_E_start 6 = .ok (.iload_n 3, 1) := by decide +kernel
theorem d_E_start_7 : decode c_E_start 7 = .ok (.putfield 22, 3) := by decide +kernel
theorem d_E_start_10 : decode c_E_start 10 = .ok (.aload_n 0, 1) := by decide +kernel
theorem d_E_start_11 : decode c_E_start 11 = .ok (.iload 4, 2) := by decide +kernel
theorem d_E_start_13 : decode c_E_start 13 = .ok (.putfield 25, 3) := by decide +kernel
theorem d_E_start_16 : decode c_E_start 16 = .ok (.aload_n 0, 1) := by decide +kernel
theorem d_E_start_17 : decode c_E_start 17 = .ok (.iconst 0, 1) := by decide +kernel
theorem d_E_start_18 : decode c_E_start 18 = .ok (.putfield 28, 3) := by decide +kernel
theorem d_E_start_21 : decode c_E_start 21 = .ok (.aload_n 0, 1) := by decide +kernel
theorem d_E_start_22 : decode c_E_start 22 = .ok (.iconst 0, 1) := by decide +kernel
theorem d_E_start_23 : decode c_E_start 23 = .ok (.putfield 31, 3) := by decide +kernel
theorem d_E_start_26 : decode c_E_start 26 = .ok (.aload_n 0, 1) := by decide +kernel
theorem d_E_start_27 : decode c_E_start 27 = .ok (.iload_n 1, 1) := by decide +kernel
theorem d_E_start_28 : decode c_E_start 28 = .ok (.putfield 34, 3) := by decide +kernel
theorem d_E_start_31 : decode c_E_start 31 = .ok (.aload_n 0, 1) := by decide +kernel
theorem d_E_start_32 : decode c_E_start 32 = .ok (.iload_n 1, 1) := by decide +kernel
theorem d_E_start_33 : decode c_E_start 33 = .ok (.putfield 37, 3) := by decide +kernel
theorem d_E_start_36 : decode c_E_start 36 = .ok (.aload_n 0, 1) := by decide +kernel
theorem d_E_start_37 : decode c_E_start 37 = .ok (.iload_n 2, 1) := by decide +kernel
theorem d_E_start_38 : decode c_E_start 38 = .ok (.putfield 40, 3) := by decide +kernel
theorem d_E_start_41 : decode c_E_start 41 = .ok (.aload_n 0, 1) := by decide +kernel
theorem d_E_start_42 : decode c_E_start 42 = .ok (.iconst 0, 1) := by decide +kernel
theorem d_E_start_43 : decode c_E_start 43 = .ok (.putfield 43, 3) := by decide +kernel
theorem d_E_start_46 : decode c_E_start 46 = .ok (.aload_n 0, 1) := by decide +kernel
theorem d_E_start_47 : decode c_E_start 47 = .ok (.iconst 0, 1) := by decide +kernel
theorem d_E_start_48 : decode c_E_start 48 = .ok (.putfield 46, 3) := by decide +kernel
theorem d_E_start_51 : decode c_E_start 51 = .ok (.aload_n 0, 1) := by decide +kernel
theorem d_E_start_52 : decode c_E_start 52 = .ok (.iconst 0, 1) := by decide +kernel
theorem d_E_start_53 : decode c_E_start 53 = .ok (.putfield 49, 3) := by decide +kernel
theorem d_E_start_56 : decode c_E_start 56 = .ok (.aload_n 0, 1) := by decide +kernel
theorem d_E_start_57 : decode c_E_start 57 = .ok (.iconst 0, 1) := by decide +kernel
theorem d_E_start_58 : decode c_E_start 58 = .ok (.putfield 52, 3) := by decide +kernel
theorem d_E_start_61 : decode c_E_start 61 = .ok (.aload_n 0, 1) := by decide +kernel
theorem d_E_start_62 : decode c_E_start 62 = .ok (.iconst 0, 1) := by decide +kernel
theorem d_E_start_63 : decode c_E_start 63 = .ok (.putfield 55, 3) := by decide +kernel
theorem d_E_start_66 : decode c_E_start 66 = .ok (.return_, 1) := by decide +kernel
theorem d_E_fieldAt_0 : decode c_E_fieldAt 0 = .ok (.iload_n 1, 1) := by decide +kernel
theorem d_E_fieldAt_1 : decode c_E_fieldAt 1 = .ok (.ifCond .lt 17, 3) := by decide +kernel
theorem d_E_fieldAt_4 : decode c_E_fieldAt 4 = .ok (.iload_n 1, 1) := by decide +kernel
theorem d_E_fieldAt_5 : decode c_E_fieldAt 5 = .ok (.aload_n 0, 1) := by decide +kernel
theorem d_E_fieldAt_6 : decode c_E_fieldAt 6 = .ok (.getfield 55, 3) := by decide +kernel
theorem d_E_fieldAt_9 : decode c_E_fieldAt 9 = .ok (.if_icmp .ge 9, 3) := by decide +kernel
theorem d_E_fieldAt_12 : decode c_E_fieldAt 12 = .ok (.iload_n 1, 1) := by decide +kernel
theorem d_E_fieldAt_13 : decode c_E_fieldAt 13 = .ok (.bipush 8, 2) := by decide +kernel
theorem d_E_fieldAt_15 : decode c_E_fieldAt 15 = .ok (.if_icmp .lt 13, 3) := by decide +kernel
theorem d_E_fieldAt_18 : decode c_E_fieldAt 18 = .ok (.new 58, 3) := by decide +kernel
theorem d_E_fieldAt_21 : decode c_E_fieldAt 21 = .ok (.dup, 1) := by decide +kernel
theorem d_E_fieldAt_22 : decode c_E_fieldAt 22 = .ok (.ldc 60, 2) := by decide +kernel
theorem d_E_fieldAt_24 : decode c_E_fieldAt 24 = .ok (.invokespecial 62, 3) := by decide +kernel
theorem d_E_fieldAt_27 : decode c_E_fieldAt 27 = .ok (.athrow, 1) := by decide +kernel
theorem d_E_fieldAt_28 : decode c_E_fieldAt 28 = .ok (.aload_n 0, 1) := by decide +kernel
theorem d_E_fieldAt_29 : decode c_E_fieldAt 29 = .ok (.getfield 11, 3) := by decide +kernel
theorem d_E_fieldAt_32 : decode c_E_fieldAt 32 = .ok (.iload_n 1, 1) := by decide +kernel
theorem d_E_fieldAt_33 : decode c_E_fieldAt 33 = .ok (.aaload, 1) := by decide +kernel
theorem d_E_fieldAt_34 : decode c_E_fieldAt 34 = .ok (.areturn, 1) := by decide +kernel
theorem d_F_init_0 : decode c_F_init 0 = .ok (.aload_n 0, 1) := by decide +kernel
theorem d_F_init_1 : decode c_F_init 1 = .ok (.invokespecial 1, 3) := by decide +kernel
theorem d_F_init_4 : decode c_F_init 4 = .ok (.return_, 1) := by decide +kernel
theorem d_P_init_0 : decode c_P_init 0 = .ok (.aload_n 0, 1) := by decide +kernel
theorem d_P_init_1 : decode c_P_init 1 = .ok (.invokespecial 3, 3) := by decide +kernel
theorem d_P_init_4 : decode c_P_init 4 = .ok (.aload_n 0, 1) := by decide +kernel
theorem d_P_init_5 : decode c_P_init 5 = .ok (.aload_n 1, 1) := by decide +kernel
theorem d_P_init_6 : decode c_P_init 6 = .ok (.putfield 9, 3) := by decide +kernel
theorem d_P_init_9 : decode c_P_init 9 = .ok (.aload_n 0, 1) := by decide +kernel
theorem d_P_init_10 : decode c_P_init 10 = .ok (.new 15, 3) := by decide +kernel
theorem d_P_init_13 : decode c_P_init 13 = .ok (.dup, 1) := by decide +kernel
theorem d_P_init_14 : decode c_P_init 14 = .ok (.sipush 700, 3) := by decide +kernel
theorem d_P_init_17 : decode c_P_init 17 = .ok (.invokespecial 17, 3) := by decide +kernel
theorem d_P_init_20 : decode c_P_init 20 = .ok (.putfield 20, 3) := by decide +kernel
theorem d_P_init_23 : decode c_P_init 23 = .ok (.return_, 1) := by decide +kernel
theorem d_P_printEntity_0 : decode c_P_printEntity 0 = .ok (.iload_n 1, 1) := by decide +kernel
theorem d_P_printEntity_1 : decode c_P_printEntity 1 = .ok (.ifCond .lt 25, 3) := by decide +kernel
theorem d_P_printEntity_4 : decode c_P_printEntity 4 = .ok (.iload_n 1, 1) := by decide +kernel
theorem d_P_printEntity_5 : decode c_P_printEntity 5 = .ok (.aload_n 0, 1) := by decide +kernel
theorem d_P_printEntity_6 : decode c_P_printEntity 6 = .ok (.getfield 9, 3) := by decide +kernel
theorem d_P_printEntity_9 : decode c_P_printEntity 9 = .ok (.getfield 24, 3) := by decide +kernel
theorem d_P_printEntity_12 : decode c_P_printEntity 12 = .ok (.if_icmp .ge 14, 3) := by decide +kernel
theorem d_P_printEntity_15 : decode c_P_printEntity 15 = .ok (.iload_n 1, 1) := by decide +kernel
theorem d_P_printEntity_16 : decode c_P_printEntity 16 = .ok (.bipush 16, 2) := by decide +kernel
theorem d_P_printEntity_18 : decode c_P_printEntity 18 = .ok (.if_icmp .ge 8, 3) := by decide +kernel
theorem d_P_printEntity_21 : decode c_P_printEntity 21 = .ok (.iload_n 2, 1) := by decide +kernel
theorem d_P_printEntity_22 : decode c_P_printEntity 22 = .ok (.iconst 4, 1) := by decide +kernel
theorem d_P_printEntity_23 : decode c_P_printEntity 23 = .ok (.if_icmp .le 4, 3) := by decide +kernel
theorem d_P_printEntity_26 : decode c_P_printEntity 26 = .ok (.return_, 1) := by decide +kernel
theorem d_P_printEntity_27 : decode c_P_printEntity 27 = .ok (.aload_n 0, 1) := by decide +kernel
theorem d_P_printEntity_28 : decode c_P_printEntity 28 = .ok (.getfield 9, 3) := by decide +kernel
theorem d_P_printEntity_31 : decode c_P_printEntity 31 = .ok (.getfield 30, 3) := by decide +kernel
theorem d_P_printEntity_34 : decode c_P_printEntity 34 = .ok (.iload_n 1, 1) := by decide +kernel
theorem d_P_printEntity_35 : decode c_P_printEntity 35 = .ok (.aaload, 1) := by decide +kernel
theorem d_P_printEntity_36 : decode c_P_printEntity 36 = .ok (.astore_n 3, 1) := by decide +kernel
theorem d_P_printEntity_37 : decode c_P_printEntity 37 = .ok (.aload_n 0, 1) := by decide +kernel
theorem d_P_printEntity_38 : decode c_P_printEntity 38 = .ok (.aload_n 3, 1) := by decide +kernel
theorem d_P_printEntity_39 : decode c_P_printEntity 39 = .ok (.invokevirtual 34, 3) := by decide +kernel
theorem d_P_printEntity_42 : decode c_P_printEntity 42 = .ok (.aload_n 0, 1) := by decide +kernel
theorem d_P_printEntity_43 : decode c_P_printEntity 43 = .ok (.getfield 20, 3) := by decide +kernel
theorem d_P_printEntity_46 : decode c_P_printEntity 46 = .ok (.ldc 38, 2) := by decide +kernel
theorem d_P_printEntity_48 : decode c_P_printEntity 48 = .ok (.invokevirtual 40, 3) := by decide +kernel
theorem d_P_printEntity_51 : decode c_P_printEntity 51 = .ok (.aload_n 3, 1) := by decide +kernel
theorem d_P_printEntity_52 : decode c_P_printEntity 52 = .ok (.getfield 44, 3) := by decide +kernel
theorem d_P_printEntity_55 : decode c_P_printEntity 55 = .ok (.ifCond .ne 9, 3) := by decide +kernel
theorem d_P_printEntity_58 : decode c_P_printEntity 58 = .ok (.aload_n 0, 1) := by decide +kernel
theorem d_P_printEntity_59 : decode c_P_printEntity 59 = .ok (.aload_n 3, 1) := by decide +kernel
theorem d_P_printEntity_60 : decode c_P_printEntity 60 = .ok (.invokevirtual 49, 3) := by decide +kernel
theorem d_P_printEntity_63 : decode c_P_printEntity 63 = .ok (.return_, 1) := by decide +kernel
theorem d_P_printEntity_64 : decode c_P_printEntity 64 = .ok (.aload_n 3, 1) := by decide +kernel
theorem d_P_printEntity_65 : decode c_P_printEntity 65 = .ok (.getfield 44, 3) := by decide +kernel
theorem d_P_printEntity_68 : decode c_P_printEntity 68 = .ok (.iconst 1, 1) := by decide +kernel
theorem d_P_printEntity_69 : decode c_P_printEntity 69 = .ok (.if_icmp .ne 7, 3) := by decide +kernel
theorem d_P_printEntity_72 : decode c_P_printEntity 72 = .ok (.iconst 1, 1) := by decide +kernel
theorem d_P_printEntity_73 : decode c_P_printEntity 73 = .ok (.goto 4, 3) := by decide +kernel
theorem d_P_printEntity_76 : decode c_P_printEntity 76 = .ok (.iconst 0, 1) := by decide +kernel
theorem d_P_printEntity_77 : decode c_P_printEntity 77 = .ok (.istore 4, 2) := by decide +kernel
theorem d_P_printEntity_79 : decode c_P_printEntity 79 = .ok (.iload_n 1, 1) := by decide +kernel
theorem d_P_printEntity_80 : decode c_P_printEntity 80 = .ok (.iconst 1, 1) := by decide +kernel
theorem d_P_printEntity_81 : decode c_P_printEntity 81 = .ok (.iadd, 1) := by decide +kernel
theorem d_P_printEntity_82 : decode c_P_printEntity 82 = .ok (.istore 5, 2) := by decide +kernel
theorem d_P_printEntity_84 : decode c_P_printEntity 84 = .ok (.iload 5, 2) := by decide +kernel
theorem d_P_printEntity_86 : decode c_P_printEntity 86 = .ok (.aload_n 0, 1) := by decide +kernel
theorem d_P_printEntity_87 : decode c_P_printEntity 87 = .ok (.getfield 9, 3) := by decide +kernel
theorem d_P_printEntity_90 : decode c_P_printEntity 90 = .ok (.getfield 24, 3) := by decide +kernel
theorem d_P_printEntity_93 : decode c_P_printEntity 93 = .ok (.if_icmp .ge 71, 3) := by decide +kernel
theorem d_P_printEntity_96 : decode c_P_printEntity 96 = .ok (.iload 5, 2) := by decide +kernel
theorem d_P_printEntity_98 : decode c_P_printEntity 98 = .ok (.bipush 16, 2) := by decide +kernel
theorem d_P_printEntity_100 : decode c_P_printEntity 100 = .ok (.if_icmp .ge 64, 3) := by decide +kernel
theorem d_P_printEntity_103 : decode c_P_printEntity 103 = .ok (.aload_n 0, 1) := by decide +kernel
theorem d_P_printEntity_104 : decode c_P_printEntity 104 = .ok (.getfield 9, 3) := by decide +kernel
theorem d_P_printEntity_107 : decode c_P_printEntity 107 = .ok (.getfield 30, 3) := by decide +kernel
theorem d_P_printEntity_110 : decode c_P_printEntity 110 = .ok (.iload 5, 2) := by decide +kernel
theorem d_P_printEntity_112 : decode c_P_printEntity 112 = .ok (.aaload, 1) := by decide +kernel
theorem d_P_printEntity_113 : decode c_P_printEntity 113 = .ok (.getfield 52, 3) := by decide +kernel
theorem d_P_printEntity_116 : decode c_P_printEntity 116 = .ok (.iload_n 1, 1) := by decide +kernel
theorem d_P_printEntity_117 : decode c_P_printEntity 117 = .ok (.if_icmp .eq 6, 3) := by decide +kernel
theorem d_P_printEntity_120 : decode c_P_printEntity 120 = .ok (.goto 38, 3) := by decide +kernel
theorem d_P_printEntity_123 : decode c_P_printEntity 123 = .ok (.iload 4, 2) := by decide +kernel
theorem d_P_printEntity_125 : decode c_P_printEntity 125 = .ok (.ifCond .eq 10, 3) := by decide +kernel
theorem d_P_printEntity_128 : decode c_P_printEntity 128 = .ok (.aload_n 0, 1) := by decide +kernel
theorem d_P_printEntity_129 : decode c_P_printEntity 129 = .ok (.aload_n 3, 1) := by decide +kernel
theorem d_P_printEntity_130 : decode c_P_printEntity 130 = .ok (.ldc 38, 2) := by decide +kernel
theorem d_P_printEntity_132 : decode c_P_printEntity 132 = .ok (.invokevirtual 55, 3) := by decide +kernel
theorem d_P_printEntity_135 : decode c_P_printEntity 135 = .ok (.aload_n 0, 1) := by decide +kernel
theorem d_P_printEntity_136 : decode c_P_printEntity 136 = .ok (.iload 5, 2) := by decide +kernel
theorem d_P_printEntity_138 : decode c_P_printEntity 138 = .ok (.iload_n 2, 1) := by decide +kernel
theorem d_P_printEntity_139 : decode c_P_printEntity 139 = .ok (.iconst 1, 1) := by decide +kernel
theorem d_P_printEntity_140 : decode c_P_printEntity 140 = .ok (.iadd, 1) := by decide +kernel
theorem d_P_printEntity_141 : decode c_P_printEntity 141 = .ok (.invokevirtual 59, 3) := by decide +kernel
theorem d_P_printEntity_144 : decode c_P_printEntity 144 = .ok (.iload 4, 2) := by decide +kernel
theorem d_P_printEntity_146 : decode c_P_printEntity 146 = .ok (.ifCond .eq 12, 3) := by decide +kernel
theorem d_P_printEntity_149 : decode c_P_printEntity 149 = .ok (.aload_n 0, 1) := by decide +kernel
theorem d_P_printEntity_150 : decode c_P_printEntity 150 = .ok (.getfield 20, 3) := by decide +kernel
theorem d_P_printEntity_153 : decode c_P_printEntity 153 = .ok (.ldc 38, 2) := by decide +kernel
theorem d_P_printEntity_155 : decode c_P_printEntity 155 = .ok (.invokevirtual 40, 3) := by decide +kernel
theorem d_P_printEntity_158 : decode c_P_printEntity 158 = .ok (.iinc 5 1, 3) := by decide +kernel
theorem d_P_printEntity_161 : decode c_P_printEntity 161 = .ok (.goto (-77), 3) := by decide +kernel
theorem d_P_printEntity_164 : decode c_P_printEntity 164 = .ok (.iload 4, 2) := by decide +kernel
theorem d_P_printEntity_166 : decode c_P_printEntity 166 = .ok (.ifCond .eq 19, 3) := by decide +kernel
theorem d_P_printEntity_169 : decode c_P_printEntity 169 = .ok (.aload_n 0, 1) := by decide +kernel
theorem d_P_printEntity_170 : decode c_P_printEntity 170 = .ok (.aload_n 3, 1) := by decide +kernel
theorem d_P_printEntity_171 : decode c_P_printEntity 171 = .ok (.ldc 63, 2) := by decide +kernel
theorem d_P_printEntity_173 : decode c_P_printEntity 173 = .ok (.invokevirtual 55, 3) := by decide +kernel
theorem d_P_printEntity_176 : decode c_P_printEntity 176 = .ok (.aload_n 0, 1) := by decide +kernel
theorem d_P_printEntity_177 : decode c_P_printEntity 177 = .ok (.getfield 20, 3) := by decide +kernel
theorem d_P_printEntity_180 : decode c_P_printEntity 180 = .ok (.ldc 38, 2) := by decide +kernel
theorem d_P_printEntity_182 : decode c_P_printEntity 182 = .ok (.invokevirtual 40, 3) := by decide +kernel
theorem d_P_printEntity_185 : decode c_P_printEntity 185 = .ok (.return_, 1) := by decide +kernel
theorem d_P_printFields_0 : decode c_P_printFields 0 = .ok (.iconst 0, 1) := by decide +kernel
theorem d_P_printFields_1 : decode c_P_printFields 1 = .ok (.istore_n 2, 1) := by decide +kernel
theorem d_P_printFields_2 : decode c_P_printFields 2 = .ok (.iload_n 2, 1) := by decide +kernel
theorem d_P_printFields_3 : decode c_P_printFields 3 = .ok (.aload_n 1, 1) := by decide +kernel
theorem d_P_printFields_4 : decode c_P_printFields 4 = .ok (.getfield 65, 3) := by decide +kernel
theorem d_P_printFields_7 : decode c_P_printFields 7 = .ok (.if_icmp .ge 94, 3) := by decide +kernel
theorem d_P_printFields_10 : decode c_P_printFields 10 = .ok (.iload_n 2, 1) := by decide +kernel
theorem d_P_printFields_11 : decode c_P_printFields 11 = .ok (.bipush 8, 2) := by decide +kernel
theorem d_P_printFields_13 : decode c_P_printFields 13 = .ok (.if_icmp .ge 88, 3) := by decide +kernel
theorem d_P_printFields_16 : decode c_P_printFields 16 = .ok (.aload_n 1, 1) := by decide +kernel
theorem d_P_printFields_17 : decode c_P_printFields 17 = .ok (.getfield 68, 3) := by decide +kernel
theorem d_P_printFields_20 : decode c_P_printFields 20 = .ok (.iload_n 2, 1) := by decide +kernel
theorem d_P_printFields_21 : decode c_P_printFields 21 = .ok (.aaload, 1) := by decide +kernel
theorem d_P_printFields_22 : decode c_P_printFields 22 = .ok (.astore_n 3, 1) := by decide +kernel
theorem d_P_printFields_23 : decode c_P_printFields 23 = .ok (.aload_n 0, 1) := by decide +kernel
theorem d_P_printFields_24 : decode c_P_printFields 24 = .ok (.getfield 20, 3) := by decide +kernel
theorem d_P_printFields_27 : decode c_P_printFields 27 = .ok (.aload_n 0, 1) := by decide +kernel
theorem d_P_printFields_28 : decode c_P_printFields 28 = .ok (.getfield 9, 3) := by decide +kernel
theorem d_P_printFields_31 : decode c_P_printFields 31 = .ok (.getfield 72, 3) := by decide +kernel
theorem d_P_printFields_34 : decode c_P_printFields 34 = .ok (.aload_n 3, 1) := by decide +kernel
theorem d_P_printFields_35 : decode c_P_printFields 35 = .ok (.getfield 75, 3) := by decide +kernel
theorem d_P_printFields_38 : decode c_P_printFields 38 = .ok (.aload_n 3, 1) := by decide +kernel
theorem d_P_printFields_39 : decode c_P_printFields 39 = .ok (.getfield 75, 3) := by decide +kernel
theorem d_P_printFields_42 : decode c_P_printFields 42 = .ok (.aload_n 3, 1) := by decide +kernel
theorem d_P_printFields_43 : decode c_P_printFields 43 = .ok (.getfield 80, 3) := by decide +kernel
theorem d_P_printFields_46 : decode c_P_printFields 46 = .ok (.iadd, 1) := by decide +kernel
theorem d_P_printFields_47 : decode c_P_printFields 47 = .ok (.invokevirtual 83, 3) := by decide +kernel
theorem d_P_printFields_50 : decode c_P_printFields 50 = .ok (.aload_n 0, 1) := by decide +kernel
theorem d_P_printFields_51 : decode c_P_printFields 51 = .ok (.getfield 20, 3) := by decide +kernel
theorem d_P_printFields_54 : decode c_P_printFields 54 = .ok (.ldc 87, 2) := by decide +kernel
theorem d_P_printFields_56 : decode c_P_printFields 56 = .ok (.invokevirtual 40, 3) := by decide +kernel
theorem d_P_printFields_59 : decode c_P_printFields 59 = .ok (.aload_n 0, 1) := by decide +kernel
theorem d_P_printFields_60 : decode c_P_printFields 60 = .ok (.getfield 20, 3) := by decide +kernel
theorem d_P_printFields_63 : decode c_P_printFields 63 = .ok (.aload_n 0, 1) := by decide +kernel
theorem d_P_printFields_64 : decode c_P_printFields 64 = .ok (.getfield 9, 3) := by decide +kernel
theorem d_P_printFields_67 : decode c_P_printFields 67 = .ok (.getfield 89, 3) := by decide +kernel
theorem d_P_printFields_70 : decode c_P_printFields 70 = .ok (.aload_n 3, 1) := by decide +kernel
theorem d_P_printFields_71 : decode c_P_printFields 71 = .ok (.getfield 92, 3) := by decide +kernel
theorem d_P_printFields_74 : decode c_P_printFields 74 = .ok (.aload_n 3, 1) := by decide +kernel
theorem d_P_printFields_75 : decode c_P_printFields 75 = .ok (.getfield 92, 3) := by decide +kernel
theorem d_P_printFields_78 : decode c_P_printFields 78 = .ok (.aload_n 3, 1) := by decide +kernel
theorem d_P_printFields_79 : decode c_P_printFields 79 = .ok (.getfield 95, 3) := by decide +kernel
theorem d_P_printFields_82 : decode c_P_printFields 82 = .ok (.iadd, 1) := by decide +kernel
theorem d_P_printFields_83 : decode c_P_printFields 83 = .ok (.invokevirtual 83, 3) := by decide +kernel
theorem d_P_printFields_86 : decode c_P_printFields 86 = .ok (.aload_n 0, 1) := by decide +kernel
theorem d_P_printFields_87 : decode c_P_printFields 87 = .ok (.getfield 20, 3) := by decide +kernel
theorem d_P_printFields_90 : decode c_P_printFields 90 = .ok (.ldc 38, 2) := by decide +kernel
theorem d_P_printFields_92 : decode c_P_printFields 92 = .ok (.invokevirtual 40, 3) := by decide +kernel
theorem d_P_printFields_95 : decode c_P_printFields 95 = .ok (.iinc 2 1, 3) := by decide +kernel
theorem d_P_printFields_98 : decode c_P_printFields 98 = .ok (.goto (-96), 3) := by decide +kernel
theorem d_P_printFields_101 : decode c_P_printFields 101 = .ok (.return_, 1) := by decide +kernel
theorem d_P_printContent_0 : decode c_P_printContent 0 = .ok (.aload_n 1, 1) := by decide +kernel
theorem d_P_printContent_1 : decode c_P_printContent 1 = .ok (.getfield 107, 3) := by decide +kernel
theorem d_P_printContent_4 : decode c_P_printContent 4 = .ok (.istore_n 2, 1) := by decide +kernel
theorem d_P_printContent_5 : decode c_P_printContent 5 = .ok (.aload_n 1, 1) := by decide +kernel
theorem d_P_printContent_6 : decode c_P_printContent 6 = .ok (.getfield 107, 3) := by decide +kernel
theorem d_P_printContent_9 : decode c_P_printContent 9 = .ok (.aload_n 1, 1) := by decide +kernel
theorem d_P_printContent_10 : decode c_P_printContent 10 = .ok (.getfield 110, 3) := by decide +kernel
theorem d_P_printContent_13 : decode c_P_printContent 13 = .ok (.iadd, 1) := by decide +kernel
theorem d_P_printContent_14 : decode c_P_printContent 14 = .ok (.istore_n 3, 1) := by decide +kernel
theorem d_P_printContent_15 : decode c_P_printContent 15 = .ok (.aload_n 1, 1) := by decide +kernel
theorem d_P_printContent_16 : decode c_P_printContent 16 = .ok (.getfield 113, 3) := by decide +kernel
theorem d_P_printContent_19 : decode c_P_printContent 19 = .ok (.iconst 1, 1) := by decide +kernel
theorem d_P_printContent_20 : decode c_P_printContent 20 = .ok (.if_icmp .ne 12, 3) := by decide +kernel
theorem d_P_printContent_23 : decode c_P_printContent 23 = .ok (.aload_n 0, 1) := by decide +kernel
theorem d_P_printContent_24 : decode c_P_printContent 24 = .ok (.iload_n 2, 1) := by decide +kernel
theorem d_P_printContent_25 : decode c_P_printContent 25 = .ok (.iload_n 3, 1) := by decide +kernel
theorem d_P_printContent_26 : decode c_P_printContent 26 = .ok (.invokevirtual 116, 3) := by decide +kernel
theorem d_P_printContent_29 : decode c_P_printContent 29 = .ok (.goto 36, 3) := by decide +kernel
theorem d_P_printContent_32 : decode c_P_printContent 32 = .ok (.aload_n 1, 1) := by decide +kernel
theorem d_P_printContent_33 : decode c_P_printContent 33 = .ok (.getfield 113, 3) := by decide +kernel
theorem d_P_printContent_36 : decode c_P_printContent 36 = .ok (.iconst 2, 1) := by decide +kernel
theorem d_P_printContent_37 : decode c_P_printContent 37 = .ok (.if_icmp .ne 12, 3) := by decide +kernel
theorem d_P_printContent_40 : decode c_P_printContent 40 = .ok (.aload_n 0, 1) := by decide +kernel
theorem d_P_printContent_41 : decode c_P_printContent 41 = .ok (.iload_n 2, 1) := by decide +kernel
theorem d_P_printContent_42 : decode c_P_printContent 42 = .ok (.iload_n 3, 1) := by decide +kernel
theorem d_P_printContent_43 : decode c_P_printContent 43 = .ok (.invokevirtual 119, 3) := by decide +kernel
theorem d_P_printContent_46 : decode c_P_printContent 46 = .ok (.goto 19, 3) := by decide +kernel
theorem d_P_printContent_49 : decode c_P_printContent 49 = .ok (.aload_n 0, 1) := by decide +kernel
theorem d_P_printContent_50 : decode c_P_printContent 50 = .ok (.getfield 20, 3) := by decide +kernel
theorem d_P_printContent_53 : decode c_P_printContent 53 = .ok (.aload_n 0, 1) := by decide +kernel
theorem d_P_printContent_54 : decode c_P_printContent 54 = .ok (.getfield 9, 3) := by decide +kernel
theorem d_P_printContent_57 : decode c_P_printContent 57 = .ok (.getfield 122, 3) := by decide +kernel
theorem d_P_printContent_60 : decode c_P_printContent 60 = .ok (.iload_n 2, 1) := by decide +kernel
theorem d_P_printContent_61 : decode c_P_printContent 61 = .ok (.iload_n 3, 1) := by decide +kernel
theorem d_P_printContent_62 : decode c_P_printContent 62 = .ok (.invokevirtual 83, 3) := by decide +kernel
theorem d_P_printContent_65 : decode c_P_printContent 65 = .ok (.return_, 1) := by decide +kernel
theorem d_P_printBase64_0 : decode c_P_printBase64 0 = .ok (.iconst 0, 1) := by decide +kernel
theorem d_P_printBase64_1 : decode c_P_printBase64 1 = .ok (.istore_n 3, 1) := by decide +kernel
theorem d_P_printBase64_2 : decode c_P_printBase64 2 = .ok (.iload_n 1, 1) := by decide +kernel
theorem d_P_printBase64_3 : decode c_P_printBase64 3 = .ok (.istore 4, 2) := by decide +kernel
theorem d_P_printBase64_5 : decode c_P_printBase64 5 = .ok (.iload 4, 2) := by decide +kernel
theorem d_P_printBase64_7 : decode c_P_printBase64 7 = .ok (.iload_n 2, 1) := by decide +kernel
theorem d_P_printBase64_8 : decode c_P_printBase64 8 = .ok (.if_icmp .ge 51, 3) := by decide +kernel
theorem d_P_printBase64_11 : decode c_P_printBase64 11 = .ok (.aload_n 0, 1) := by decide +kernel
theorem d_P_printBase64_12 : decode c_P_printBase64 12 = .ok (.iload 4, 2) := by decide +kernel
theorem d_P_printBase64_14 : decode c_P_printBase64 14 = .ok (.iconst 3, 1) := by decide +kernel
theorem d_P_printBase64_15 : decode c_P_printBase64 15 = .ok (.iload_n 2, 1) := by decide +kernel
theorem d_P_printBase64_16 : decode c_P_printBase64 16 = .ok (.iload 4, 2) := by decide +kernel
theorem d_P_printBase64_18 : decode c_P_printBase64 18 = .ok (.isub, 1) := by decide +kernel
theorem d_P_printBase64_19 : decode c_P_printBase64 19 = .ok (.invokestatic 125, 3) := by decide +kernel
theorem d_P_printBase64_22 : decode c_P_printBase64 22 = .ok (.invokevirtual 131, 3) := by decide +kernel
theorem d_P_printBase64_25 : decode c_P_printBase64 25 = .ok (.iinc 3 4, 3) := by decide +kernel
theorem d_P_printBase64_28 : decode c_P_printBase64 28 = .ok (.iload_n 3, 1) := by decide +kernel
theorem d_P_printBase64_29 : decode c_P_printBase64 29 = .ok (.bipush 24, 2) := by decide +kernel
theorem d_P_printBase64_31 : decode c_P_printBase64 31 = .ok (.if_icmp .eq 11, 3) := by decide +kernel
theorem d_P_printBase64_34 : decode c_P_printBase64 34 = .ok (.iload 4, 2) := by decide +kernel
theorem d_P_printBase64_36 : decode c_P_printBase64 36 = .ok (.iconst 3, 1) := by decide +kernel
theorem d_P_printBase64_37 : decode c_P_printBase64 37 = .ok (.iadd, 1) := by decide +kernel
theorem d_P_printBase64_38 : decode c_P_printBase64 38 = .ok (.iload_n 2, 1) := by decide +kernel
theorem d_P_printBase64_39 : decode c_P_printBase64 39 = .ok (.if_icmp .lt 14, 3) := by decide +kernel
theorem d_P_printBase64_42 : decode c_P_printBase64 42 = .ok (.aload_n 0, 1) := by decide +kernel
theorem d_P_printBase64_43 : decode c_P_printBase64 43 = .ok (.getfield 20, 3) := by decide +kernel
theorem d_P_printBase64_46 : decode c_P_printBase64 46 = .ok (.ldc 38, 2) := by decide +kernel
theorem d_P_printBase64_48 : decode c_P_printBase64 48 = .ok (.invokevirtual 40, 3) := by decide +kernel
theorem d_P_printBase64_51 : decode c_P_printBase64 51 = .ok (.iconst 0, 1) := by decide +kernel
theorem d_P_printBase64_52 : decode c_P_printBase64 52 = .ok (.istore_n 3, 1) := by decide +kernel
theorem d_P_printBase64_53 : decode c_P_printBase64 53 = .ok (.iinc 4 3, 3) := by decide +kernel
theorem d_P_printBase64_56 : decode c_P_printBase64 56 = .ok (.goto (-51), 3) := by decide +kernel
theorem d_P_printBase64_59 : decode c_P_printBase64 59 = .ok (.return_, 1) := by decide +kernel
theorem d_P_printThreeBytes_0 : decode c_P_printThreeBytes 0 = .ok (.iconst 0, 1) := by decide +kernel
theorem d_P_printThreeBytes_1 : decode c_P_printThreeBytes 1 = .ok (.istore_n 3, 1) := by decide +kernel
theorem d_P_printThreeBytes_2 : decode c_P_printThreeBytes 2 = .ok (.iconst 0, 1) := by decide +kernel
theorem d_P_printThreeBytes_3 : decode c_P_printThreeBytes 3 = .ok (.istore 4, 2) := by decide +kernel
theorem d_P_printThreeBytes_5 : decode c_P_printThreeBytes 5 = .ok (.iload 4, 2) := by decide +kernel
theorem d_P_printThreeBytes_7 : decode c_P_printThreeBytes 7 = .ok (.iconst 3, 1) := by decide +kernel
theorem d_P_printThreeBytes_8 : decode c_P_printThreeBytes 8 = .ok (.if_icmp .ge 39, 3) := by decide +kernel
theorem d_P_printThreeBytes_11 : decode c_P_printThreeBytes 11 = .ok (.iload_n 3, 1) := by decide +kernel
theorem d_P_printThreeBytes_12 : decode c_P_printThreeBytes 12 = .ok (.bipush 8, 2) := by decide +kernel
theorem d_P_printThreeBytes_14 : decode c_P_printThreeBytes 14 = .ok (.ishl, 1) := by decide +kernel
theorem d_P_printThreeBytes_15 : decode c_P_printThreeBytes 15 = .ok (.iload 4, 2) := by decide +kernel
theorem d_P_printThreeBytes_17 : decode c_P_printThreeBytes 17 = .ok (.iload_n 2, 1) := by decide +kernel
theorem d_P_printThreeBytes_18 : decode c_P_printThreeBytes 18 = .ok (.if_icmp .ge 20, 3) := by decide +kernel
theorem d_P_printThreeBytes_21 : decode c_P_printThreeBytes 21 = .ok (.aload_n 0, 1) := by decide +kernel
theorem d_P_printThreeBytes_22 : decode c_P_printThreeBytes 22 = .ok (.getfield 9, 3) := by decide +kernel
theorem d_P_printThreeBytes_25 : decode c_P_printThreeBytes 25 = .ok (.getfield 122, 3) := by decide +kernel
theorem d_P_printThreeBytes_28 : decode c_P_printThreeBytes 28 = .ok (.iload_n 1, 1) := by decide +kernel
theorem d_P_printThreeBytes_29 : decode c_P_printThreeBytes 29 = .ok (.iload 4, 2) := by decide +kernel
theorem d_P_printThreeBytes_31 : decode c_P_printThreeBytes 31 = .ok (.iadd, 1) := by decide +kernel
theorem d_P_printThreeBytes_32 : decode c_P_printThreeBytes 32 = .ok (.invokevirtual 134, 3) := by decide +kernel
theorem d_P_printThreeBytes_35 : decode c_P_printThreeBytes 35 = .ok (.goto 4, 3) := by decide +kernel
theorem d_P_printThreeBytes_38 : decode c_P_printThreeBytes 38 = .ok (.iconst 0, 1) := by decide +kernel
theorem d_P_printThreeBytes_39 : decode c_P_printThreeBytes 39 = .ok (.ior, 1) := by decide +kernel
theorem d_P_printThreeBytes_40 : decode c_P_printThreeBytes 40 = .ok (.istore_n 3, 1) := by decide +kernel
theorem d_P_printThreeBytes_41 : decode c_P_printThreeBytes 41 = .ok (.iinc 4 1, 3) := by decide +kernel
theorem d_P_printThreeBytes_44 : decode c_P_printThreeBytes 44 = .ok (.goto (-39), 3) := by decide +kernel
theorem d_P_printThreeBytes_47 : decode c_P_printThreeBytes 47 = .ok (.iconst 0, 1) := by decide +kernel
theorem d_P_printThreeBytes_48 : decode c_P_printThreeBytes 48 = .ok (.istore 4, 2) := by decide +kernel
theorem d_P_printThreeBytes_50 : decode c_P_printThreeBytes 50 = .ok (.iload 4, 2) := by decide +kernel
theorem d_P_printThreeBytes_52 : decode c_P_printThreeBytes 52 = .ok (.iconst 4, 1) := by decide +kernel
theorem d_P_printThreeBytes_53 : decode c_P_printThreeBytes 53 = .ok (.if_icmp .ge 49, 3) := by decide +kernel
theorem d_P_printThreeBytes_56 : decode c_P_printThreeBytes 56 = .ok (.iload_n 3, 1) := by decide +kernel
theorem d_P_printThreeBytes_57 : decode c_P_printThreeBytes 57 = .ok (.bipush 18, 2) := by decide +kernel
theorem d_P_printThreeBytes_59 : decode c_P_printThreeBytes 59 = .ok (.bipush 6, 2) := by decide +kernel
theorem d_P_printThreeBytes_61 : decode c_P_printThreeBytes 61 = .ok (.iload 4, 2) := by decide +kernel
theorem d_P_printThreeBytes_63 : decode c_P_printThreeBytes 63 = .ok (.imul, 1) := by decide +kernel
theorem d_P_printThreeBytes_64 : decode c_P_printThreeBytes 64 = .ok (.isub, 1) := by decide +kernel
theorem d_P_printThreeBytes_65 : decode c_P_printThreeBytes 65 = .ok (.ishr, 1) := by decide +kernel
theorem d_P_printThreeBytes_66 : decode c_P_printThreeBytes 66 = .ok (.bipush 63, 2) := by decide +kernel
theorem d_P_printThreeBytes_68 : decode c_P_printThreeBytes 68 = .ok (.iand, 1) := by decide +kernel
theorem d_P_printThreeBytes_69 : decode c_P_printThreeBytes 69 = .ok (.istore 5, 2) := by decide +kernel
theorem d_P_printThreeBytes_71 : decode c_P_printThreeBytes 71 = .ok (.aload_n 0, 1) := by decide +kernel
theorem d_P_printThreeBytes_72 : decode c_P_printThreeBytes 72 = .ok (.getfield 20, 3) := by decide +kernel
theorem d_P_printThreeBytes_75 : decode c_P_printThreeBytes 75 = .ok (.iload 4, 2) := by decide +kernel
theorem d_P_printThreeBytes_77 : decode c_P_printThreeBytes 77 = .ok (.iload_n 2, 1) := by decide +kernel
theorem d_P_printThreeBytes_78 : decode c_P_printThreeBytes 78 = .ok (.if_icmp .gt 13, 3) := by decide +kernel
theorem d_P_printThreeBytes_81 : decode c_P_printThreeBytes 81 = .ok (.ldc 138, 2) := by decide +kernel
theorem d_P_printThreeBytes_83 : decode c_P_printThreeBytes 83 = .ok (.iload 5, 2) := by decide +kernel
theorem d_P_printThreeBytes_85 : decode c_P_printThreeBytes 85 = .ok (.invokevirtual 140, 3) := by decide +kernel
theorem d_P_printThreeBytes_88 : decode c_P_printThreeBytes 88 = .ok (.goto 5, 3) := by decide +kernel
theorem d_P_printThreeBytes_91 : decode c_P_printThreeBytes 91 = .ok (.bipush 61, 2) := by decide +kernel
theorem d_P_printThreeBytes_93 : decode c_P_printThreeBytes 93 = .ok (.invokevirtual 146, 3) := by decide +kernel
theorem d_P_printThreeBytes_96 : decode c_P_printThreeBytes 96 = .ok (.iinc 4 1, 3) := by decide +kernel
theorem d_P_printThreeBytes_99 : decode c_P_printThreeBytes 99 = .ok (.goto (-49), 3) := by decide +kernel
theorem d_P_printThreeBytes_102 : decode c_P_printThreeBytes 102 = .ok (.return_, 1) := by decide +kernel
theorem d_P_printQuotedPrintable_0 : decode c_P_printQuotedPrintable 0 = .ok (.iconst 0, 1) := by decide +kernel
theorem d_P_printQuotedPrintable_1 : decode c_P_printQuotedPrintable 1 = .ok (.istore_n 3, 1) := by decide +kernel
theorem d_P_printQuotedPrintable_2 : decode c_P_printQuotedPrintable 2 = .ok (.iload_n 1, 1) := by decide +kernel
theorem d_P_printQuotedPrintable_3 : decode c_P_printQuotedPrintable 3 = .ok (.istore 4, 2) := by decide +kernel
theorem d_P_printQuotedPrintable_5 : decode c_P_printQuotedPrintable 5 = .ok (.iconst 0, 1) := by decide +kernel
theorem d_P_printQuotedPrintable_6 : decode c_P_printQuotedPrintable 6 = .ok (.istore 5, 2) := by decide +kernel
theorem d_P_printQuotedPrintable_8 : decode c_P_printQuotedPrintable 8 = .ok (.iload 5, 2) := by decide +kernel
theorem d_P_printQuotedPrintable_10 : decode c_P_printQuotedPrintable 10 = .ok (.sipush 320, 3) := by decide +kernel
theorem d_P_printQuotedPrintable_13 : decode c_P_printQuotedPrintable 13 = .ok (.if_icmp .ge 153, 3) := by decide +kernel
theorem d_P_printQuotedPrintable_16 : decode c_P_printQuotedPrintable 16 = .ok (.iload 4, 2) := by decide +kernel
theorem d_P_printQuotedPrintable_18 : decode c_P_printQuotedPrintable 18 = .ok (.iload_n 2, 1) := by decide +kernel
theorem d_P_printQuotedPrintable_19 : decode c_P_printQuotedPrintable 19 = .ok (.if_icmp .ge 147, 3) := by decide +kernel
theorem d_P_printQuotedPrintable_22 : decode c_P_printQuotedPrintable 22 = .ok (.aload_n 0, 1) := by decide +kernel
theorem d_P_printQuotedPrintable_23 : decode c_P_printQuotedPrintable 23 = .ok (.getfield 9, 3) := by decide +kernel
theorem d_P_printQuotedPrintable_26 : decode c_P_printQuotedPrintable 26 = .ok (.getfield 122, 3) := by decide +kernel
theorem d_P_printQuotedPrintable_29 : decode c_P_printQuotedPrintable 29 = .ok (.ldc 38, 2) := by decide +kernel
theorem d_P_printQuotedPrintable_31 : decode c_P_printQuotedPrintable 31 = .ok (.iload 4, 2) := by decide +kernel
theorem d_P_printQuotedPrintable_33 : decode c_P_printQuotedPrintable 33 = .ok (.iload_n 2, 1) := by decide +kernel
theorem d_P_printQuotedPrintable_34 : decode c_P_printQuotedPrintable 34 = .ok (.invokevirtual 149, 3) := by decide +kernel
theorem d_P_printQuotedPrintable_37 : decode c_P_printQuotedPrintable 37 = .ok (.ifCond .eq 20, 3) := by decide +kernel
theorem d_P_printQuotedPrintable_40 : decode c_P_printQuotedPrintable 40 = .ok (.aload_n 0, 1) := by decide +kernel
theorem d_P_printQuotedPrintable_41 : decode c_P_printQuotedPrintable 41 = .ok (.getfield 20, 3) := by decide +kernel
theorem d_P_printQuotedPrintable_44 : decode c_P_printQuotedPrintable 44 = .ok (.ldc 38, 2) := by decide +kernel
theorem d_P_printQuotedPrintable_46 : decode c_P_printQuotedPrintable 46 = .ok (.invokevirtual 40, 3) := by decide +kernel
theorem d_P_printQuotedPrintable_49 : decode c_P_printQuotedPrintable 49 = .ok (.iconst 0, 1) := by decide +kernel
theorem d_P_printQuotedPrintable_50 : decode c_P_printQuotedPrintable 50 = .ok (.istore_n 3, 1) := by decide +kernel
theorem d_P_printQuotedPrintable_51 : decode c_P_printQuotedPrintable 51 = .ok (.iinc 4 2, 3) := by decide +kernel
theorem d_P_printQuotedPrintable_54 : decode c_P_printQuotedPrintable 54 = .ok (.goto 106, 3) := by decide +kernel
theorem d_P_printQuotedPrintable_57 : decode c_P_printQuotedPrintable 57 = .ok (.aload_n 0, 1) := by decide +kernel
theorem d_P_printQuotedPrintable_58 : decode c_P_printQuotedPrintable 58 = .ok (.getfield 9, 3) := by decide +kernel
theorem d_P_printQuotedPrintable_61 : decode c_P_printQuotedPrintable 61 = .ok (.getfield 122, 3) := by decide +kernel
theorem d_P_printQuotedPrintable_64 : decode c_P_printQuotedPrintable 64 = .ok (.iload 4, 2) := by decide +kernel
theorem d_P_printQuotedPrintable_66 : decode c_P_printQuotedPrintable 66 = .ok (.invokevirtual 134, 3) := by decide +kernel
theorem d_P_printQuotedPrintable_69 : decode c_P_printQuotedPrintable 69 = .ok (.istore 6, 2) := by decide +kernel
theorem d_P_printQuotedPrintable_71 : decode c_P_printQuotedPrintable 71 = .ok (.aload_n 0, 1) := by decide +kernel
theorem d_P_printQuotedPrintable_72 : decode c_P_printQuotedPrintable 72 = .ok (.iload 4, 2) := by decide +kernel
theorem d_P_printQuotedPrintable_74 : decode c_P_printQuotedPrintable 74 = .ok (.iload_n 2, 1) := by decide +kernel
theorem d_P_printQuotedPrintable_75 : decode c_P_printQuotedPrintable 75 = .ok (.invokevirtual 153, 3) := by decide +kernel
theorem d_P_printQuotedPrintable_78 : decode c_P_printQuotedPrintable 78 = .ok (.istore 7, 2) := by decide +kernel
theorem d_P_printQuotedPrintable_80 : decode c_P_printQuotedPrintable 80 = .ok (.iload_n 3, 1) := by decide +kernel
theorem d_P_printQuotedPrintable_81 : decode c_P_printQuotedPrintable 81 = .ok (.iload 7, 2) := by decide +kernel
theorem d_P_printQuotedPrintable_83 : decode c_P_printQuotedPrintable 83 = .ok (.ifCond .eq 7, 3) := by decide +kernel
theorem d_P_printQuotedPrintable_86 : decode c_P_printQuotedPrintable 86 = .ok (.iconst 1, 1) := by decide +kernel
theorem d_P_printQuotedPrintable_87 : decode c_P_printQuotedPrintable 87 = .ok (.goto 4, 3) := by decide +kernel
theorem d_P_printQuotedPrintable_90 : decode c_P_printQuotedPrintable 90 = .ok (.iconst 3, 1) := by decide +kernel
theorem d_P_printQuotedPrintable_91 : decode c_P_printQuotedPrintable 91 = .ok (.iadd, 1) := by decide +kernel
theorem d_P_printQuotedPrintable_92 : decode c_P_printQuotedPrintable 92 = .ok (.bipush 30, 2) := by decide +kernel
theorem d_P_printQuotedPrintable_94 : decode c_P_printQuotedPrintable 94 = .ok (.if_icmp .le 23, 3) := by decide +kernel
theorem d_P_printQuotedPrintable_97 : decode c_P_printQuotedPrintable 97 = .ok (.aload_n 0, 1) := by decide +kernel
theorem d_P_printQuotedPrintable_98 : decode c_P_printQuotedPrintable 98 = .ok (.getfield 20, 3) := by decide +kernel
theorem d_P_printQuotedPrintable_101 : decode c_P_printQuotedPrintable 101 = .ok (.bipush 61, 2) := by decide +kernel
theorem d_P_printQuotedPrintable_103 : decode c_P_printQuotedPrintable 103 = .ok (.invokevirtual 146, 3) := by decide +kernel
theorem d_P_printQuotedPrintable_106 : decode c_P_printQuotedPrintable 106 = .ok (.aload_n 0, 1) := by decide +kernel
theorem d_P_printQuotedPrintable_107 : decode c_P_printQuotedPrintable 107 = .ok (.getfield 20, 3) := by decide +kernel
theorem d_P_printQuotedPrintable_110 : decode c_P_printQuotedPrintable 110 = .ok (.ldc 38, 2) := by decide +kernel
theorem d_P_printQuotedPrintable_112 : decode c_P_printQuotedPrintable 112 = .ok (.invokevirtual 40, 3) := by decide +kernel
theorem d_P_printQuotedPrintable_115 : decode c_P_printQuotedPrintable 115 = .ok (.iconst 0, 1) := by decide +kernel
theorem d_P_printQuotedPrintable_116 : decode c_P_printQuotedPrintable 116 = .ok (.istore_n 3, 1) := by decide +kernel
theorem d_P_printQuotedPrintable_117 : decode c_P_printQuotedPrintable 117 = .ok (.iload 7, 2) := by decide +kernel
theorem d_P_printQuotedPrintable_119 : decode c_P_printQuotedPrintable 119 = .ok (.ifCond .eq 29, 3) := by decide +kernel
theorem d_P_printQuotedPrintable_122 : decode c_P_printQuotedPrintable 122 = .ok (.iload 6, 2) := by decide +kernel
theorem d_P_printQuotedPrintable_124 : decode c_P_printQuotedPrintable 124 = .ok (.bipush 45, 2) := by decide +kernel
theorem d_P_printQuotedPrintable_126 : decode c_P_printQuotedPrintable 126 = .ok (.if_icmp .ne 7, 3) := by decide +kernel
theorem d_P_printQuotedPrintable_129 : decode c_P_printQuotedPrintable 129 = .ok (.iload_n 3, 1) := by decide +kernel
theorem d_P_printQuotedPrintable_130 : decode c_P_printQuotedPrintable 130 = .ok (.ifCond .le 18, 3) := by decide +kernel
theorem d_P_printQuotedPrintable_133 : decode c_P_printQuotedPrintable 133 = .ok (.aload_n 0, 1) := by decide +kernel
theorem d_P_printQuotedPrintable_134 : decode c_P_printQuotedPrintable 134 = .ok (.getfield 20, 3) := by decide +kernel
theorem d_P_printQuotedPrintable_137 : decode c_P_printQuotedPrintable 137 = .ok (.iload 6, 2) := by decide +kernel
theorem d_P_printQuotedPrintable_139 : decode c_P_printQuotedPrintable 139 = .ok (.invokevirtual 146, 3) := by decide +kernel
theorem d_P_printQuotedPrintable_142 : decode c_P_printQuotedPrintable 142 = .ok (.iinc 3 1, 3) := by decide +kernel
theorem d_P_printQuotedPrintable_145 : decode c_P_printQuotedPrintable 145 = .ok (.goto 12, 3) := by decide +kernel
theorem d_P_printQuotedPrintable_148 : decode c_P_printQuotedPrintable 148 = .ok (.aload_n 0, 1) := by decide +kernel
theorem d_P_printQuotedPrintable_149 : decode c_P_printQuotedPrintable 149 = .ok (.iload 6, 2) := by decide +kernel
theorem d_P_printQuotedPrintable_151 : decode c_P_printQuotedPrintable 151 = .ok (.invokevirtual 157, 3) := by decide +kernel
theorem d_P_printQuotedPrintable_154 : decode c_P_printQuotedPrintable 154 = .ok (.iinc 3 3, 3) := by decide +kernel
theorem d_P_printQuotedPrintable_157 : decode c_P_printQuotedPrintable 157 = .ok (.iinc 4 1, 3) := by decide +kernel
theorem d_P_printQuotedPrintable_160 : decode c_P_printQuotedPrintable 160 = .ok (.iinc 5 1, 3) := by decide +kernel
theorem d_P_printQuotedPrintable_163 : decode c_P_printQuotedPrintable 163 = .ok (.goto (-155), 3) := by decide +kernel
theorem d_P_printQuotedPrintable_166 : decode c_P_printQuotedPrintable 166 = .ok (.return_, 1) := by decide +kernel
theorem d_P_isPlain_0 : decode c_P_isPlain 0 = .ok (.aload_n 0, 1) := by decide +kernel
theorem d_P_isPlain_1 : decode c_P_isPlain 1 = .ok (.getfield 9, 3) := by decide +kernel
theorem d_P_isPlain_4 : decode c_P_isPlain 4 = .ok (.getfield 122, 3) := by decide +kernel
theorem d_P_isPlain_7 : decode c_P_isPlain 7 = .ok (.iload_n 1, 1) := by decide +kernel
theorem d_P_isPlain_8 : decode c_P_isPlain 8 = .ok (.invokevirtual 134, 3) := by decide +kernel
theorem d_P_isPlain_11 : decode c_P_isPlain 11 = .ok (.istore_n 3, 1) := by decide +kernel
theorem d_P_isPlain_12 : decode c_P_isPlain 12 = .ok (.iload_n 3, 1) := by decide +kernel
theorem d_P_isPlain_13 : decode c_P_isPlain 13 = .ok (.invokestatic 160, 3) := by decide +kernel
theorem d_P_isPlain_16 : decode c_P_isPlain 16 = .ok (.ifCond .eq 35, 3) := by decide +kernel
theorem d_P_isPlain_19 : decode c_P_isPlain 19 = .ok (.iload_n 1, 1) := by decide +kernel
theorem d_P_isPlain_20 : decode c_P_isPlain 20 = .ok (.iconst 1, 1) := by decide +kernel
theorem d_P_isPlain_21 : decode c_P_isPlain 21 = .ok (.iadd, 1) := by decide +kernel
theorem d_P_isPlain_22 : decode c_P_isPlain 22 = .ok (.iload_n 2, 1) := by decide +kernel
theorem d_P_isPlain_23 : decode c_P_isPlain 23 = .ok (.if_icmp .ge 26, 3) := by decide +kernel
theorem d_P_isPlain_26 : decode c_P_isPlain 26 = .ok (.aload_n 0, 1) := by decide +kernel
theorem d_P_isPlain_27 : decode c_P_isPlain 27 = .ok (.getfield 9, 3) := by decide +kernel
theorem d_P_isPlain_30 : decode c_P_isPlain 30 = .ok (.getfield 122, 3) := by decide +kernel
theorem d_P_isPlain_33 : decode c_P_isPlain 33 = .ok (.ldc 38, 2) := by decide +kernel
theorem d_P_isPlain_35 : decode c_P_isPlain 35 = .ok (.iload_n 1, 1) := by decide +kernel
theorem d_P_isPlain_36 : decode c_P_isPlain 36 = .ok (.iconst 1, 1) := by decide +kernel
theorem d_P_isPlain_37 : decode c_P_isPlain 37 = .ok (.iadd, 1) := by decide +kernel
theorem d_P_isPlain_38 : decode c_P_isPlain 38 = .ok (.iload_n 2, 1) := by decide +kernel
theorem d_P_isPlain_39 : decode c_P_isPlain 39 = .ok (.invokevirtual 149, 3) := by decide +kernel
theorem d_P_isPlain_42 : decode c_P_isPlain 42 = .ok (.ifCond .ne 7, 3) := by decide +kernel
theorem d_P_isPlain_45 : decode c_P_isPlain 45 = .ok (.iconst 1, 1) := by decide +kernel
theorem d_P_isPlain_46 : decode c_P_isPlain 46 = .ok (.goto 4, 3) := by decide +kernel
theorem d_P_isPlain_49 : decode c_P_isPlain 49 = .ok (.iconst 0, 1) := by decide +kernel
theorem d_P_isPlain_50 : decode c_P_isPlain 50 = .ok (.ireturn, 1) := by decide +kernel
theorem d_P_isPlain_51 : decode c_P_isPlain 51 = .ok (.iload_n 3, 1) := by decide +kernel
theorem d_P_isPlain_52 : decode c_P_isPlain 52 = .ok (.bipush 33, 2) := by decide +kernel
theorem d_P_isPlain_54 : decode c_P_isPlain 54 = .ok (.if_icmp .lt 19, 3) := by decide +kernel
theorem d_P_isPlain_57 : decode c_P_isPlain 57 = .ok (.iload_n 3, 1) := by decide +kernel
theorem d_P_isPlain_58 : decode c_P_isPlain 58 = .ok (.bipush 126, 2) := by decide +kernel
theorem d_P_isPlain_60 : decode c_P_isPlain 60 = .ok (.if_icmp .gt 13, 3) := by decide +kernel
theorem d_P_isPlain_63 : decode c_P_isPlain 63 = .ok (.iload_n 3, 1) := by decide +kernel
theorem d_P_isPlain_64 : decode c_P_isPlain 64 = .ok (.bipush 61, 2) := by decide +kernel
theorem d_P_isPlain_66 : decode c_P_isPlain 66 = .ok (.if_icmp .eq 7, 3) := by decide +kernel
theorem d_P_isPlain_69 : decode c_P_isPlain 69 = .ok (.iconst 1, 1) := by decide +kernel
theorem d_P_isPlain_70 : decode c_P_isPlain 70 = .ok (.goto 4, 3) := by decide +kernel
theorem d_P_isPlain_73 : decode c_P_isPlain 73 = .ok (.iconst 0, 1) := by decide +kernel
theorem d_P_isPlain_74 : decode c_P_isPlain 74 = .ok (.ireturn, 1) := by decide +kernel
theorem d_P_printEscaped_0 : decode c_P_printEscaped 0 = .ok (.aload_n 0, 1) := by decide +kernel
theorem d_P_printEscaped_1 : decode c_P_printEscaped 1 = .ok (.getfield 20, 3) := by decide +kernel
theorem d_P_printEscaped_4 : decode c_P_printEscaped 4 = .ok (.bipush 61, 2) := by decide +kernel
theorem d_P_printEscaped_6 : decode c_P_printEscaped 6 = .ok (.invokevirtual 146, 3) := by decide +kernel
theorem d_P_printEscaped_9 : decode c_P_printEscaped 9 = .ok (.aload_n 0, 1) := by decide +kernel
theorem d_P_printEscaped_10 : decode c_P_printEscaped 10 = .ok (.getfield 20, 3) := by decide +kernel
theorem d_P_printEscaped_13 : decode c_P_printEscaped 13 = .ok (.ldc 164, 2) := by decide +kernel
theorem d_P_printEscaped_15 : decode c_P_printEscaped 15 = .ok (.iload_n 1, 1) := by decide +kernel
theorem d_P_printEscaped_16 : decode c_P_printEscaped 16 = .ok (.iconst 4, 1) := by decide +kernel
theorem d_P_printEscaped_17 : decode c_P_printEscaped 17 = .ok (.ishr, 1) := by decide +kernel
theorem d_P_printEscaped_18 : decode c_P_printEscaped 18 = .ok (.bipush 15, 2) := by decide +kernel
theorem d_P_printEscaped_20 : decode c_P_printEscaped 20 = .ok (.iand, 1) := by decide +kernel
theorem d_P_printEscaped_21 : decode c_P_printEscaped 21 = .ok (.invokevirtual 140, 3) := by decide +kernel
theorem d_P_printEscaped_24 : decode c_P_printEscaped 24 = .ok (.invokevirtual 146, 3) := by decide +kernel
theorem d_P_printEscaped_27 : decode c_P_printEscaped 27 = .ok (.aload_n 0, 1) := by decide +kernel
theorem d_P_printEscaped_28 : decode c_P_printEscaped 28 = .ok (.getfield 20, 3) := by decide +kernel
theorem d_P_printEscaped_31 : decode c_P_printEscaped 31 = .ok (.ldc 164, 2) := by decide +kernel
theorem d_P_printEscaped_33 : decode c_P_printEscaped 33 = .ok (.iload_n 1, 1) := by decide +kernel
theorem d_P_printEscaped_34 : decode c_P_printEscaped 34 = .ok (.bipush 15, 2) := by decide +kernel
theorem d_P_printEscaped_36 : decode c_P_printEscaped 36 = .ok (.iand, 1) := by decide +kernel
theorem d_P_printEscaped_37 : decode c_P_printEscaped 37 = .ok (.invokevirtual 140, 3) := by decide +kernel
theorem d_P_printEscaped_40 : decode c_P_printEscaped 40 = .ok (.invokevirtual 146, 3) := by decide +kernel
theorem d_P_printEscaped_43 : decode c_P_printEscaped 43 = .ok (.return_, 1) := by decide +kernel
theorem d_P_printMark_0 : decode c_P_printMark 0 = .ok (.aload_n 0, 1) := by decide +kernel
theorem d_P_printMark_1 : decode c_P_printMark 1 = .ok (.getfield 20, 3) := by decide +kernel
theorem d_P_printMark_4 : decode c_P_printMark 4 = .ok (.ldc 63, 2) := by decide +kernel
theorem d_P_printMark_6 : decode c_P_printMark 6 = .ok (.invokevirtual 40, 3) := by decide +kernel
theorem d_P_printMark_9 : decode c_P_printMark 9 = .ok (.aload_n 0, 1) := by decide +kernel
theorem d_P_printMark_10 : decode c_P_printMark 10 = .ok (.getfield 20, 3) := by decide +kernel
theorem d_P_printMark_13 : decode c_P_printMark 13 = .ok (.aload_n 0, 1) := by decide +kernel
theorem d_P_printMark_14 : decode c_P_printMark 14 = .ok (.getfield 9, 3) := by decide +kernel
theorem d_P_printMark_17 : decode c_P_printMark 17 = .ok (.getfield 98, 3) := by decide +kernel
theorem d_P_printMark_20 : decode c_P_printMark 20 = .ok (.aload_n 1, 1) := by decide +kernel
theorem d_P_printMark_21 : decode c_P_printMark 21 = .ok (.getfield 101, 3) := by decide +kernel
theorem d_P_printMark_24 : decode c_P_printMark 24 = .ok (.aload_n 1, 1) := by decide +kernel
theorem d_P_printMark_25 : decode c_P_printMark 25 = .ok (.getfield 101, 3) := by decide +kernel
theorem d_P_printMark_28 : decode c_P_printMark 28 = .ok (.aload_n 1, 1) := by decide +kernel
theorem d_P_printMark_29 : decode c_P_printMark 29 = .ok (.getfield 104, 3) := by decide +kernel
theorem d_P_printMark_32 : decode c_P_printMark 32 = .ok (.iadd, 1) := by decide +kernel
theorem d_P_printMark_33 : decode c_P_printMark 33 = .ok (.invokevirtual 83, 3) := by decide +kernel
theorem d_P_printMark_36 : decode c_P_printMark 36 = .ok (.aload_n 0, 1) := by decide +kernel
theorem d_P_printMark_37 : decode c_P_printMark 37 = .ok (.getfield 20, 3) := by decide +kernel
theorem d_P_printMark_40 : decode c_P_printMark 40 = .ok (.aload_n 2, 1) := by decide +kernel
theorem d_P_printMark_41 : decode c_P_printMark 41 = .ok (.invokevirtual 40, 3) := by decide +kernel
theorem d_P_printMark_44 : decode c_P_printMark 44 = .ok (.return_, 1) := by decide +kernel
theorem d_S_init_0 : decode c_S_init 0 = .ok (.aload_n 0, 1) := by decide +kernel
theorem d_S_init_1 : decode c_S_init 1 = .ok (.invokespecial 3, 3) := by decide +kernel
theorem d_S_init_4 : decode c_S_init 4 = .ok (.aload_n 0, 1) := by decide +kernel
theorem d_S_init_5 : decode c_S_init 5 = .ok (.aload_n 1, 1) := by decide +kernel
theorem d_S_init_6 : decode c_S_init 6 = .ok (.putfield 9, 3) := by decide +kernel
theorem d_S_init_9 : decode c_S_init 9 = .ok (.aload_n 0, 1) := by decide +kernel
theorem d_S_init_10 : decode c_S_init 10 = .ok (.new 15, 3) := by decide +kernel
theorem d_S_init_13 : decode c_S_init 13 = .ok (.dup, 1) := by decide +kernel
theorem d_S_init_14 : decode c_S_init 14 = .ok (.sipush 320, 3) := by decide +kernel
theorem d_S_init_17 : decode c_S_init 17 = .ok (.invokespecial 17, 3) := by decide +kernel
theorem d_S_init_20 : decode c_S_init 20 = .ok (.putfield 20, 3) := by decide +kernel
theorem d_S_init_23 : decode c_S_init 23 = .ok (.return_, 1) := by decide +kernel
theorem d_S_start_0 : decode c_S_start 0 = .ok (.aload_n 0, 1) := by decide +kernel
theorem d_S_start_1 : decode c_S_start 1 = .ok (.aload_n 1, 1) := by decide +kernel
theorem d_S_start_2 : decode c_S_start 2 = .ok (.getfield 23, 3) := by decide +kernel
theorem d_S_start_5 : decode c_S_start 5 = .ok (.putfield 29, 3) := by decide +kernel
theorem d_S_start_8 : decode c_S_start 8 = .ok (.aload_n 0, 1) := by decide +kernel
theorem d_S_start_9 : decode c_S_start 9 = .ok (.aload_n 1, 1) := by decide +kernel
theorem d_S_start_10 : decode c_S_start 10 = .ok (.getfield 23, 3) := by decide +kernel
theorem d_S_start_13 : decode c_S_start 13 = .ok (.aload_n 1, 1) := by decide +kernel
theorem d_S_start_14 : decode c_S_start 14 = .ok (.getfield 32, 3) := by decide +kernel
theorem d_S_start_17 : decode c_S_start 17 = .ok (.iadd, 1) := by decide +kernel
theorem d_S_start_18 : decode c_S_start 18 = .ok (.putfield 35, 3) := by decide +kernel
theorem d_S_start_21 : decode c_S_start 21 = .ok (.return_, 1) := by decide +kernel
theorem d_S_skipSpace_0 : decode c_S_skipSpace 0 = .ok (.iconst 0, 1) := by decide +kernel
theorem d_S_skipSpace_1 : decode c_S_skipSpace 1 = .ok (.istore_n 1, 1) := by decide +kernel
theorem d_S_skipSpace_2 : decode c_S_skipSpace 2 = .ok (.aload_n 0, 1) := by decide +kernel
theorem d_S_skipSpace_3 : decode c_S_skipSpace 3 = .ok (.getfield 29, 3) := by decide +kernel
theorem d_S_skipSpace_6 : decode c_S_skipSpace 6 = .ok (.aload_n 0, 1) := by decide +kernel
theorem d_S_skipSpace_7 : decode c_S_skipSpace 7 = .ok (.getfield 35, 3) := by decide +kernel
theorem d_S_skipSpace_10 : decode c_S_skipSpace 10 = .ok (.if_icmp .ge 86, 3) := by decide +kernel
theorem d_S_skipSpace_13 : decode c_S_skipSpace 13 = .ok (.aload_n 0, 1) := by decide +kernel
theorem d_S_skipSpace_14 : decode c_S_skipSpace 14 = .ok (.getfield 9, 3) := by decide +kernel
theorem d_S_skipSpace_17 : decode c_S_skipSpace 17 = .ok (.aload_n 0, 1) := by decide +kernel
theorem d_S_skipSpace_18 : decode c_S_skipSpace 18 = .ok (.getfield 29, 3) := by decide +kernel
theorem d_S_skipSpace_21 : decode c_S_skipSpace 21 = .ok (.invokevirtual 38, 3) := by decide +kernel
theorem d_S_skipSpace_24 : decode c_S_skipSpace 24 = .ok (.istore_n 2, 1) := by decide +kernel
theorem d_S_skipSpace_25 : decode c_S_skipSpace 25 = .ok (.iload_n 1, 1) := by decide +kernel
theorem d_S_skipSpace_26 : decode c_S_skipSpace 26 = .ok (.ifCond .ne 17, 3) := by decide +kernel
theorem d_S_skipSpace_29 : decode c_S_skipSpace 29 = .ok (.iload_n 2, 1) := by decide +kernel
end
section
theorem d_S_skipSpace_30 : decode c_S_skipSpace 30 = .ok (.bipush 40, 2) := by decide +kernel
theorem d_S_skipSpace_32 : decode c_S_skipSpace 32 = .ok (.if_icmp .eq 11, 3) := by decide +kernel
theorem d_S_skipSpace_35 : decode c_S_skipSpace 35 = .ok (.iload_n 2, 1) := by decide +kernel
theorem d_S_skipSpace_36 : decode c_S_skipSpace 36 = .ok (.invokestatic 42, 3) := by decide +kernel
theorem d_S_skipSpace_39 : decode c_S_skipSpace 39 = .ok (.ifCond .ne 4, 3) := by decide +kernel
theorem d_S_skipSpace_42 : decode c_S_skipSpace 42 = .ok (.return_, 1) := by decide +kernel
theorem d_S_skipSpace_43 : decode c_S_skipSpace 43 = .ok (.iload_n 2, 1) := by decide +kernel
theorem d_S_skipSpace_44 : decode c_S_skipSpace 44 = .ok (.bipush 40, 2) := by decide +kernel
theorem d_S_skipSpace_46 : decode c_S_skipSpace 46 = .ok (.if_icmp .ne 9, 3) := by decide +kernel
theorem d_S_skipSpace_49 : decode c_S_skipSpace 49 = .ok (.iinc 1 1, 3) := by decide +kernel
theorem d_S_skipSpace_52 : decode c_S_skipSpace 52 = .ok (.goto 31, 3) := by decide +kernel
theorem d_S_skipSpace_55 : decode c_S_skipSpace 55 = .ok (.iload_n 2, 1) := by decide +kernel
theorem d_S_skipSpace_56 : decode c_S_skipSpace 56 = .ok (.bipush 41, 2) := by decide +kernel
theorem d_S_skipSpace_58 : decode c_S_skipSpace 58 = .ok (.if_icmp .ne 9, 3) := by decide +kernel
theorem d_S_skipSpace_61 : decode c_S_skipSpace 61 = .ok (.iinc 1 (-1), 3) := by decide +kernel
theorem d_S_skipSpace_64 : decode c_S_skipSpace 64 = .ok (.goto 19, 3) := by decide +kernel
theorem d_S_skipSpace_67 : decode c_S_skipSpace 67 = .ok (.iload_n 2, 1) := by decide +kernel
theorem d_S_skipSpace_68 : decode c_S_skipSpace 68 = .ok (.bipush 92, 2) := by decide +kernel
theorem d_S_skipSpace_70 : decode c_S_skipSpace 70 = .ok (.if_icmp .ne 13, 3) := by decide +kernel
theorem d_S_skipSpace_73 : decode c_S_skipSpace 73 = .ok (.aload_n 0, 1) := by decide +kernel
theorem d_S_skipSpace_74 : decode c_S_skipSpace 74 = .ok (.dup, 1) := by decide +kernel
theorem d_S_skipSpace_75 : decode c_S_skipSpace 75 = .ok (.getfield 29, 3) := by decide +kernel
theorem d_S_skipSpace_78 : decode c_S_skipSpace 78 = .ok (.iconst 1, 1) := by decide +kernel
theorem d_S_skipSpace_79 : decode c_S_skipSpace 79 = .ok (.iadd, 1) := by decide +kernel
theorem d_S_skipSpace_80 : decode c_S_skipSpace 80 = .ok (.putfield 29, 3) := by decide +kernel
theorem d_S_skipSpace_83 : decode c_S_skipSpace 83 = .ok (.aload_n 0, 1) := by decide +kernel
theorem d_S_skipSpace_84 : decode c_S_skipSpace 84 = .ok (.dup, 1) := by decide +kernel
theorem d_S_skipSpace_85 : decode c_S_skipSpace 85 = .ok (.getfield 29, 3) := by decide +kernel
theorem d_S_skipSpace_88 : decode c_S_skipSpace 88 = .ok (.iconst 1, 1) := by decide +kernel
theorem d_S_skipSpace_89 : decode c_S_skipSpace 89 = .ok (.iadd, 1) := by decide +kernel
theorem d_S_skipSpace_90 : decode c_S_skipSpace 90 = .ok (.putfield 29, 3) := by decide +kernel
theorem d_S_skipSpace_93 : decode c_S_skipSpace 93 = .ok (.goto (-91), 3) := by decide +kernel
theorem d_S_skipSpace_96 : decode c_S_skipSpace 96 = .ok (.aload_n 0, 1) := by decide +kernel
theorem d_S_skipSpace_97 : decode c_S_skipSpace 97 = .ok (.aload_n 0, 1) := by decide +kernel
theorem d_S_skipSpace_98 : decode c_S_skipSpace 98 = .ok (.getfield 35, 3) := by decide +kernel
theorem d_S_skipSpace_101 : decode c_S_skipSpace 101 = .ok (.putfield 29, 3) := by decide +kernel
theorem d_S_skipSpace_104 : decode c_S_skipSpace 104 = .ok (.return_, 1) := by decide +kernel
theorem d_S_takeAtom_0 : decode c_S_takeAtom 0 = .ok (.aload_n 0, 1) := by decide +kernel
theorem d_S_takeAtom_1 : decode c_S_takeAtom 1 = .ok (.getfield 20, 3) := by decide +kernel
theorem d_S_takeAtom_4 : decode c_S_takeAtom 4 = .ok (.invokevirtual 46, 3) := by decide +kernel
theorem d_S_takeAtom_7 : decode c_S_takeAtom 7 = .ok (.aload_n 0, 1) := by decide +kernel
theorem d_S_takeAtom_8 : decode c_S_takeAtom 8 = .ok (.getfield 29, 3) := by decide +kernel
theorem d_S_takeAtom_11 : decode c_S_takeAtom 11 = .ok (.aload_n 0, 1) := by decide +kernel
theorem d_S_takeAtom_12 : decode c_S_takeAtom 12 = .ok (.getfield 35, 3) := by decide +kernel
theorem d_S_takeAtom_15 : decode c_S_takeAtom 15 = .ok (.if_icmp .ge 51, 3) := by decide +kernel
theorem d_S_takeAtom_18 : decode c_S_takeAtom 18 = .ok (.aload_n 0, 1) := by decide +kernel
theorem d_S_takeAtom_19 : decode c_S_takeAtom 19 = .ok (.getfield 9, 3) := by decide +kernel
theorem d_S_takeAtom_22 : decode c_S_takeAtom 22 = .ok (.aload_n 0, 1) := by decide +kernel
theorem d_S_takeAtom_23 : decode c_S_takeAtom 23 = .ok (.getfield 29, 3) := by decide +kernel
theorem d_S_takeAtom_26 : decode c_S_takeAtom 26 = .ok (.invokevirtual 38, 3) := by decide +kernel
theorem d_S_takeAtom_29 : decode c_S_takeAtom 29 = .ok (.invokestatic 49, 3) := by decide +kernel
theorem d_S_takeAtom_32 : decode c_S_takeAtom 32 = .ok (.ifCond .eq 34, 3) := by decide +kernel
theorem d_S_takeAtom_35 : decode c_S_takeAtom 35 = .ok (.aload_n 0, 1) := by decide +kernel
theorem d_S_takeAtom_36 : decode c_S_takeAtom 36 = .ok (.getfield 20, 3) := by decide +kernel
theorem d_S_takeAtom_39 : decode c_S_takeAtom 39 = .ok (.aload_n 0, 1) := by decide +kernel
theorem d_S_takeAtom_40 : decode c_S_takeAtom 40 = .ok (.getfield 9, 3) := by decide +kernel
theorem d_S_takeAtom_43 : decode c_S_takeAtom 43 = .ok (.aload_n 0, 1) := by decide +kernel
theorem d_S_takeAtom_44 : decode c_S_takeAtom 44 = .ok (.getfield 29, 3) := by decide +kernel
theorem d_S_takeAtom_47 : decode c_S_takeAtom 47 = .ok (.invokevirtual 38, 3) := by decide +kernel
theorem d_S_takeAtom_50 : decode c_S_takeAtom 50 = .ok (.invokevirtual 52, 3) := by decide +kernel
theorem d_S_takeAtom_53 : decode c_S_takeAtom 53 = .ok (.aload_n 0, 1) := by decide +kernel
theorem d_S_takeAtom_54 : decode c_S_takeAtom 54 = .ok (.dup, 1) := by decide +kernel
theorem d_S_takeAtom_55 : decode c_S_takeAtom 55 = .ok (.getfield 29, 3) := by decide +kernel
theorem d_S_takeAtom_58 : decode c_S_takeAtom 58 = .ok (.iconst 1, 1) := by decide +kernel
theorem d_S_takeAtom_59 : decode c_S_takeAtom 59 = .ok (.iadd, 1) := by decide +kernel
theorem d_S_takeAtom_60 : decode c_S_takeAtom 60 = .ok (.putfield 29, 3) := by decide +kernel
theorem d_S_takeAtom_63 : decode c_S_takeAtom 63 = .ok (.goto (-56), 3) := by decide +kernel
theorem d_S_takeAtom_66 : decode c_S_takeAtom 66 = .ok (.aload_n 0, 1) := by decide +kernel
theorem d_S_takeAtom_67 : decode c_S_takeAtom 67 = .ok (.getfield 20, 3) := by decide +kernel
theorem d_S_takeAtom_70 : decode c_S_takeAtom 70 = .ok (.getfield 55, 3) := by decide +kernel
theorem d_S_takeAtom_73 : decode c_S_takeAtom 73 = .ok (.ifCond .le 7, 3) := by decide +kernel
theorem d_S_takeAtom_76 : decode c_S_takeAtom 76 = .ok (.iconst 1, 1) := by decide +kernel
theorem d_S_takeAtom_77 : decode c_S_takeAtom 77 = .ok (.goto 4, 3) := by decide +kernel
theorem d_S_takeAtom_80 : decode c_S_takeAtom 80 = .ok (.iconst 0, 1) := by decide +kernel
theorem d_S_takeAtom_81 : decode c_S_takeAtom 81 = .ok (.ireturn, 1) := by decide +kernel
theorem d_S_wordIs_0 : decode c_S_wordIs 0 = .ok (.aload_n 0, 1) := by decide +kernel
theorem d_S_wordIs_1 : decode c_S_wordIs 1 = .ok (.getfield 20, 3) := by decide +kernel
theorem d_S_wordIs_4 : decode c_S_wordIs 4 = .ok (.aload_n 1, 1) := by decide +kernel
theorem d_S_wordIs_5 : decode c_S_wordIs 5 = .ok (.iconst 0, 1) := by decide +kernel
theorem d_S_wordIs_6 : decode c_S_wordIs 6 = .ok (.aload_n 0, 1) := by decide +kernel
theorem d_S_wordIs_7 : decode c_S_wordIs 7 = .ok (.getfield 20, 3) := by decide +kernel
theorem d_S_wordIs_10 : decode c_S_wordIs 10 = .ok (.getfield 55, 3) := by decide +kernel
theorem d_S_wordIs_13 : decode c_S_wordIs 13 = .ok (.invokevirtual 81, 3) := by decide +kernel
theorem d_S_wordIs_16 : decode c_S_wordIs 16 = .ok (.ireturn, 1) := by decide +kernel
theorem d_S_take_0 : decode c_S_take 0 = .ok (.aload_n 0, 1) := by decide +kernel
theorem d_S_take_1 : decode c_S_take 1 = .ok (.getfield 29, 3) := by decide +kernel
theorem d_S_take_4 : decode c_S_take 4 = .ok (.aload_n 0, 1) := by decide +kernel
theorem d_S_take_5 : decode c_S_take 5 = .ok (.getfield 35, 3) := by decide +kernel
theorem d_S_take_8 : decode c_S_take 8 = .ok (.if_icmp .ge 18, 3) := by decide +kernel
theorem d_S_take_11 : decode c_S_take 11 = .ok (.aload_n 0, 1) := by decide +kernel
theorem d_S_take_12 : decode c_S_take 12 = .ok (.getfield 9, 3) := by decide +kernel
theorem d_S_take_15 : decode c_S_take 15 = .ok (.aload_n 0, 1) := by decide +kernel
theorem d_S_take_16 : decode c_S_take 16 = .ok (.getfield 29, 3) := by decide +kernel
theorem d_S_take_19 : decode c_S_take 19 = .ok (.invokevirtual 38, 3) := by decide +kernel
theorem d_S_take_22 : decode c_S_take 22 = .ok (.iload_n 1, 1) := by decide +kernel
theorem d_S_take_23 : decode c_S_take 23 = .ok (.if_icmp .eq 5, 3) := by decide +kernel
theorem d_S_take_26 : decode c_S_take 26 = .ok (.iconst 0, 1) := by decide +kernel
theorem d_S_take_27 : decode c_S_take 27 = .ok (.ireturn, 1) := by decide +kernel
theorem d_S_take_28 : decode c_S_take 28 = .ok (.aload_n 0, 1) := by decide +kernel
theorem d_S_take_29 : decode c_S_take 29 = .ok (.dup, 1) := by decide +kernel
theorem d_S_take_30 : decode c_S_take 30 = .ok (.getfield 29, 3) := by decide +kernel
theorem d_S_take_33 : decode c_S_take 33 = .ok (.iconst 1, 1) := by decide +kernel
theorem d_S_take_34 : decode c_S_take 34 = .ok (.iadd, 1) := by decide +kernel
theorem d_S_take_35 : decode c_S_take 35 = .ok (.putfield 29, 3) := by decide +kernel
theorem d_S_take_38 : decode c_S_take 38 = .ok (.iconst 1, 1) := by decide +kernel
theorem d_S_take_39 : decode c_S_take 39 = .ok (.ireturn, 1) := by decide +kernel
theorem d_S_takeParameter_0 : decode c_S_takeParameter 0 = .ok (.aload_n 0, 1) := by decide +kernel
theorem d_S_takeParameter_1 : decode c_S_takeParameter 1 = .ok (.iconst 0, 1) := by decide +kernel
theorem d_S_takeParameter_2 : decode c_S_takeParameter 2 = .ok (.putfield 61, 3) := by decide +kernel
theorem d_S_takeParameter_5 : decode c_S_takeParameter 5 = .ok (.aload_n 0, 1) := by decide +kernel
theorem d_S_takeParameter_6 : decode c_S_takeParameter 6 = .ok (.bipush 59, 2) := by decide +kernel
theorem d_S_takeParameter_8 : decode c_S_takeParameter 8 = .ok (.invokevirtual 58, 3) := by decide +kernel
theorem d_S_takeParameter_11 : decode c_S_takeParameter 11 = .ok (.ifCond .ne 5, 3) := by decide +kernel
theorem d_S_takeParameter_14 : decode c_S_takeParameter 14 = .ok (.iconst 0, 1) := by decide +kernel
theorem d_S_takeParameter_15 : decode c_S_takeParameter 15 = .ok (.ireturn, 1) := by decide +kernel
theorem d_S_takeParameter_16 : decode c_S_takeParameter 16 = .ok (.aload_n 0, 1) := by decide +kernel
theorem d_S_takeParameter_17 : decode c_S_takeParameter 17 = .ok (.invokevirtual 65, 3) := by decide +kernel
theorem d_S_takeParameter_20 : decode c_S_takeParameter 20 = .ok (.aload_n 0, 1) := by decide +kernel
theorem d_S_takeParameter_21 : decode c_S_takeParameter 21 = .ok (.invokevirtual 68, 3) := by decide +kernel
theorem d_S_takeParameter_24 : decode c_S_takeParameter 24 = .ok (.ifCond .ne 5, 3) := by decide +kernel
theorem d_S_takeParameter_27 : decode c_S_takeParameter 27 = .ok (.iconst 0, 1) := by decide +kernel
theorem d_S_takeParameter_28 : decode c_S_takeParameter 28 = .ok (.ireturn, 1) := by decide +kernel
theorem d_S_takeParameter_29 : decode c_S_takeParameter 29 = .ok (.aload_n 0, 1) := by decide +kernel
theorem d_S_takeParameter_30 : decode c_S_takeParameter 30 = .ok (.aload_n 0, 1) := by decide +kernel
theorem d_S_takeParameter_31 : decode c_S_takeParameter 31 = .ok (.ldc 72, 2) := by decide +kernel
theorem d_S_takeParameter_33 : decode c_S_takeParameter 33 = .ok (.invokevirtual 74, 3) := by decide +kernel
theorem d_S_takeParameter_36 : decode c_S_takeParameter 36 = .ok (.putfield 61, 3) := by decide +kernel
theorem d_S_takeParameter_39 : decode c_S_takeParameter 39 = .ok (.aload_n 0, 1) := by decide +kernel
theorem d_S_takeParameter_40 : decode c_S_takeParameter 40 = .ok (.invokevirtual 65, 3) := by decide +kernel
theorem d_S_takeParameter_43 : decode c_S_takeParameter 43 = .ok (.aload_n 0, 1) := by decide +kernel
theorem d_S_takeParameter_44 : decode c_S_takeParameter 44 = .ok (.bipush 61, 2) := by decide +kernel
theorem d_S_takeParameter_46 : decode c_S_takeParameter 46 = .ok (.invokevirtual 58, 3) := by decide +kernel
theorem d_S_takeParameter_49 : decode c_S_takeParameter 49 = .ok (.ifCond .ne 5, 3) := by decide +kernel
theorem d_S_takeParameter_52 : decode c_S_takeParameter 52 = .ok (.iconst 0, 1) := by decide +kernel
theorem d_S_takeParameter_53 : decode c_S_takeParameter 53 = .ok (.ireturn, 1) := by decide +kernel
theorem d_S_takeParameter_54 : decode c_S_takeParameter 54 = .ok (.aload_n 0, 1) := by decide +kernel
theorem d_S_takeParameter_55 : decode c_S_takeParameter 55 = .ok (.invokevirtual 65, 3) := by decide +kernel
theorem d_S_takeParameter_58 : decode c_S_takeParameter 58 = .ok (.aload_n 0, 1) := by decide +kernel
theorem d_S_takeParameter_59 : decode c_S_takeParameter 59 = .ok (.invokevirtual 68, 3) := by decide +kernel
theorem d_S_takeParameter_62 : decode c_S_takeParameter 62 = .ok (.ifCond .ne 12, 3) := by decide +kernel
theorem d_S_takeParameter_65 : decode c_S_takeParameter 65 = .ok (.aload_n 0, 1) := by decide +kernel
theorem d_S_takeParameter_66 : decode c_S_takeParameter 66 = .ok (.invokevirtual 78, 3) := by decide +kernel
theorem d_S_takeParameter_69 : decode c_S_takeParameter 69 = .ok (.ifCond .ne 5, 3) := by decide +kernel
theorem d_S_takeParameter_72 : decode c_S_takeParameter 72 = .ok (.iconst 0, 1) := by decide +kernel
theorem d_S_takeParameter_73 : decode c_S_takeParameter 73 = .ok (.ireturn, 1) := by decide +kernel
theorem d_S_takeParameter_74 : decode c_S_takeParameter 74 = .ok (.aload_n 0, 1) := by decide +kernel
theorem d_S_takeParameter_75 : decode c_S_takeParameter 75 = .ok (.invokevirtual 65, 3) := by decide +kernel
theorem d_S_takeParameter_78 : decode c_S_takeParameter 78 = .ok (.iconst 1, 1) := by decide +kernel
theorem d_S_takeParameter_79 : decode c_S_takeParameter 79 = .ok (.ireturn, 1) := by decide +kernel
theorem d_S_takeQuoted_0 : decode c_S_takeQuoted 0 = .ok (.aload_n 0, 1) := by decide +kernel
theorem d_S_takeQuoted_1 : decode c_S_takeQuoted 1 = .ok (.getfield 20, 3) := by decide +kernel
theorem d_S_takeQuoted_4 : decode c_S_takeQuoted 4 = .ok (.invokevirtual 46, 3) := by decide +kernel
theorem d_S_takeQuoted_7 : decode c_S_takeQuoted 7 = .ok (.aload_n 0, 1) := by decide +kernel
theorem d_S_takeQuoted_8 : decode c_S_takeQuoted 8 = .ok (.bipush 34, 2) := by decide +kernel
theorem d_S_takeQuoted_10 : decode c_S_takeQuoted 10 = .ok (.invokevirtual 58, 3) := by decide +kernel
theorem d_S_takeQuoted_13 : decode c_S_takeQuoted 13 = .ok (.ifCond .ne 5, 3) := by decide +kernel
theorem d_S_takeQuoted_16 : decode c_S_takeQuoted 16 = .ok (.iconst 0, 1) := by decide +kernel
theorem d_S_takeQuoted_17 : decode c_S_takeQuoted 17 = .ok (.ireturn, 1) := by decide +kernel
theorem d_S_takeQuoted_18 : decode c_S_takeQuoted 18 = .ok (.aload_n 0, 1) := by decide +kernel
theorem d_S_takeQuoted_19 : decode c_S_takeQuoted 19 = .ok (.getfield 29, 3) := by decide +kernel
theorem d_S_takeQuoted_22 : decode c_S_takeQuoted 22 = .ok (.aload_n 0, 1) := by decide +kernel
theorem d_S_takeQuoted_23 : decode c_S_takeQuoted 23 = .ok (.getfield 35, 3) := by decide +kernel
theorem d_S_takeQuoted_26 : decode c_S_takeQuoted 26 = .ok (.if_icmp .ge 101, 3) := by decide +kernel
theorem d_S_takeQuoted_29 : decode c_S_takeQuoted 29 = .ok (.aload_n 0, 1) := by decide +kernel
theorem d_S_takeQuoted_30 : decode c_S_takeQuoted 30 = .ok (.getfield 9, 3) := by decide +kernel
theorem d_S_takeQuoted_33 : decode c_S_takeQuoted 33 = .ok (.aload_n 0, 1) := by decide +kernel
theorem d_S_takeQuoted_34 : decode c_S_takeQuoted 34 = .ok (.getfield 29, 3) := by decide +kernel
theorem d_S_takeQuoted_37 : decode c_S_takeQuoted 37 = .ok (.invokevirtual 38, 3) := by decide +kernel
theorem d_S_takeQuoted_40 : decode c_S_takeQuoted 40 = .ok (.bipush 34, 2) := by decide +kernel
theorem d_S_takeQuoted_42 : decode c_S_takeQuoted 42 = .ok (.if_icmp .ne 15, 3) := by decide +kernel
theorem d_S_takeQuoted_45 : decode c_S_takeQuoted 45 = .ok (.aload_n 0, 1) := by decide +kernel
theorem d_S_takeQuoted_46 : decode c_S_takeQuoted 46 = .ok (.dup, 1) := by decide +kernel
theorem d_S_takeQuoted_47 : decode c_S_takeQuoted 47 = .ok (.getfield 29, 3) := by decide +kernel
theorem d_S_takeQuoted_50 : decode c_S_takeQuoted 50 = .ok (.iconst 1, 1) := by decide +kernel
theorem d_S_takeQuoted_51 : decode c_S_takeQuoted 51 = .ok (.iadd, 1) := by decide +kernel
theorem d_S_takeQuoted_52 : decode c_S_takeQuoted 52 = .ok (.putfield 29, 3) := by decide +kernel
theorem d_S_takeQuoted_55 : decode c_S_takeQuoted 55 = .ok (.iconst 1, 1) := by decide +kernel
theorem d_S_takeQuoted_56 : decode c_S_takeQuoted 56 = .ok (.ireturn, 1) := by decide +kernel
theorem d_S_takeQuoted_57 : decode c_S_takeQuoted 57 = .ok (.aload_n 0, 1) := by decide +kernel
theorem d_S_takeQuoted_58 : decode c_S_takeQuoted 58 = .ok (.getfield 9, 3) := by decide +kernel
theorem d_S_takeQuoted_61 : decode c_S_takeQuoted 61 = .ok (.aload_n 0, 1) := by decide +kernel
theorem d_S_takeQuoted_62 : decode c_S_takeQuoted 62 = .ok (.getfield 29, 3) := by decide +kernel
theorem d_S_takeQuoted_65 : decode c_S_takeQuoted 65 = .ok (.invokevirtual 38, 3) := by decide +kernel
theorem d_S_takeQuoted_68 : decode c_S_takeQuoted 68 = .ok (.bipush 92, 2) := by decide +kernel
theorem d_S_takeQuoted_70 : decode c_S_takeQuoted 70 = .ok (.if_icmp .ne 26, 3) := by decide +kernel
theorem d_S_takeQuoted_73 : decode c_S_takeQuoted 73 = .ok (.aload_n 0, 1) := by decide +kernel
theorem d_S_takeQuoted_74 : decode c_S_takeQuoted 74 = .ok (.getfield 29, 3) := by decide +kernel
theorem d_S_takeQuoted_77 : decode c_S_takeQuoted 77 = .ok (.iconst 1, 1) := by decide +kernel
theorem d_S_takeQuoted_78 : decode c_S_takeQuoted 78 = .ok (.iadd, 1) := by decide +kernel
theorem d_S_takeQuoted_79 : decode c_S_takeQuoted 79 = .ok (.aload_n 0, 1) := by decide +kernel
theorem d_S_takeQuoted_80 : decode c_S_takeQuoted 80 = .ok (.getfield 35, 3) := by decide +kernel
theorem d_S_takeQuoted_83 : decode c_S_takeQuoted 83 = .ok (.if_icmp .ge 13, 3) := by decide +kernel
theorem d_S_takeQuoted_86 : decode c_S_takeQuoted 86 = .ok (.aload_n 0, 1) := by decide +kernel
theorem d_S_takeQuoted_87 : decode c_S_takeQuoted 87 = .ok (.dup, 1) := by decide +kernel
theorem d_S_takeQuoted_88 : decode c_S_takeQuoted 88 = .ok (.getfield 29, 3) := by decide +kernel
theorem d_S_takeQuoted_91 : decode c_S_takeQuoted 91 = .ok (.iconst 1, 1) := by decide +kernel
theorem d_S_takeQuoted_92 : decode c_S_takeQuoted 92 = .ok (.iadd, 1) := by decide +kernel
theorem d_S_takeQuoted_93 : decode c_S_takeQuoted 93 = .ok (.putfield 29, 3) := by decide +kernel
theorem d_S_takeQuoted_96 : decode c_S_takeQuoted 96 = .ok (.aload_n 0, 1) := by decide +kernel
theorem d_S_takeQuoted_97 : decode c_S_takeQuoted 97 = .ok (.getfield 20, 3) := by decide +kernel
theorem d_S_takeQuoted_100 : decode c_S_takeQuoted 100 = .ok (.aload_n 0, 1) := by decide +kernel
theorem d_S_takeQuoted_101 : decode c_S_takeQuoted 101 = .ok (.getfield 9, 3) := by decide +kernel
theorem d_S_takeQuoted_104 : decode c_S_takeQuoted 104 = .ok (.aload_n 0, 1) := by decide +kernel
theorem d_S_takeQuoted_105 : decode c_S_takeQuoted 105 = .ok (.getfield 29, 3) := by decide +kernel
theorem d_S_takeQuoted_108 : decode c_S_takeQuoted 108 = .ok (.invokevirtual 38, 3) := by decide +kernel
theorem d_S_takeQuoted_111 : decode c_S_takeQuoted 111 = .ok (.invokevirtual 52, 3) := by decide +kernel
theorem d_S_takeQuoted_114 : decode c_S_takeQuoted 114 = .ok (.aload_n 0, 1) := by decide +kernel
theorem d_S_takeQuoted_115 : decode c_S_takeQuoted 115 = .ok (.dup, 1) := by decide +kernel
theorem d_S_takeQuoted_116 : decode c_S_takeQuoted 116 = .ok (.getfield 29, 3) := by decide +kernel
theorem d_S_takeQuoted_119 : decode c_S_takeQuoted 119 = .ok (.iconst 1, 1) := by decide +kernel
theorem d_S_takeQuoted_120 : decode c_S_takeQuoted 120 = .ok (.iadd, 1) := by decide +kernel
theorem d_S_takeQuoted_121 : decode c_S_takeQuoted 121 = .ok (.putfield 29, 3) := by decide +kernel
theorem d_S_takeQuoted_124 : decode c_S_takeQuoted 124 = .ok (.goto (-106), 3) := by decide +kernel
theorem d_S_takeQuoted_127 : decode c_S_takeQuoted 127 = .ok (.iconst 0, 1) := by decide +kernel
theorem d_S_takeQuoted_128 : decode c_S_takeQuoted 128 = .ok (.ireturn, 1) := by decide +kernel
theorem d_S_wordCanBeBoundary_0 : decode c_S_wordCanBeBoundary 0 = .ok (.aload_n 0, 1) := by decide +kernel
theorem d_S_wordCanBeBoundary_1 : decode c_S_wordCanBeBoundary 1 = .ok (.getfield 20, 3) := by decide +kernel
theorem d_S_wordCanBeBoundary_4 : decode c_S_wordCanBeBoundary 4 = .ok (.getfield 55, 3) := by decide +kernel
theorem d_S_wordCanBeBoundary_7 : decode c_S_wordCanBeBoundary 7 = .ok (.iconst 1, 1) := by decide +kernel
theorem d_S_wordCanBeBoundary_8 : decode c_S_wordCanBeBoundary 8 = .ok (.if_icmp .lt 37, 3) := by decide +kernel
theorem d_S_wordCanBeBoundary_11 : decode c_S_wordCanBeBoundary 11 = .ok (.aload_n 0, 1) := by decide +kernel
theorem d_S_wordCanBeBoundary_12 : decode c_S_wordCanBeBoundary 12 = .ok (.getfield 20, 3) := by decide +kernel
theorem d_S_wordCanBeBoundary_15 : decode c_S_wordCanBeBoundary 15 = .ok (.getfield 55, 3) := by decide +kernel
theorem d_S_wordCanBeBoundary_18 : decode c_S_wordCanBeBoundary 18 = .ok (.bipush 20, 2) := by decide +kernel
theorem d_S_wordCanBeBoundary_20 : decode c_S_wordCanBeBoundary 20 = .ok (.if_icmp .gt 25, 3) := by decide +kernel
theorem d_S_wordCanBeBoundary_23 : decode c_S_wordCanBeBoundary 23 = .ok (.aload_n 0, 1) := by decide +kernel
theorem d_S_wordCanBeBoundary_24 : decode c_S_wordCanBeBoundary 24 = .ok (.getfield 20, 3) := by decide +kernel
theorem d_S_wordCanBeBoundary_27 : decode c_S_wordCanBeBoundary 27 = .ok (.aload_n 0, 1) := by decide +kernel
theorem d_S_wordCanBeBoundary_28 : decode c_S_wordCanBeBoundary 28 = .ok (.getfield 20, 3) := by decide +kernel
theorem d_S_wordCanBeBoundary_31 : decode c_S_wordCanBeBoundary 31 = .ok (.getfield 55, 3) := by decide +kernel
theorem d_S_wordCanBeBoundary_34 : decode c_S_wordCanBeBoundary 34 = .ok (.iconst 1, 1) := by decide +kernel
theorem d_S_wordCanBeBoundary_35 : decode c_S_wordCanBeBoundary 35 = .ok (.isub, 1) := by decide +kernel
theorem d_S_wordCanBeBoundary_36 : decode c_S_wordCanBeBoundary 36 = .ok (.invokevirtual 38, 3) := by decide +kernel
theorem d_S_wordCanBeBoundary_39 : decode c_S_wordCanBeBoundary 39 = .ok (.invokestatic 42, 3) := by decide +kernel
theorem d_S_wordCanBeBoundary_42 : decode c_S_wordCanBeBoundary 42 = .ok (.ifCond .eq 5, 3) := by decide +kernel
theorem d_S_wordCanBeBoundary_45 : decode c_S_wordCanBeBoundary 45 = .ok (.iconst 0, 1) := by decide +kernel
theorem d_S_wordCanBeBoundary_46 : decode c_S_wordCanBeBoundary 46 = .ok (.ireturn, 1) := by decide +kernel
theorem d_S_wordCanBeBoundary_47 : decode c_S_wordCanBeBoundary 47 = .ok (.iconst 0, 1) := by decide +kernel
theorem d_S_wordCanBeBoundary_48 : decode c_S_wordCanBeBoundary 48 = .ok (.istore_n 1, 1) := by decide +kernel
theorem d_S_wordCanBeBoundary_49 : decode c_S_wordCanBeBoundary 49 = .ok (.iload_n 1, 1) := by decide +kernel
theorem d_S_wordCanBeBoundary_50 : decode c_S_wordCanBeBoundary 50 = .ok (.aload_n 0, 1) := by decide +kernel
theorem d_S_wordCanBeBoundary_51 : decode c_S_wordCanBeBoundary 51 = .ok (.getfield 20, 3) := by decide +kernel
theorem d_S_wordCanBeBoundary_54 : decode c_S_wordCanBeBoundary 54 = .ok (.getfield 55, 3) := by decide +kernel
theorem d_S_wordCanBeBoundary_57 : decode c_S_wordCanBeBoundary 57 = .ok (.if_icmp .ge 37, 3) := by decide +kernel
theorem d_S_wordCanBeBoundary_60 : decode c_S_wordCanBeBoundary 60 = .ok (.aload_n 0, 1) := by decide +kernel
theorem d_S_wordCanBeBoundary_61 : decode c_S_wordCanBeBoundary 61 = .ok (.getfield 20, 3) := by decide +kernel
theorem d_S_wordCanBeBoundary_64 : decode c_S_wordCanBeBoundary 64 = .ok (.iload_n 1, 1) := by decide +kernel
theorem d_S_wordCanBeBoundary_65 : decode c_S_wordCanBeBoundary 65 = .ok (.invokevirtual 38, 3) := by decide +kernel
theorem d_S_wordCanBeBoundary_68 : decode c_S_wordCanBeBoundary 68 = .ok (.bipush 32, 2) := by decide +kernel
theorem d_S_wordCanBeBoundary_70 : decode c_S_wordCanBeBoundary 70 = .ok (.if_icmp .lt 16, 3) := by decide +kernel
theorem d_S_wordCanBeBoundary_73 : decode c_S_wordCanBeBoundary 73 = .ok (.aload_n 0, 1) := by decide +kernel
theorem d_S_wordCanBeBoundary_74 : decode c_S_wordCanBeBoundary 74 = .ok (.getfield 20, 3) := by decide +kernel
theorem d_S_wordCanBeBoundary_77 : decode c_S_wordCanBeBoundary 77 = .ok (.iload_n 1, 1) := by decide +kernel
theorem d_S_wordCanBeBoundary_78 : decode c_S_wordCanBeBoundary 78 = .ok (.invokevirtual 38, 3) := by decide +kernel
theorem d_S_wordCanBeBoundary_81 : decode c_S_wordCanBeBoundary 81 = .ok (.bipush 126, 2) := by decide +kernel
theorem d_S_wordCanBeBoundary_83 : decode c_S_wordCanBeBoundary 83 = .ok (.if_icmp .le 5, 3) := by decide +kernel
theorem d_S_wordCanBeBoundary_86 : decode c_S_wordCanBeBoundary 86 = .ok (.iconst 0, 1) := by decide +kernel
theorem d_S_wordCanBeBoundary_87 : decode c_S_wordCanBeBoundary 87 = .ok (.ireturn, 1) := by decide +kernel
theorem d_S_wordCanBeBoundary_88 : decode c_S_wordCanBeBoundary 88 = .ok (.iinc 1 1, 3) := by decide +kernel
theorem d_S_wordCanBeBoundary_91 : decode c_S_wordCanBeBoundary 91 = .ok (.goto (-42), 3) := by decide +kernel
theorem d_S_wordCanBeBoundary_94 : decode c_S_wordCanBeBoundary 94 = .ok (.iconst 1, 1) := by decide +kernel
theorem d_S_wordCanBeBoundary_95 : decode c_S_wordCanBeBoundary 95 = .ok (.ireturn, 1) := by decide +kernel
theorem d_T_init_0 : decode c_T_init 0 = .ok (.aload_n 0, 1) := by decide +kernel
theorem d_T_init_1 : decode c_T_init 1 = .ok (.invokespecial 3, 3) := by decide +kernel
theorem d_T_init_4 : decode c_T_init 4 = .ok (.aload_n 0, 1) := by decide +kernel
theorem d_T_init_5 : decode c_T_init 5 = .ok (.new 9, 3) := by decide +kernel
theorem d_T_init_8 : decode c_T_init 8 = .ok (.dup, 1) := by decide +kernel
theorem d_T_init_9 : decode c_T_init 9 = .ok (.sipush 320, 3) := by decide +kernel
theorem d_T_init_12 : decode c_T_init 12 = .ok (.invokespecial 11, 3) := by decide +kernel
theorem d_T_init_15 : decode c_T_init 15 = .ok (.putfield 14, 3) := by decide +kernel
theorem d_T_init_18 : decode c_T_init 18 = .ok (.aload_n 0, 1) := by decide +kernel
theorem d_T_init_19 : decode c_T_init 19 = .ok (.new 9, 3) := by decide +kernel
theorem d_T_init_22 : decode c_T_init 22 = .ok (.dup, 1) := by decide +kernel
theorem d_T_init_23 : decode c_T_init 23 = .ok (.sipush 320, 3) := by decide +kernel
theorem d_T_init_26 : decode c_T_init 26 = .ok (.invokespecial 11, 3) := by decide +kernel
theorem d_T_init_29 : decode c_T_init 29 = .ok (.putfield 20, 3) := by decide +kernel
theorem d_T_init_32 : decode c_T_init 32 = .ok (.aload_n 0, 1) := by decide +kernel
theorem d_T_init_33 : decode c_T_init 33 = .ok (.new 9, 3) := by decide +kernel
theorem d_T_init_36 : decode c_T_init 36 = .ok (.dup, 1) := by decide +kernel
theorem d_T_init_37 : decode c_T_init 37 = .ok (.sipush 320, 3) := by decide +kernel
theorem d_T_init_40 : decode c_T_init 40 = .ok (.invokespecial 11, 3) := by decide +kernel
theorem d_T_init_43 : decode c_T_init 43 = .ok (.putfield 23, 3) := by decide +kernel
theorem d_T_init_46 : decode c_T_init 46 = .ok (.aload_n 0, 1) := by decide +kernel
theorem d_T_init_47 : decode c_T_init 47 = .ok (.new 9, 3) := by decide +kernel
theorem d_T_init_50 : decode c_T_init 50 = .ok (.dup, 1) := by decide +kernel
theorem d_T_init_51 : decode c_T_init 51 = .ok (.sipush 320, 3) := by decide +kernel
theorem d_T_init_54 : decode c_T_init 54 = .ok (.invokespecial 11, 3) := by decide +kernel
theorem d_T_init_57 : decode c_T_init 57 = .ok (.putfield 26, 3) := by decide +kernel
theorem d_T_init_60 : decode c_T_init 60 = .ok (.aload_n 0, 1) := by decide +kernel
theorem d_T_init_61 : decode c_T_init 61 = .ok (.new 29, 3) := by decide +kernel
theorem d_T_init_64 : decode c_T_init 64 = .ok (.dup, 1) := by decide +kernel
theorem d_T_init_65 : decode c_T_init 65 = .ok (.aload_n 0, 1) := by decide +kernel
theorem d_T_init_66 : decode c_T_init 66 = .ok (.getfield 20, 3) := by decide +kernel
theorem d_T_init_69 : decode c_T_init 69 = .ok (.invokespecial 31, 3) := by decide +kernel
theorem d_T_init_72 : decode c_T_init 72 = .ok (.putfield 34, 3) := by decide +kernel
theorem d_T_init_75 : decode c_T_init 75 = .ok (.aload_n 0, 1) := by decide +kernel
theorem d_T_init_76 : decode c_T_init 76 = .ok (.new 38, 3) := by decide +kernel
theorem d_T_init_79 : decode c_T_init 79 = .ok (.dup, 1) := by decide +kernel
theorem d_T_init_80 : decode c_T_init 80 = .ok (.aload_n 0, 1) := by decide +kernel
theorem d_T_init_81 : decode c_T_init 81 = .ok (.getfield 14, 3) := by decide +kernel
theorem d_T_init_84 : decode c_T_init 84 = .ok (.aload_n 0, 1) := by decide +kernel
theorem d_T_init_85 : decode c_T_init 85 = .ok (.getfield 23, 3) := by decide +kernel
theorem d_T_init_88 : decode c_T_init 88 = .ok (.invokespecial 40, 3) := by decide +kernel
theorem d_T_init_91 : decode c_T_init 91 = .ok (.putfield 43, 3) := by decide +kernel
theorem d_T_init_94 : decode c_T_init 94 = .ok (.aload_n 0, 1) := by decide +kernel
theorem d_T_init_95 : decode c_T_init 95 = .ok (.bipush 16, 2) := by decide +kernel
theorem d_T_init_97 : decode c_T_init 97 = .ok (.anewarray 47, 3) := by decide +kernel
theorem d_T_init_100 : decode c_T_init 100 = .ok (.putfield 49, 3) := by decide +kernel
theorem d_T_init_103 : decode c_T_init 103 = .ok (.iconst 0, 1) := by decide +kernel
theorem d_T_init_104 : decode c_T_init 104 = .ok (.istore_n 1, 1) := by decide +kernel
theorem d_T_init_105 : decode c_T_init 105 = .ok (.iload_n 1, 1) := by decide +kernel
theorem d_T_init_106 : decode c_T_init 106 = .ok (.bipush 16, 2) := by decide +kernel
theorem d_T_init_108 : decode c_T_init 108 = .ok (.if_icmp .ge 22, 3) := by decide +kernel
theorem d_T_init_111 : decode c_T_init 111 = .ok (.aload_n 0, 1) := by decide +kernel
theorem d_T_init_112 : decode c_T_init 112 = .ok (.getfield 49, 3) := by decide +kernel
theorem d_T_init_115 : decode c_T_init 115 = .ok (.iload_n 1, 1) := by decide +kernel
theorem d_T_init_116 : decode c_T_init 116 = .ok (.new 47, 3) := by decide +kernel
theorem d_T_init_119 : decode c_T_init 119 = .ok (.dup, 1) := by decide +kernel
theorem d_T_init_120 : decode c_T_init 120 = .ok (.invokespecial 53, 3) := by decide +kernel
theorem d_T_init_123 : decode c_T_init 123 = .ok (.aastore, 1) := by decide +kernel
theorem d_T_init_124 : decode c_T_init 124 = .ok (.iinc 1 1, 3) := by decide +kernel
theorem d_T_init_127 : decode c_T_init 127 = .ok (.goto (-22), 3) := by decide +kernel
theorem d_T_init_130 : decode c_T_init 130 = .ok (.aload_n 0, 1) := by decide +kernel
theorem d_T_init_131 : decode c_T_init 131 = .ok (.iconst 0, 1) := by decide +kernel
theorem d_T_init_132 : decode c_T_init 132 = .ok (.putfield 54, 3) := by decide +kernel
theorem d_T_init_135 : decode c_T_init 135 = .ok (.return_, 1) := by decide +kernel
theorem d_T_start_0 : decode c_T_start 0 = .ok (.aload_n 0, 1) := by decide +kernel
theorem d_T_start_1 : decode c_T_start 1 = .ok (.getfield 14, 3) := by decide +kernel
theorem d_T_start_4 : decode c_T_start 4 = .ok (.invokevirtual 65, 3) := by decide +kernel
theorem d_T_start_7 : decode c_T_start 7 = .ok (.aload_n 0, 1) := by decide +kernel
theorem d_T_start_8 : decode c_T_start 8 = .ok (.getfield 14, 3) := by decide +kernel
theorem d_T_start_11 : decode c_T_start 11 = .ok (.aload_n 1, 1) := by decide +kernel
theorem d_T_start_12 : decode c_T_start 12 = .ok (.iconst 0, 1) := by decide +kernel
theorem d_T_start_13 : decode c_T_start 13 = .ok (.aload_n 1, 1) := by decide +kernel
theorem d_T_start_14 : decode c_T_start 14 = .ok (.getfield 68, 3) := by decide +kernel
theorem d_T_start_17 : decode c_T_start 17 = .ok (.invokevirtual 71, 3) := by decide +kernel
theorem d_T_start_20 : decode c_T_start 20 = .ok (.aload_n 0, 1) := by decide +kernel
theorem d_T_start_21 : decode c_T_start 21 = .ok (.getfield 20, 3) := by decide +kernel
theorem d_T_start_24 : decode c_T_start 24 = .ok (.invokevirtual 65, 3) := by decide +kernel
theorem d_T_start_27 : decode c_T_start 27 = .ok (.aload_n 0, 1) := by decide +kernel
theorem d_T_start_28 : decode c_T_start 28 = .ok (.getfield 23, 3) := by decide +kernel
theorem d_T_start_31 : decode c_T_start 31 = .ok (.invokevirtual 65, 3) := by decide +kernel
theorem d_T_start_34 : decode c_T_start 34 = .ok (.aload_n 0, 1) := by decide +kernel
theorem d_T_start_35 : decode c_T_start 35 = .ok (.getfield 26, 3) := by decide +kernel
theorem d_T_start_38 : decode c_T_start 38 = .ok (.invokevirtual 65, 3) := by decide +kernel
theorem d_T_start_41 : decode c_T_start 41 = .ok (.aload_n 0, 1) := by decide +kernel
theorem d_T_start_42 : decode c_T_start 42 = .ok (.iconst 0, 1) := by decide +kernel
theorem d_T_start_43 : decode c_T_start 43 = .ok (.putfield 54, 3) := by decide +kernel
theorem d_T_start_46 : decode c_T_start 46 = .ok (.return_, 1) := by decide +kernel
theorem d_T_readEntity_0 : decode c_T_readEntity 0 = .ok (.aload_n 0, 1) := by decide +kernel
theorem d_T_readEntity_1 : decode c_T_readEntity 1 = .ok (.getfield 54, 3) := by decide +kernel
theorem d_T_readEntity_4 : decode c_T_readEntity 4 = .ok (.ifCond .lt 17, 3) := by decide +kernel
theorem d_T_readEntity_7 : decode c_T_readEntity 7 = .ok (.aload_n 0, 1) := by decide +kernel
theorem d_T_readEntity_8 : decode c_T_readEntity 8 = .ok (.getfield 54, 3) := by decide +kernel
theorem d_T_readEntity_11 : decode c_T_readEntity 11 = .ok (.bipush 16, 2) := by decide +kernel
theorem d_T_readEntity_13 : decode c_T_readEntity 13 = .ok (.if_icmp .ge 8, 3) := by decide +kernel
theorem d_T_readEntity_16 : decode c_T_readEntity 16 = .ok (.iload_n 3, 1) := by decide +kernel
theorem d_T_readEntity_17 : decode c_T_readEntity 17 = .ok (.iconst 4, 1) := by decide +kernel
theorem d_T_readEntity_18 : decode c_T_readEntity 18 = .ok (.if_icmp .le 4, 3) := by decide +kernel
theorem d_T_readEntity_21 : decode c_T_readEntity 21 = .ok (.return_, 1) := by decide +kernel
theorem d_T_readEntity_22 : decode c_T_readEntity 22 = .ok (.aload_n 0, 1) := by decide +kernel
theorem d_T_readEntity_23 : decode c_T_readEntity 23 = .ok (.getfield 54, 3) := by decide +kernel
theorem d_T_readEntity_26 : decode c_T_readEntity 26 = .ok (.istore 5, 2) := by decide +kernel
theorem d_T_readEntity_28 : decode c_T_readEntity 28 = .ok (.aload_n 0, 1) := by decide +kernel
theorem d_T_readEntity_29 : decode c_T_readEntity 29 = .ok (.getfield 49, 3) := by decide +kernel
theorem d_T_readEntity_32 : decode c_T_readEntity 32 = .ok (.iload 5, 2) := by decide +kernel
theorem d_T_readEntity_34 : decode c_T_readEntity 34 = .ok (.aaload, 1) := by decide +kernel
theorem d_T_readEntity_35 : decode c_T_readEntity 35 = .ok (.astore 6, 2) := by decide +kernel
theorem d_T_readEntity_37 : decode c_T_readEntity 37 = .ok (.aload_n 0, 1) := by decide +kernel
theorem d_T_readEntity_38 : decode c_T_readEntity 38 = .ok (.dup, 1) := by decide +kernel
theorem d_T_readEntity_39 : decode c_T_readEntity 39 = .ok (.getfield 54, 3) := by decide +kernel
theorem d_T_readEntity_42 : decode c_T_readEntity 42 = .ok (.iconst 1, 1) := by decide +kernel
theorem d_T_readEntity_43 : decode c_T_readEntity 43 = .ok (.iadd, 1) := by decide +kernel
theorem d_T_readEntity_44 : decode c_T_readEntity 44 = .ok (.putfield 54, 3) := by decide +kernel
theorem d_T_readEntity_47 : decode c_T_readEntity 47 = .ok (.aload 6, 2) := by decide +kernel
theorem d_T_readEntity_49 : decode c_T_readEntity 49 = .ok (.iload_n 1, 1) := by decide +kernel
theorem d_T_readEntity_50 : decode c_T_readEntity 50 = .ok (.iload_n 2, 1) := by decide +kernel
theorem d_T_readEntity_51 : decode c_T_readEntity 51 = .ok (.iload_n 3, 1) := by decide +kernel
theorem d_T_readEntity_52 : decode c_T_readEntity 52 = .ok (.iload 4, 2) := by decide +kernel
theorem d_T_readEntity_54 : decode c_T_readEntity 54 = .ok (.invokevirtual 75, 3) := by decide +kernel
theorem d_T_readEntity_57 : decode c_T_readEntity 57 = .ok (.iload 4, 2) := by decide +kernel
theorem d_T_readEntity_59 : decode c_T_readEntity 59 = .ok (.ifCond .lt 26, 3) := by decide +kernel
theorem d_T_readEntity_62 : decode c_T_readEntity 62 = .ok (.iload 4, 2) := by decide +kernel
theorem d_T_readEntity_64 : decode c_T_readEntity 64 = .ok (.iload 5, 2) := by decide +kernel
theorem d_T_readEntity_66 : decode c_T_readEntity 66 = .ok (.if_icmp .ge 19, 3) := by decide +kernel
theorem d_T_readEntity_69 : decode c_T_readEntity 69 = .ok (.aload_n 0, 1) := by decide +kernel
theorem d_T_readEntity_70 : decode c_T_readEntity 70 = .ok (.getfield 49, 3) := by decide +kernel
theorem d_T_readEntity_73 : decode c_T_readEntity 73 = .ok (.iload 4, 2) := by decide +kernel
theorem d_T_readEntity_75 : decode c_T_readEntity 75 = .ok (.aaload, 1) := by decide +kernel
theorem d_T_readEntity_76 : decode c_T_readEntity 76 = .ok (.dup, 1) := by decide +kernel
theorem d_T_readEntity_77 : decode c_T_readEntity 77 = .ok (.getfield 79, 3) := by decide +kernel
theorem d_T_readEntity_80 : decode c_T_readEntity 80 = .ok (.iconst 1, 1) := by decide +kernel
theorem d_T_readEntity_81 : decode c_T_readEntity 81 = .ok (.iadd, 1) := by decide +kernel
theorem d_T_readEntity_82 : decode c_T_readEntity 82 = .ok (.putfield 79, 3) := by decide +kernel
theorem d_T_readEntity_85 : decode c_T_readEntity 85 = .ok (.aload 6, 2) := by decide +kernel
theorem d_T_readEntity_87 : decode c_T_readEntity 87 = .ok (.aload_n 0, 1) := by decide +kernel
theorem d_T_readEntity_88 : decode c_T_readEntity 88 = .ok (.aload 6, 2) := by decide +kernel
theorem d_T_readEntity_90 : decode c_T_readEntity 90 = .ok (.invokevirtual 82, 3) := by decide +kernel
theorem d_T_readEntity_93 : decode c_T_readEntity 93 = .ok (.putfield 86, 3) := by decide +kernel
theorem d_T_readEntity_96 : decode c_T_readEntity 96 = .ok (.aload_n 0, 1) := by decide +kernel
theorem d_T_readEntity_97 : decode c_T_readEntity 97 = .ok (.aload 6, 2) := by decide +kernel
theorem d_T_readEntity_99 : decode c_T_readEntity 99 = .ok (.invokevirtual 89, 3) := by decide +kernel
theorem d_T_readEntity_102 : decode c_T_readEntity 102 = .ok (.aload_n 0, 1) := by decide +kernel
theorem d_T_readEntity_103 : decode c_T_readEntity 103 = .ok (.aload 6, 2) := by decide +kernel
theorem d_T_readEntity_105 : decode c_T_readEntity 105 = .ok (.invokevirtual 93, 3) := by decide +kernel
theorem d_T_readEntity_108 : decode c_T_readEntity 108 = .ok (.iload_n 3, 1) := by decide +kernel
theorem d_T_readEntity_109 : decode c_T_readEntity 109 = .ok (.iconst 4, 1) := by decide +kernel
theorem d_T_readEntity_110 : decode c_T_readEntity 110 = .ok (.if_icmp .ge 18, 3) := by decide +kernel
theorem d_T_readEntity_113 : decode c_T_readEntity 113 = .ok (.aload_n 0, 1) := by decide +kernel
theorem d_T_readEntity_114 : decode c_T_readEntity 114 = .ok (.aload 6, 2) := by decide +kernel
theorem d_T_readEntity_116 : decode c_T_readEntity 116 = .ok (.invokevirtual 96, 3) := by decide +kernel
theorem d_T_readEntity_119 : decode c_T_readEntity 119 = .ok (.ifCond .eq 9, 3) := by decide +kernel
theorem d_T_readEntity_122 : decode c_T_readEntity 122 = .ok (.aload_n 0, 1) := by decide +kernel
theorem d_T_readEntity_123 : decode c_T_readEntity 123 = .ok (.aload 6, 2) := by decide +kernel
theorem d_T_readEntity_125 : decode c_T_readEntity 125 = .ok (.invokevirtual 100, 3) := by decide +kernel
theorem d_T_readEntity_128 : decode c_T_readEntity 128 = .ok (.aload 6, 2) := by decide +kernel
theorem d_T_readEntity_130 : decode c_T_readEntity 130 = .ok (.getfield 103, 3) := by decide +kernel
theorem d_T_readEntity_133 : decode c_T_readEntity 133 = .ok (.ifCond .ne 15, 3) := by decide +kernel
theorem d_T_readEntity_136 : decode c_T_readEntity 136 = .ok (.aload_n 0, 1) := by decide +kernel
theorem d_T_readEntity_137 : decode c_T_readEntity 137 = .ok (.getfield 43, 3) := by decide +kernel
theorem d_T_readEntity_140 : decode c_T_readEntity 140 = .ok (.aload 6, 2) := by decide +kernel
theorem d_T_readEntity_142 : decode c_T_readEntity 142 = .ok (.invokevirtual 106, 3) := by decide +kernel
theorem d_T_readEntity_145 : decode c_T_readEntity 145 = .ok (.goto 38, 3) := by decide +kernel
theorem d_T_readEntity_148 : decode c_T_readEntity 148 = .ok (.aload 6, 2) := by decide +kernel
theorem d_T_readEntity_150 : decode c_T_readEntity 150 = .ok (.getfield 103, 3) := by decide +kernel
theorem d_T_readEntity_153 : decode c_T_readEntity 153 = .ok (.iconst 2, 1) := by decide +kernel
theorem d_T_readEntity_154 : decode c_T_readEntity 154 = .ok (.if_icmp .ne 21, 3) := by decide +kernel
theorem d_T_readEntity_157 : decode c_T_readEntity 157 = .ok (.aload_n 0, 1) := by decide +kernel
theorem d_T_readEntity_158 : decode c_T_readEntity 158 = .ok (.aload 6, 2) := by decide +kernel
theorem d_T_readEntity_160 : decode c_T_readEntity 160 = .ok (.getfield 86, 3) := by decide +kernel
theorem d_T_readEntity_163 : decode c_T_readEntity 163 = .ok (.iload_n 2, 1) := by decide +kernel
theorem d_T_readEntity_164 : decode c_T_readEntity 164 = .ok (.iload_n 3, 1) := by decide +kernel
theorem d_T_readEntity_165 : decode c_T_readEntity 165 = .ok (.iconst 1, 1) := by decide +kernel
theorem d_T_readEntity_166 : decode c_T_readEntity 166 = .ok (.iadd, 1) := by decide +kernel
theorem d_T_readEntity_167 : decode c_T_readEntity 167 = .ok (.iload 5, 2) := by decide +kernel
theorem d_T_readEntity_169 : decode c_T_readEntity 169 = .ok (.invokevirtual 109, 3) := by decide +kernel
theorem d_T_readEntity_172 : decode c_T_readEntity 172 = .ok (.goto 11, 3) := by decide +kernel
theorem d_T_readEntity_175 : decode c_T_readEntity 175 = .ok (.aload_n 0, 1) := by decide +kernel
theorem d_T_readEntity_176 : decode c_T_readEntity 176 = .ok (.aload 6, 2) := by decide +kernel
theorem d_T_readEntity_178 : decode c_T_readEntity 178 = .ok (.iload 5, 2) := by decide +kernel
theorem d_T_readEntity_180 : decode c_T_readEntity 180 = .ok (.invokevirtual 112, 3) := by decide +kernel
theorem d_T_readEntity_183 : decode c_T_readEntity 183 = .ok (.return_, 1) := by decide +kernel
theorem d_T_readFields_0 : decode c_T_readFields 0 = .ok (.aload_n 1, 1) := by decide +kernel
theorem d_T_readFields_1 : decode c_T_readFields 1 = .ok (.getfield 116, 3) := by decide +kernel
theorem d_T_readFields_4 : decode c_T_readFields 4 = .ok (.istore_n 2, 1) := by decide +kernel
theorem d_T_readFields_5 : decode c_T_readFields 5 = .ok (.iconst 0, 1) := by decide +kernel
theorem d_T_readFields_6 : decode c_T_readFields 6 = .ok (.istore_n 3, 1) := by decide +kernel
theorem d_T_readFields_7 : decode c_T_readFields 7 = .ok (.iload_n 3, 1) := by decide +kernel
theorem d_T_readFields_8 : decode c_T_readFields 8 = .ok (.sipush 320, 3) := by decide +kernel
theorem d_T_readFields_11 : decode c_T_readFields 11 = .ok (.if_icmp .ge 97, 3) := by decide +kernel
theorem d_T_readFields_14 : decode c_T_readFields 14 = .ok (.iload_n 2, 1) := by decide +kernel
theorem d_T_readFields_15 : decode c_T_readFields 15 = .ok (.aload_n 1, 1) := by decide +kernel
theorem d_T_readFields_16 : decode c_T_readFields 16 = .ok (.getfield 119, 3) := by decide +kernel
theorem d_T_readFields_19 : decode c_T_readFields 19 = .ok (.if_icmp .ge 89, 3) := by decide +kernel
theorem d_T_readFields_22 : decode c_T_readFields 22 = .ok (.aload_n 0, 1) := by decide +kernel
theorem d_T_readFields_23 : decode c_T_readFields 23 = .ok (.getfield 14, 3) := by decide +kernel
theorem d_T_readFields_26 : decode c_T_readFields 26 = .ok (.iload_n 2, 1) := by decide +kernel
theorem d_T_readFields_27 : decode c_T_readFields 27 = .ok (.aload_n 1, 1) := by decide +kernel
theorem d_T_readFields_28 : decode c_T_readFields 28 = .ok (.getfield 119, 3) := by decide +kernel
theorem d_T_readFields_31 : decode c_T_readFields 31 = .ok (.invokevirtual 122, 3) := by decide +kernel
theorem d_T_readFields_34 : decode c_T_readFields 34 = .ok (.istore 4, 2) := by decide +kernel
theorem d_T_readFields_36 : decode c_T_readFields 36 = .ok (.aload_n 0, 1) := by decide +kernel
theorem d_T_readFields_37 : decode c_T_readFields 37 = .ok (.getfield 14, 3) := by decide +kernel
theorem d_T_readFields_40 : decode c_T_readFields 40 = .ok (.iload_n 2, 1) := by decide +kernel
theorem d_T_readFields_41 : decode c_T_readFields 41 = .ok (.iload 4, 2) := by decide +kernel
theorem d_T_readFields_43 : decode c_T_readFields 43 = .ok (.invokevirtual 126, 3) := by decide +kernel
theorem d_T_readFields_46 : decode c_T_readFields 46 = .ok (.istore 5, 2) := by decide +kernel
theorem d_T_readFields_48 : decode c_T_readFields 48 = .ok (.iload 5, 2) := by decide +kernel
theorem d_T_readFields_50 : decode c_T_readFields 50 = .ok (.iload_n 2, 1) := by decide +kernel
theorem d_T_readFields_51 : decode c_T_readFields 51 = .ok (.if_icmp .ne 6, 3) := by decide +kernel
theorem d_T_readFields_54 : decode c_T_readFields 54 = .ok (.iload 4, 2) := by decide +kernel
theorem d_T_readFields_56 : decode c_T_readFields 56 = .ok (.ireturn, 1) := by decide +kernel
theorem d_T_readFields_57 : decode c_T_readFields 57 = .ok (.aload_n 0, 1) := by decide +kernel
theorem d_T_readFields_58 : decode c_T_readFields 58 = .ok (.getfield 14, 3) := by decide +kernel
theorem d_T_readFields_61 : decode c_T_readFields 61 = .ok (.iload_n 2, 1) := by decide +kernel
theorem d_T_readFields_62 : decode c_T_readFields 62 = .ok (.invokevirtual 129, 3) := by decide +kernel
theorem d_T_readFields_65 : decode c_T_readFields 65 = .ok (.invokestatic 133, 3) := by decide +kernel
theorem d_T_readFields_68 : decode c_T_readFields 68 = .ok (.ifCond .eq 14, 3) := by decide +kernel
theorem d_T_readFields_71 : decode c_T_readFields 71 = .ok (.aload_n 0, 1) := by decide +kernel
theorem d_T_readFields_72 : decode c_T_readFields 72 = .ok (.aload_n 1, 1) := by decide +kernel
theorem d_T_readFields_73 : decode c_T_readFields 73 = .ok (.iload_n 2, 1) := by decide +kernel
theorem d_T_readFields_74 : decode c_T_readFields 74 = .ok (.iload 5, 2) := by decide +kernel
theorem d_T_readFields_76 : decode c_T_readFields 76 = .ok (.invokevirtual 137, 3) := by decide +kernel
theorem d_T_readFields_79 : decode c_T_readFields 79 = .ok (.goto 11, 3) := by decide +kernel
theorem d_T_readFields_82 : decode c_T_readFields 82 = .ok (.aload_n 0, 1) := by decide +kernel
theorem d_T_readFields_83 : decode c_T_readFields 83 = .ok (.aload_n 1, 1) := by decide +kernel
theorem d_T_readFields_84 : decode c_T_readFields 84 = .ok (.iload_n 2, 1) := by decide +kernel
theorem d_T_readFields_85 : decode c_T_readFields 85 = .ok (.iload 5, 2) := by decide +kernel
theorem d_T_readFields_87 : decode c_T_readFields 87 = .ok (.invokevirtual 141, 3) := by decide +kernel
theorem d_T_readFields_90 : decode c_T_readFields 90 = .ok (.istore 6, 2) := by decide +kernel
theorem d_T_readFields_92 : decode c_T_readFields 92 = .ok (.iload 6, 2) := by decide +kernel
theorem d_T_readFields_94 : decode c_T_readFields 94 = .ok (.ifCond .ne 5, 3) := by decide +kernel
theorem d_T_readFields_97 : decode c_T_readFields 97 = .ok (.iload_n 2, 1) := by decide +kernel
theorem d_T_readFields_98 : decode c_T_readFields 98 = .ok (.ireturn, 1) := by decide +kernel
theorem d_T_readFields_99 : decode c_T_readFields 99 = .ok (.iload 4, 2) := by decide +kernel
theorem d_T_readFields_101 : decode c_T_readFields 101 = .ok (.istore_n 2, 1) := by decide +kernel
theorem d_T_readFields_102 : decode c_T_readFields 102 = .ok (.iinc 3 1, 3) := by decide +kernel
theorem d_T_readFields_105 : decode c_T_readFields 105 = .ok (.goto (-98), 3) := by decide +kernel
theorem d_T_readFields_108 : decode c_T_readFields 108 = .ok (.iload_n 2, 1) := by decide +kernel
theorem d_T_readFields_109 : decode c_T_readFields 109 = .ok (.ireturn, 1) := by decide +kernel
theorem d_T_goOnWithField_0 : decode c_T_goOnWithField 0 = .ok (.aload_n 1, 1) := by decide +kernel
theorem d_T_goOnWithField_1 : decode c_T_goOnWithField 1 = .ok (.getfield 144, 3) := by decide +kernel
theorem d_T_goOnWithField_4 : decode c_T_goOnWithField 4 = .ok (.iconst 1, 1) := by decide +kernel
theorem d_T_goOnWithField_5 : decode c_T_goOnWithField 5 = .ok (.isub, 1) := by decide +kernel
theorem d_T_goOnWithField_6 : decode c_T_goOnWithField 6 = .ok (.istore 4, 2) := by decide +kernel
theorem d_T_goOnWithField_8 : decode c_T_goOnWithField 8 = .ok (.iload 4, 2) := by decide +kernel
theorem d_T_goOnWithField_10 : decode c_T_goOnWithField 10 = .ok (.ifCond .lt 10, 3) := by decide +kernel
theorem d_T_goOnWithField_13 : decode c_T_goOnWithField 13 = .ok (.iload 4, 2) := by decide +kernel
theorem d_T_goOnWithField_15 : decode c_T_goOnWithField 15 = .ok (.bipush 8, 2) := by decide +kernel
theorem d_T_goOnWithField_17 : decode c_T_goOnWithField 17 = .ok (.if_icmp .lt 5, 3) := by decide +kernel
theorem d_T_goOnWithField_20 : decode c_T_goOnWithField 20 = .ok (.iconst 0, 1) := by decide +kernel
theorem d_T_goOnWithField_21 : decode c_T_goOnWithField 21 = .ok (.ireturn, 1) := by decide +kernel
theorem d_T_goOnWithField_22 : decode c_T_goOnWithField 22 = .ok (.aload_n 0, 1) := by decide +kernel
theorem d_T_goOnWithField_23 : decode c_T_goOnWithField 23 = .ok (.getfield 20, 3) := by decide +kernel
theorem d_T_goOnWithField_26 : decode c_T_goOnWithField 26 = .ok (.aload_n 0, 1) := by decide +kernel
theorem d_T_goOnWithField_27 : decode c_T_goOnWithField 27 = .ok (.getfield 14, 3) := by decide +kernel
theorem d_T_goOnWithField_30 : decode c_T_goOnWithField 30 = .ok (.iload_n 2, 1) := by decide +kernel
theorem d_T_goOnWithField_31 : decode c_T_goOnWithField 31 = .ok (.iload_n 3, 1) := by decide +kernel
theorem d_T_goOnWithField_32 : decode c_T_goOnWithField 32 = .ok (.invokevirtual 71, 3) := by decide +kernel
theorem d_T_goOnWithField_35 : decode c_T_goOnWithField 35 = .ok (.aload_n 1, 1) := by decide +kernel
theorem d_T_goOnWithField_36 : decode c_T_goOnWithField 36 = .ok (.getfield 147, 3) := by decide +kernel
theorem d_T_goOnWithField_39 : decode c_T_goOnWithField 39 = .ok (.iload 4, 2) := by decide +kernel
theorem d_T_goOnWithField_41 : decode c_T_goOnWithField 41 = .ok (.aaload, 1) := by decide +kernel
theorem d_T_goOnWithField_42 : decode c_T_goOnWithField 42 = .ok (.dup, 1) := by decide +kernel
theorem d_T_goOnWithField_43 : decode c_T_goOnWithField 43 = .ok (.getfield 151, 3) := by decide +kernel
theorem d_T_goOnWithField_46 : decode c_T_goOnWithField 46 = .ok (.iload_n 3, 1) := by decide +kernel
theorem d_T_goOnWithField_47 : decode c_T_goOnWithField 47 = .ok (.iload_n 2, 1) := by decide +kernel
theorem d_T_goOnWithField_48 : decode c_T_goOnWithField 48 = .ok (.isub, 1) := by decide +kernel
theorem d_T_goOnWithField_49 : decode c_T_goOnWithField 49 = .ok (.iadd, 1) := by decide +kernel
theorem d_T_goOnWithField_50 : decode c_T_goOnWithField 50 = .ok (.putfield 151, 3) := by decide +kernel
theorem d_T_goOnWithField_53 : decode c_T_goOnWithField 53 = .ok (.iconst 1, 1) := by decide +kernel
theorem d_T_goOnWithField_54 : decode c_T_goOnWithField 54 = .ok (.ireturn, 1) := by decide +kernel
theorem d_T_beginField_0 : decode c_T_beginField 0 = .ok (.iload_n 2, 1) := by decide +kernel
theorem d_T_beginField_1 : decode c_T_beginField 1 = .ok (.istore 4, 2) := by decide +kernel
theorem d_T_beginField_3 : decode c_T_beginField 3 = .ok (.iload_n 2, 1) := by decide +kernel
theorem d_T_beginField_4 : decode c_T_beginField 4 = .ok (.istore 5, 2) := by decide +kernel
theorem d_T_beginField_6 : decode c_T_beginField 6 = .ok (.iload 5, 2) := by decide +kernel
theorem d_T_beginField_8 : decode c_T_beginField 8 = .ok (.iload_n 3, 1) := by decide +kernel
theorem d_T_beginField_9 : decode c_T_beginField 9 = .ok (.if_icmp .ge 30, 3) := by decide +kernel
theorem d_T_beginField_12 : decode c_T_beginField 12 = .ok (.aload_n 0, 1) := by decide +kernel
theorem d_T_beginField_13 : decode c_T_beginField 13 = .ok (.getfield 14, 3) := by decide +kernel
theorem d_T_beginField_16 : decode c_T_beginField 16 = .ok (.iload 5, 2) := by decide +kernel
theorem d_T_beginField_18 : decode c_T_beginField 18 = .ok (.invokevirtual 129, 3) := by decide +kernel
theorem d_T_beginField_21 : decode c_T_beginField 21 = .ok (.invokestatic 156, 3) := by decide +kernel
theorem d_T_beginField_24 : decode c_T_beginField 24 = .ok (.ifCond .eq 15, 3) := by decide +kernel
theorem d_T_beginField_27 : decode c_T_beginField 27 = .ok (.iload 5, 2) := by decide +kernel
theorem d_T_beginField_29 : decode c_T_beginField 29 = .ok (.iconst 1, 1) := by decide +kernel
theorem d_T_beginField_30 : decode c_T_beginField 30 = .ok (.iadd, 1) := by decide +kernel
theorem d_T_beginField_31 : decode c_T_beginField 31 = .ok (.istore 4, 2) := by decide +kernel
theorem d_T_beginField_33 : decode c_T_beginField 33 = .ok (.iinc 5 1, 3) := by decide +kernel
theorem d_T_beginField_36 : decode c_T_beginField 36 = .ok (.goto (-30), 3) := by decide +kernel
theorem d_T_beginField_39 : decode c_T_beginField 39 = .ok (.iload 4, 2) := by decide +kernel
theorem d_T_beginField_41 : decode c_T_beginField 41 = .ok (.iload_n 2, 1) := by decide +kernel
theorem d_T_beginField_42 : decode c_T_beginField 42 = .ok (.if_icmp .le 27, 3) := by decide +kernel
theorem d_T_beginField_45 : decode c_T_beginField 45 = .ok (.iload 4, 2) := by decide +kernel
theorem d_T_beginField_47 : decode c_T_beginField 47 = .ok (.iload_n 3, 1) := by decide +kernel
theorem d_T_beginField_48 : decode c_T_beginField 48 = .ok (.if_icmp .ge 21, 3) := by decide +kernel
theorem d_T_beginField_51 : decode c_T_beginField 51 = .ok (.aload_n 0, 1) := by decide +kernel
theorem d_T_beginField_52 : decode c_T_beginField 52 = .ok (.getfield 14, 3) := by decide +kernel
theorem d_T_beginField_55 : decode c_T_beginField 55 = .ok (.iload 4, 2) := by decide +kernel
theorem d_T_beginField_57 : decode c_T_beginField 57 = .ok (.invokevirtual 129, 3) := by decide +kernel
theorem d_T_beginField_60 : decode c_T_beginField 60 = .ok (.bipush 58, 2) := by decide +kernel
theorem d_T_beginField_62 : decode c_T_beginField 62 = .ok (.if_icmp .ne 7, 3) := by decide +kernel
theorem d_T_beginField_65 : decode c_T_beginField 65 = .ok (.iconst 1, 1) := by decide +kernel
theorem d_T_beginField_66 : decode c_T_beginField 66 = .ok (.goto 4, 3) := by decide +kernel
theorem d_T_beginField_69 : decode c_T_beginField 69 = .ok (.iconst 0, 1) := by decide +kernel
theorem d_T_beginField_70 : decode c_T_beginField 70 = .ok (.istore 5, 2) := by decide +kernel
theorem d_T_beginField_72 : decode c_T_beginField 72 = .ok (.aload_n 1, 1) := by decide +kernel
theorem d_T_beginField_73 : decode c_T_beginField 73 = .ok (.getfield 144, 3) := by decide +kernel
theorem d_T_beginField_76 : decode c_T_beginField 76 = .ok (.istore 6, 2) := by decide +kernel
theorem d_T_beginField_78 : decode c_T_beginField 78 = .ok (.iload 5, 2) := by decide +kernel
theorem d_T_beginField_80 : decode c_T_beginField 80 = .ok (.ifCond .eq 15, 3) := by decide +kernel
theorem d_T_beginField_83 : decode c_T_beginField 83 = .ok (.iload 6, 2) := by decide +kernel
theorem d_T_beginField_85 : decode c_T_beginField 85 = .ok (.ifCond .lt 10, 3) := by decide +kernel
theorem d_T_beginField_88 : decode c_T_beginField 88 = .ok (.iload 6, 2) := by decide +kernel
theorem d_T_beginField_90 : decode c_T_beginField 90 = .ok (.bipush 8, 2) := by decide +kernel
theorem d_T_beginField_92 : decode c_T_beginField 92 = .ok (.if_icmp .lt 5, 3) := by decide +kernel
theorem d_T_beginField_95 : decode c_T_beginField 95 = .ok (.iconst 0, 1) := by decide +kernel
theorem d_T_beginField_96 : decode c_T_beginField 96 = .ok (.ireturn, 1) := by decide +kernel
theorem d_T_beginField_97 : decode c_T_beginField 97 = .ok (.aload_n 1, 1) := by decide +kernel
theorem d_T_beginField_98 : decode c_T_beginField 98 = .ok (.getfield 147, 3) := by decide +kernel
theorem d_T_beginField_101 : decode c_T_beginField 101 = .ok (.iload 6, 2) := by decide +kernel
theorem d_T_beginField_103 : decode c_T_beginField 103 = .ok (.aaload, 1) := by decide +kernel
theorem d_T_beginField_104 : decode c_T_beginField 104 = .ok (.astore 7, 2) := by decide +kernel
theorem d_T_beginField_106 : decode c_T_beginField 106 = .ok (.aload_n 1, 1) := by decide +kernel
theorem d_T_beginField_107 : decode c_T_beginField 107 = .ok (.dup, 1) := by decide +kernel
theorem d_T_beginField_108 : decode c_T_beginField 108 = .ok (.getfield 144, 3) := by decide +kernel
theorem d_T_beginField_111 : decode c_T_beginField 111 = .ok (.iconst 1, 1) := by decide +kernel
theorem d_T_beginField_112 : decode c_T_beginField 112 = .ok (.iadd, 1) := by decide +kernel
theorem d_T_beginField_113 : decode c_T_beginField 113 = .ok (.putfield 144, 3) := by decide +kernel
theorem d_T_beginField_116 : decode c_T_beginField 116 = .ok (.aload 7, 2) := by decide +kernel
theorem d_T_beginField_118 : decode c_T_beginField 118 = .ok (.iload_n 2, 1) := by decide +kernel
theorem d_T_beginField_119 : decode c_T_beginField 119 = .ok (.putfield 159, 3) := by decide +kernel
theorem d_T_beginField_122 : decode c_T_beginField 122 = .ok (.aload 7, 2) := by decide +kernel
theorem d_T_beginField_124 : decode c_T_beginField 124 = .ok (.iload 4, 2) := by decide +kernel
theorem d_T_beginField_126 : decode c_T_beginField 126 = .ok (.iload_n 2, 1) := by decide +kernel
theorem d_T_beginField_127 : decode c_T_beginField 127 = .ok (.isub, 1) := by decide +kernel
theorem d_T_beginField_128 : decode c_T_beginField 128 = .ok (.putfield 162, 3) := by decide +kernel
theorem d_T_beginField_131 : decode c_T_beginField 131 = .ok (.aload 7, 2) := by decide +kernel
theorem d_T_beginField_133 : decode c_T_beginField 133 = .ok (.aload_n 0, 1) := by decide +kernel
theorem d_T_beginField_134 : decode c_T_beginField 134 = .ok (.getfield 20, 3) := by decide +kernel
theorem d_T_beginField_137 : decode c_T_beginField 137 = .ok (.getfield 68, 3) := by decide +kernel
theorem d_T_beginField_140 : decode c_T_beginField 140 = .ok (.putfield 165, 3) := by decide +kernel
theorem d_T_beginField_143 : decode c_T_beginField 143 = .ok (.aload 7, 2) := by decide +kernel
theorem d_T_beginField_145 : decode c_T_beginField 145 = .ok (.iload_n 3, 1) := by decide +kernel
theorem d_T_beginField_146 : decode c_T_beginField 146 = .ok (.iload 4, 2) := by decide +kernel
theorem d_T_beginField_148 : decode c_T_beginField 148 = .ok (.isub, 1) := by decide +kernel
theorem d_T_beginField_149 : decode c_T_beginField 149 = .ok (.iconst 1, 1) := by decide +kernel
theorem d_T_beginField_150 : decode c_T_beginField 150 = .ok (.isub, 1) := by decide +kernel
theorem d_T_beginField_151 : decode c_T_beginField 151 = .ok (.putfield 151, 3) := by decide +kernel
theorem d_T_beginField_154 : decode c_T_beginField 154 = .ok (.aload_n 0, 1) := by decide +kernel
theorem d_T_beginField_155 : decode c_T_beginField 155 = .ok (.getfield 20, 3) := by decide +kernel
theorem d_T_beginField_158 : decode c_T_beginField 158 = .ok (.aload_n 0, 1) := by decide +kernel
theorem d_T_beginField_159 : decode c_T_beginField 159 = .ok (.getfield 14, 3) := by decide +kernel
theorem d_T_beginField_162 : decode c_T_beginField 162 = .ok (.iload 4, 2) := by decide +kernel
theorem d_T_beginField_164 : decode c_T_beginField 164 = .ok (.iconst 1, 1) := by decide +kernel
theorem d_T_beginField_165 : decode c_T_beginField 165 = .ok (.iadd, 1) := by decide +kernel
theorem d_T_beginField_166 : decode c_T_beginField 166 = .ok (.iload_n 3, 1) := by decide +kernel
theorem d_T_beginField_167 : decode c_T_beginField 167 = .ok (.invokevirtual 71, 3) := by decide +kernel
theorem d_T_beginField_170 : decode c_T_beginField 170 = .ok (.iconst 1, 1) := by decide +kernel
theorem d_T_beginField_171 : decode c_T_beginField 171 = .ok (.ireturn, 1) := by decide +kernel
theorem d_T_trimValues_0 : decode c_T_trimValues 0 = .ok (.iconst 0, 1) := by decide +kernel
theorem d_T_trimValues_1 : decode c_T_trimValues 1 = .ok (.istore_n 2, 1) := by decide +kernel
theorem d_T_trimValues_2 : decode c_T_trimValues 2 = .ok (.iload_n 2, 1) := by decide +kernel
theorem d_T_trimValues_3 : decode c_T_trimValues 3 = .ok (.aload_n 1, 1) := by decide +kernel
theorem d_T_trimValues_4 : decode c_T_trimValues 4 = .ok (.getfield 144, 3) := by decide +kernel
theorem d_T_trimValues_7 : decode c_T_trimValues 7 = .ok (.if_icmp .ge 103, 3) := by decide +kernel
theorem d_T_trimValues_10 : decode c_T_trimValues 10 = .ok (.iload_n 2, 1) := by decide +kernel
theorem d_T_trimValues_11 : decode c_T_trimValues 11 = .ok (.bipush 8, 2) := by decide +kernel
theorem d_T_trimValues_13 : decode c_T_trimValues 13 = .ok (.if_icmp .ge 97, 3) := by decide +kernel
theorem d_T_trimValues_16 : decode c_T_trimValues 16 = .ok (.aload_n 1, 1) := by decide +kernel
theorem d_T_trimValues_17 : decode c_T_trimValues 17 = .ok (.getfield 147, 3) := by decide +kernel
theorem d_T_trimValues_20 : decode c_T_trimValues 20 = .ok (.iload_n 2, 1) := by decide +kernel
theorem d_T_trimValues_21 : decode c_T_trimValues 21 = .ok (.aaload, 1) := by decide +kernel
theorem d_T_trimValues_22 : decode c_T_trimValues 22 = .ok (.astore_n 3, 1) := by decide +kernel
theorem d_T_trimValues_23 : decode c_T_trimValues 23 = .ok (.aload_n 3, 1) := by decide +kernel
theorem d_T_trimValues_24 : decode c_T_trimValues 24 = .ok (.getfield 165, 3) := by decide +kernel
theorem d_T_trimValues_27 : decode c_T_trimValues 27 = .ok (.aload_n 3, 1) := by decide +kernel
theorem d_T_trimValues_28 : decode c_T_trimValues 28 = .ok (.getfield 151, 3) := by decide +kernel
theorem d_T_trimValues_31 : decode c_T_trimValues 31 = .ok (.iadd, 1) := by decide +kernel
theorem d_T_trimValues_32 : decode c_T_trimValues 32 = .ok (.istore 4, 2) := by decide +kernel
theorem d_T_trimValues_34 : decode c_T_trimValues 34 = .ok (.aload_n 0, 1) := by decide +kernel
theorem d_T_trimValues_35 : decode c_T_trimValues 35 = .ok (.getfield 20, 3) := by decide +kernel
theorem d_T_trimValues_38 : decode c_T_trimValues 38 = .ok (.aload_n 3, 1) := by decide +kernel
theorem d_T_trimValues_39 : decode c_T_trimValues 39 = .ok (.getfield 165, 3) := by decide +kernel
theorem d_T_trimValues_42 : decode c_T_trimValues 42 = .ok (.iload 4, 2) := by decide +kernel
theorem d_T_trimValues_44 : decode c_T_trimValues 44 = .ok (.invokevirtual 168, 3) := by decide +kernel
theorem d_T_trimValues_47 : decode c_T_trimValues 47 = .ok (.istore 5, 2) := by decide +kernel
theorem d_T_trimValues_49 : decode c_T_trimValues 49 = .ok (.iload 4, 2) := by decide +kernel
theorem d_T_trimValues_51 : decode c_T_trimValues 51 = .ok (.istore 6, 2) := by decide +kernel
theorem d_T_trimValues_53 : decode c_T_trimValues 53 = .ok (.iload 6, 2) := by decide +kernel
theorem d_T_trimValues_55 : decode c_T_trimValues 55 = .ok (.iload 5, 2) := by decide +kernel
theorem d_T_trimValues_57 : decode c_T_trimValues 57 = .ok (.if_icmp .le 32, 3) := by decide +kernel
theorem d_T_trimValues_60 : decode c_T_trimValues 60 = .ok (.aload_n 0, 1) := by decide +kernel
theorem d_T_trimValues_61 : decode c_T_trimValues 61 = .ok (.getfield 20, 3) := by decide +kernel
theorem d_T_trimValues_64 : decode c_T_trimValues 64 = .ok (.iload 6, 2) := by decide +kernel
theorem d_T_trimValues_66 : decode c_T_trimValues 66 = .ok (.iconst 1, 1) := by decide +kernel
theorem d_T_trimValues_67 : decode c_T_trimValues 67 = .ok (.isub, 1) := by decide +kernel
theorem d_T_trimValues_68 : decode c_T_trimValues 68 = .ok (.invokevirtual 129, 3) := by decide +kernel
theorem d_T_trimValues_71 : decode c_T_trimValues 71 = .ok (.invokestatic 133, 3) := by decide +kernel
theorem d_T_trimValues_74 : decode c_T_trimValues 74 = .ok (.ifCond .eq 15, 3) := by decide +kernel
theorem d_T_trimValues_77 : decode c_T_trimValues 77 = .ok (.iload 6, 2) := by decide +kernel
theorem d_T_trimValues_79 : decode c_T_trimValues 79 = .ok (.iconst 1, 1) := by decide +kernel
theorem d_T_trimValues_80 : decode c_T_trimValues 80 = .ok (.isub, 1) := by decide +kernel
theorem d_T_trimValues_81 : decode c_T_trimValues 81 = .ok (.istore 4, 2) := by decide +kernel
theorem d_T_trimValues_83 : decode c_T_trimValues 83 = .ok (.iinc 6 (-1), 3) := by decide +kernel
theorem d_T_trimValues_86 : decode c_T_trimValues 86 = .ok (.goto (-33), 3) := by decide +kernel
theorem d_T_trimValues_89 : decode c_T_trimValues 89 = .ok (.aload_n 3, 1) := by decide +kernel
theorem d_T_trimValues_90 : decode c_T_trimValues 90 = .ok (.iload 5, 2) := by decide +kernel
theorem d_T_trimValues_92 : decode c_T_trimValues 92 = .ok (.putfield 165, 3) := by decide +kernel
theorem d_T_trimValues_95 : decode c_T_trimValues 95 = .ok (.aload_n 3, 1) := by decide +kernel
theorem d_T_trimValues_96 : decode c_T_trimValues 96 = .ok (.iload 4, 2) := by decide +kernel
theorem d_T_trimValues_98 : decode c_T_trimValues 98 = .ok (.iload 5, 2) := by decide +kernel
theorem d_T_trimValues_100 : decode c_T_trimValues 100 = .ok (.isub, 1) := by decide +kernel
theorem d_T_trimValues_101 : decode c_T_trimValues 101 = .ok (.putfield 151, 3) := by decide +kernel
theorem d_T_trimValues_104 : decode c_T_trimValues 104 = .ok (.iinc 2 1, 3) := by decide +kernel
theorem d_T_trimValues_107 : decode c_T_trimValues 107 = .ok (.goto (-105), 3) := by decide +kernel
theorem d_T_trimValues_110 : decode c_T_trimValues 110 = .ok (.return_, 1) := by decide +kernel
theorem d_T_readEncoding_0 : decode c_T_readEncoding 0 = .ok (.aload_n 0, 1) := by decide +kernel
theorem d_T_readEncoding_1 : decode c_T_readEncoding 1 = .ok (.aload_n 1, 1) := by decide +kernel
theorem d_T_readEncoding_2 : decode c_T_readEncoding 2 = .ok (.ldc 175, 2) := by decide +kernel
theorem d_T_readEncoding_4 : decode c_T_readEncoding 4 = .ok (.invokevirtual 177, 3) := by decide +kernel
theorem d_T_readEncoding_7 : decode c_T_readEncoding 7 = .ok (.astore_n 2, 1) := by decide +kernel
theorem d_T_readEncoding_8 : decode c_T_readEncoding 8 = .ok (.aload_n 2, 1) := by decide +kernel
theorem d_T_readEncoding_9 : decode c_T_readEncoding 9 = .ok (.ifnonnull 4, 3) := by decide +kernel
theorem d_T_readEncoding_12 : decode c_T_readEncoding 12 = .ok (.return_, 1) := by decide +kernel
theorem d_T_readEncoding_13 : decode c_T_readEncoding 13 = .ok (.aload_n 0, 1) := by decide +kernel
theorem d_T_readEncoding_14 : decode c_T_readEncoding 14 = .ok (.getfield 34, 3) := by decide +kernel
theorem d_T_readEncoding_17 : decode c_T_readEncoding 17 = .ok (.aload_n 2, 1) := by decide +kernel
theorem d_T_readEncoding_18 : decode c_T_readEncoding 18 = .ok (.invokevirtual 181, 3) := by decide +kernel
theorem d_T_readEncoding_21 : decode c_T_readEncoding 21 = .ok (.aload_n 0, 1) := by decide +kernel
theorem d_T_readEncoding_22 : decode c_T_readEncoding 22 = .ok (.getfield 34, 3) := by decide +kernel
theorem d_T_readEncoding_25 : decode c_T_readEncoding 25 = .ok (.invokevirtual 184, 3) := by decide +kernel
theorem d_T_readEncoding_28 : decode c_T_readEncoding 28 = .ok (.aload_n 0, 1) := by decide +kernel
theorem d_T_readEncoding_29 : decode c_T_readEncoding 29 = .ok (.getfield 34, 3) := by decide +kernel
theorem d_T_readEncoding_32 : decode c_T_readEncoding 32 = .ok (.invokevirtual 187, 3) := by decide +kernel
theorem d_T_readEncoding_35 : decode c_T_readEncoding 35 = .ok (.ifCond .ne 4, 3) := by decide +kernel
theorem d_T_readEncoding_38 : decode c_T_readEncoding 38 = .ok (.return_, 1) := by decide +kernel
theorem d_T_readEncoding_39 : decode c_T_readEncoding 39 = .ok (.aload_n 0, 1) := by decide +kernel
theorem d_T_readEncoding_40 : decode c_T_readEncoding 40 = .ok (.getfield 34, 3) := by decide +kernel
theorem d_T_readEncoding_43 : decode c_T_readEncoding 43 = .ok (.invokevirtual 184, 3) := by decide +kernel
theorem d_T_readEncoding_46 : decode c_T_readEncoding 46 = .ok (.aload_n 0, 1) := by decide +kernel
theorem d_T_readEncoding_47 : decode c_T_readEncoding 47 = .ok (.getfield 34, 3) := by decide +kernel
theorem d_T_readEncoding_50 : decode c_T_readEncoding 50 = .ok (.getfield 191, 3) := by decide +kernel
theorem d_T_readEncoding_53 : decode c_T_readEncoding 53 = .ok (.aload_n 0, 1) := by decide +kernel
theorem d_T_readEncoding_54 : decode c_T_readEncoding 54 = .ok (.getfield 34, 3) := by decide +kernel
theorem d_T_readEncoding_57 : decode c_T_readEncoding 57 = .ok (.getfield 194, 3) := by decide +kernel
theorem d_T_readEncoding_60 : decode c_T_readEncoding 60 = .ok (.if_icmp .ge 4, 3) := by decide +kernel
theorem d_T_readEncoding_63 : decode c_T_readEncoding 63 = .ok (.return_, 1) := by decide +kernel
theorem d_T_readEncoding_64 : decode c_T_readEncoding 64 = .ok (.aload_n 0, 1) := by decide +kernel
theorem d_T_readEncoding_65 : decode c_T_readEncoding 65 = .ok (.getfield 34, 3) := by decide +kernel
theorem d_T_readEncoding_68 : decode c_T_readEncoding 68 = .ok (.ldc 195, 2) := by decide +kernel
theorem d_T_readEncoding_70 : decode c_T_readEncoding 70 = .ok (.invokevirtual 197, 3) := by decide +kernel
theorem d_T_readEncoding_73 : decode c_T_readEncoding 73 = .ok (.ifCond .eq 11, 3) := by decide +kernel
theorem d_T_readEncoding_76 : decode c_T_readEncoding 76 = .ok (.aload_n 1, 1) := by decide +kernel
theorem d_T_readEncoding_77 : decode c_T_readEncoding 77 = .ok (.iconst 1, 1) := by decide +kernel
theorem d_T_readEncoding_78 : decode c_T_readEncoding 78 = .ok (.putfield 201, 3) := by decide +kernel
theorem d_T_readEncoding_81 : decode c_T_readEncoding 81 = .ok (.goto 20, 3) := by decide +kernel
theorem d_T_readEncoding_84 : decode c_T_readEncoding 84 = .ok (.aload_n 0, 1) := by decide +kernel
theorem d_T_readEncoding_85 : decode c_T_readEncoding 85 = .ok (.getfield 34, 3) := by decide +kernel
theorem d_T_readEncoding_88 : decode c_T_readEncoding 88 = .ok (.ldc 204, 2) := by decide +kernel
theorem d_T_readEncoding_90 : decode c_T_readEncoding 90 = .ok (.invokevirtual 197, 3) := by decide +kernel
theorem d_T_readEncoding_93 : decode c_T_readEncoding 93 = .ok (.ifCond .eq 8, 3) := by decide +kernel
theorem d_T_readEncoding_96 : decode c_T_readEncoding 96 = .ok (.aload_n 1, 1) := by decide +kernel
theorem d_T_readEncoding_97 : decode c_T_readEncoding 97 = .ok (.iconst 2, 1) := by decide +kernel
theorem d_T_readEncoding_98 : decode c_T_readEncoding 98 = .ok (.putfield 201, 3) := by decide +kernel
theorem d_T_readEncoding_101 : decode c_T_readEncoding 101 = .ok (.return_, 1) := by decide +kernel
theorem d_T_fieldNamed_0 : decode c_T_fieldNamed 0 = .ok (.iconst 0, 1) := by decide +kernel
theorem d_T_fieldNamed_1 : decode c_T_fieldNamed 1 = .ok (.istore_n 3, 1) := by decide +kernel
theorem d_T_fieldNamed_2 : decode c_T_fieldNamed 2 = .ok (.iload_n 3, 1) := by decide +kernel
theorem d_T_fieldNamed_3 : decode c_T_fieldNamed 3 = .ok (.aload_n 1, 1) := by decide +kernel
theorem d_T_fieldNamed_4 : decode c_T_fieldNamed 4 = .ok (.getfield 144, 3) := by decide +kernel
theorem d_T_fieldNamed_7 : decode c_T_fieldNamed 7 = .ok (.if_icmp .ge 53, 3) := by decide +kernel
theorem d_T_fieldNamed_10 : decode c_T_fieldNamed 10 = .ok (.iload_n 3, 1) := by decide +kernel
theorem d_T_fieldNamed_11 : decode c_T_fieldNamed 11 = .ok (.bipush 8, 2) := by decide +kernel
theorem d_T_fieldNamed_13 : decode c_T_fieldNamed 13 = .ok (.if_icmp .ge 47, 3) := by decide +kernel
theorem d_T_fieldNamed_16 : decode c_T_fieldNamed 16 = .ok (.aload_n 1, 1) := by decide +kernel
theorem d_T_fieldNamed_17 : decode c_T_fieldNamed 17 = .ok (.getfield 147, 3) := by decide +kernel
theorem d_T_fieldNamed_20 : decode c_T_fieldNamed 20 = .ok (.iload_n 3, 1) := by decide +kernel
theorem d_T_fieldNamed_21 : decode c_T_fieldNamed 21 = .ok (.aaload, 1) := by decide +kernel
theorem d_T_fieldNamed_22 : decode c_T_fieldNamed 22 = .ok (.astore 4, 2) := by decide +kernel
theorem d_T_fieldNamed_24 : decode c_T_fieldNamed 24 = .ok (.aload_n 0, 1) := by decide +kernel
theorem d_T_fieldNamed_25 : decode c_T_fieldNamed 25 = .ok (.getfield 14, 3) := by decide +kernel
theorem d_T_fieldNamed_28 : decode c_T_fieldNamed 28 = .ok (.aload_n 2, 1) := by decide +kernel
theorem d_T_fieldNamed_29 : decode c_T_fieldNamed 29 = .ok (.aload 4, 2) := by decide +kernel
theorem d_T_fieldNamed_31 : decode c_T_fieldNamed 31 = .ok (.getfield 159, 3) := by decide +kernel
theorem d_T_fieldNamed_34 : decode c_T_fieldNamed 34 = .ok (.aload 4, 2) := by decide +kernel
theorem d_T_fieldNamed_36 : decode c_T_fieldNamed 36 = .ok (.getfield 159, 3) := by decide +kernel
theorem d_T_fieldNamed_39 : decode c_T_fieldNamed 39 = .ok (.aload 4, 2) := by decide +kernel
theorem d_T_fieldNamed_41 : decode c_T_fieldNamed 41 = .ok (.getfield 162, 3) := by decide +kernel
theorem d_T_fieldNamed_44 : decode c_T_fieldNamed 44 = .ok (.iadd, 1) := by decide +kernel
theorem d_T_fieldNamed_45 : decode c_T_fieldNamed 45 = .ok (.invokevirtual 171, 3) := by decide +kernel
theorem d_T_fieldNamed_48 : decode c_T_fieldNamed 48 = .ok (.ifCond .eq 6, 3) := by decide +kernel
theorem d_T_fieldNamed_51 : decode c_T_fieldNamed 51 = .ok (.aload 4, 2) := by decide +kernel
theorem d_T_fieldNamed_53 : decode c_T_fieldNamed 53 = .ok (.areturn, 1) := by decide +kernel
theorem d_T_fieldNamed_54 : decode c_T_fieldNamed 54 = .ok (.iinc 3 1, 3) := by decide +kernel
theorem d_T_fieldNamed_57 : decode c_T_fieldNamed 57 = .ok (.goto (-55), 3) := by decide +kernel
theorem d_T_fieldNamed_60 : decode c_T_fieldNamed 60 = .ok (.aconst_null, 1) := by decide +kernel
theorem d_T_fieldNamed_61 : decode c_T_fieldNamed 61 = .ok (.areturn, 1) := by decide +kernel
theorem d_T_readKind_0 : decode c_T_readKind 0 = .ok (.aload_n 0, 1) := by decide +kernel
theorem d_T_readKind_1 : decode c_T_readKind 1 = .ok (.aload_n 1, 1) := by decide +kernel
theorem d_T_readKind_2 : decode c_T_readKind 2 = .ok (.ldc 206, 2) := by decide +kernel
theorem d_T_readKind_4 : decode c_T_readKind 4 = .ok (.invokevirtual 177, 3) := by decide +kernel
theorem d_T_readKind_7 : decode c_T_readKind 7 = .ok (.astore_n 2, 1) := by decide +kernel
theorem d_T_readKind_8 : decode c_T_readKind 8 = .ok (.aload_n 2, 1) := by decide +kernel
theorem d_T_readKind_9 : decode c_T_readKind 9 = .ok (.ifnonnull 5, 3) := by decide +kernel
theorem d_T_readKind_12 : decode c_T_readKind 12 = .ok (.iconst 0, 1) := by decide +kernel
theorem d_T_readKind_13 : decode c_T_readKind 13 = .ok (.ireturn, 1) := by decide +kernel
theorem d_T_readKind_14 : decode c_T_readKind 14 = .ok (.aload_n 0, 1) := by decide +kernel
theorem d_T_readKind_15 : decode c_T_readKind 15 = .ok (.getfield 34, 3) := by decide +kernel
theorem d_T_readKind_18 : decode c_T_readKind 18 = .ok (.aload_n 2, 1) := by decide +kernel
theorem d_T_readKind_19 : decode c_T_readKind 19 = .ok (.invokevirtual 181, 3) := by decide +kernel
theorem d_T_readKind_22 : decode c_T_readKind 22 = .ok (.aload_n 0, 1) := by decide +kernel
theorem d_T_readKind_23 : decode c_T_readKind 23 = .ok (.getfield 34, 3) := by decide +kernel
theorem d_T_readKind_26 : decode c_T_readKind 26 = .ok (.invokevirtual 184, 3) := by decide +kernel
theorem d_T_readKind_29 : decode c_T_readKind 29 = .ok (.aload_n 0, 1) := by decide +kernel
theorem d_T_readKind_30 : decode c_T_readKind 30 = .ok (.getfield 34, 3) := by decide +kernel
theorem d_T_readKind_33 : decode c_T_readKind 33 = .ok (.invokevirtual 187, 3) := by decide +kernel
theorem d_T_readKind_36 : decode c_T_readKind 36 = .ok (.ifCond .ne 5, 3) := by decide +kernel
theorem d_T_readKind_39 : decode c_T_readKind 39 = .ok (.iconst 0, 1) := by decide +kernel
theorem d_T_readKind_40 : decode c_T_readKind 40 = .ok (.ireturn, 1) := by decide +kernel
theorem d_T_readKind_41 : decode c_T_readKind 41 = .ok (.aload_n 0, 1) := by decide +kernel
theorem d_T_readKind_42 : decode c_T_readKind 42 = .ok (.getfield 34, 3) := by decide +kernel
theorem d_T_readKind_45 : decode c_T_readKind 45 = .ok (.ldc 208, 2) := by decide +kernel
theorem d_T_readKind_47 : decode c_T_readKind 47 = .ok (.invokevirtual 197, 3) := by decide +kernel
theorem d_T_readKind_50 : decode c_T_readKind 50 = .ok (.istore_n 3, 1) := by decide +kernel
theorem d_T_readKind_51 : decode c_T_readKind 51 = .ok (.aload_n 0, 1) := by decide +kernel
theorem d_T_readKind_52 : decode c_T_readKind 52 = .ok (.getfield 34, 3) := by decide +kernel
theorem d_T_readKind_55 : decode c_T_readKind 55 = .ok (.ldc 210, 2) := by decide +kernel
theorem d_T_readKind_57 : decode c_T_readKind 57 = .ok (.invokevirtual 197, 3) := by decide +kernel
theorem d_T_readKind_60 : decode c_T_readKind 60 = .ok (.istore 4, 2) := by decide +kernel
theorem d_T_readKind_62 : decode c_T_readKind 62 = .ok (.aload_n 0, 1) := by decide +kernel
theorem d_T_readKind_63 : decode c_T_readKind 63 = .ok (.getfield 34, 3) := by decide +kernel
theorem d_T_readKind_66 : decode c_T_readKind 66 = .ok (.invokevirtual 184, 3) := by decide +kernel
theorem d_T_readKind_69 : decode c_T_readKind 69 = .ok (.aload_n 0, 1) := by decide +kernel
theorem d_T_readKind_70 : decode c_T_readKind 70 = .ok (.getfield 34, 3) := by decide +kernel
theorem d_T_readKind_73 : decode c_T_readKind 73 = .ok (.bipush 47, 2) := by decide +kernel
theorem d_T_readKind_75 : decode c_T_readKind 75 = .ok (.invokevirtual 212, 3) := by decide +kernel
theorem d_T_readKind_78 : decode c_T_readKind 78 = .ok (.ifCond .ne 5, 3) := by decide +kernel
theorem d_T_readKind_81 : decode c_T_readKind 81 = .ok (.iconst 0, 1) := by decide +kernel
end
section
theorem d_T_readKind_82 : decode c_T_readKind 82 = .ok (.ireturn, 1) := by decide +kernel
theorem d_T_readKind_83 : decode c_T_readKind 83 = .ok (.aload_n 0, 1) := by decide +kernel
theorem d_T_readKind_84 : decode c_T_readKind 84 = .ok (.getfield 34, 3) := by decide +kernel
theorem d_T_readKind_87 : decode c_T_readKind 87 = .ok (.invokevirtual 184, 3) := by decide +kernel
theorem d_T_readKind_90 : decode c_T_readKind 90 = .ok (.aload_n 0, 1) := by decide +kernel
theorem d_T_readKind_91 : decode c_T_readKind 91 = .ok (.getfield 34, 3) := by decide +kernel
theorem d_T_readKind_94 : decode c_T_readKind 94 = .ok (.invokevirtual 187, 3) := by decide +kernel
theorem d_T_readKind_97 : decode c_T_readKind 97 = .ok (.ifCond .ne 5, 3) := by decide +kernel
theorem d_T_readKind_100 : decode c_T_readKind 100 = .ok (.iconst 0, 1) := by decide +kernel
theorem d_T_readKind_101 : decode c_T_readKind 101 = .ok (.ireturn, 1) := by decide +kernel
theorem d_T_readKind_102 : decode c_T_readKind 102 = .ok (.iload 4, 2) := by decide +kernel
theorem d_T_readKind_104 : decode c_T_readKind 104 = .ok (.ifCond .eq 20, 3) := by decide +kernel
theorem d_T_readKind_107 : decode c_T_readKind 107 = .ok (.aload_n 0, 1) := by decide +kernel
theorem d_T_readKind_108 : decode c_T_readKind 108 = .ok (.getfield 34, 3) := by decide +kernel
theorem d_T_readKind_111 : decode c_T_readKind 111 = .ok (.ldc 215, 2) := by decide +kernel
theorem d_T_readKind_113 : decode c_T_readKind 113 = .ok (.invokevirtual 197, 3) := by decide +kernel
theorem d_T_readKind_116 : decode c_T_readKind 116 = .ok (.ifCond .eq 8, 3) := by decide +kernel
theorem d_T_readKind_119 : decode c_T_readKind 119 = .ok (.aload_n 1, 1) := by decide +kernel
theorem d_T_readKind_120 : decode c_T_readKind 120 = .ok (.iconst 2, 1) := by decide +kernel
theorem d_T_readKind_121 : decode c_T_readKind 121 = .ok (.putfield 103, 3) := by decide +kernel
theorem d_T_readKind_124 : decode c_T_readKind 124 = .ok (.aload_n 0, 1) := by decide +kernel
theorem d_T_readKind_125 : decode c_T_readKind 125 = .ok (.getfield 34, 3) := by decide +kernel
theorem d_T_readKind_128 : decode c_T_readKind 128 = .ok (.invokevirtual 184, 3) := by decide +kernel
theorem d_T_readKind_131 : decode c_T_readKind 131 = .ok (.iload_n 3, 1) := by decide +kernel
theorem d_T_readKind_132 : decode c_T_readKind 132 = .ok (.ireturn, 1) := by decide +kernel
theorem d_T_readBoundary_0 : decode c_T_readBoundary 0 = .ok (.iconst 0, 1) := by decide +kernel
theorem d_T_readBoundary_1 : decode c_T_readBoundary 1 = .ok (.istore_n 2, 1) := by decide +kernel
theorem d_T_readBoundary_2 : decode c_T_readBoundary 2 = .ok (.iconst 0, 1) := by decide +kernel
theorem d_T_readBoundary_3 : decode c_T_readBoundary 3 = .ok (.istore_n 3, 1) := by decide +kernel
theorem d_T_readBoundary_4 : decode c_T_readBoundary 4 = .ok (.iload_n 3, 1) := by decide +kernel
theorem d_T_readBoundary_5 : decode c_T_readBoundary 5 = .ok (.sipush 320, 3) := by decide +kernel
theorem d_T_readBoundary_8 : decode c_T_readBoundary 8 = .ok (.if_icmp .ge 32, 3) := by decide +kernel
theorem d_T_readBoundary_11 : decode c_T_readBoundary 11 = .ok (.iload_n 2, 1) := by decide +kernel
theorem d_T_readBoundary_12 : decode c_T_readBoundary 12 = .ok (.ifCond .ne 28, 3) := by decide +kernel
theorem d_T_readBoundary_15 : decode c_T_readBoundary 15 = .ok (.aload_n 0, 1) := by decide +kernel
theorem d_T_readBoundary_16 : decode c_T_readBoundary 16 = .ok (.getfield 34, 3) := by decide +kernel
theorem d_T_readBoundary_19 : decode c_T_readBoundary 19 = .ok (.invokevirtual 217, 3) := by decide +kernel
theorem d_T_readBoundary_22 : decode c_T_readBoundary 22 = .ok (.ifCond .ne 4, 3) := by decide +kernel
theorem d_T_readBoundary_25 : decode c_T_readBoundary 25 = .ok (.return_, 1) := by decide +kernel
theorem d_T_readBoundary_26 : decode c_T_readBoundary 26 = .ok (.aload_n 0, 1) := by decide +kernel
theorem d_T_readBoundary_27 : decode c_T_readBoundary 27 = .ok (.getfield 34, 3) := by decide +kernel
theorem d_T_readBoundary_30 : decode c_T_readBoundary 30 = .ok (.getfield 220, 3) := by decide +kernel
theorem d_T_readBoundary_33 : decode c_T_readBoundary 33 = .ok (.istore_n 2, 1) := by decide +kernel
theorem d_T_readBoundary_34 : decode c_T_readBoundary 34 = .ok (.iinc 3 1, 3) := by decide +kernel
theorem d_T_readBoundary_37 : decode c_T_readBoundary 37 = .ok (.goto (-33), 3) := by decide +kernel
theorem d_T_readBoundary_40 : decode c_T_readBoundary 40 = .ok (.iload_n 2, 1) := by decide +kernel
theorem d_T_readBoundary_41 : decode c_T_readBoundary 41 = .ok (.ifCond .eq 68, 3) := by decide +kernel
theorem d_T_readBoundary_44 : decode c_T_readBoundary 44 = .ok (.aload_n 0, 1) := by decide +kernel
theorem d_T_readBoundary_45 : decode c_T_readBoundary 45 = .ok (.getfield 34, 3) := by decide +kernel
theorem d_T_readBoundary_48 : decode c_T_readBoundary 48 = .ok (.invokevirtual 224, 3) := by decide +kernel
theorem d_T_readBoundary_51 : decode c_T_readBoundary 51 = .ok (.ifCond .eq 58, 3) := by decide +kernel
theorem d_T_readBoundary_54 : decode c_T_readBoundary 54 = .ok (.aload_n 1, 1) := by decide +kernel
theorem d_T_readBoundary_55 : decode c_T_readBoundary 55 = .ok (.iconst 1, 1) := by decide +kernel
theorem d_T_readBoundary_56 : decode c_T_readBoundary 56 = .ok (.putfield 103, 3) := by decide +kernel
theorem d_T_readBoundary_59 : decode c_T_readBoundary 59 = .ok (.aload_n 1, 1) := by decide +kernel
theorem d_T_readBoundary_60 : decode c_T_readBoundary 60 = .ok (.aload_n 0, 1) := by decide +kernel
theorem d_T_readBoundary_61 : decode c_T_readBoundary 61 = .ok (.getfield 26, 3) := by decide +kernel
theorem d_T_readBoundary_64 : decode c_T_readBoundary 64 = .ok (.getfield 68, 3) := by decide +kernel
theorem d_T_readBoundary_67 : decode c_T_readBoundary 67 = .ok (.putfield 227, 3) := by decide +kernel
theorem d_T_readBoundary_70 : decode c_T_readBoundary 70 = .ok (.aload_n 1, 1) := by decide +kernel
theorem d_T_readBoundary_71 : decode c_T_readBoundary 71 = .ok (.aload_n 0, 1) := by decide +kernel
theorem d_T_readBoundary_72 : decode c_T_readBoundary 72 = .ok (.getfield 34, 3) := by decide +kernel
theorem d_T_readBoundary_75 : decode c_T_readBoundary 75 = .ok (.getfield 230, 3) := by decide +kernel
theorem d_T_readBoundary_78 : decode c_T_readBoundary 78 = .ok (.getfield 68, 3) := by decide +kernel
theorem d_T_readBoundary_81 : decode c_T_readBoundary 81 = .ok (.putfield 233, 3) := by decide +kernel
theorem d_T_readBoundary_84 : decode c_T_readBoundary 84 = .ok (.aload_n 0, 1) := by decide +kernel
theorem d_T_readBoundary_85 : decode c_T_readBoundary 85 = .ok (.getfield 26, 3) := by decide +kernel
theorem d_T_readBoundary_88 : decode c_T_readBoundary 88 = .ok (.aload_n 0, 1) := by decide +kernel
theorem d_T_readBoundary_89 : decode c_T_readBoundary 89 = .ok (.getfield 34, 3) := by decide +kernel
theorem d_T_readBoundary_92 : decode c_T_readBoundary 92 = .ok (.getfield 230, 3) := by decide +kernel
theorem d_T_readBoundary_95 : decode c_T_readBoundary 95 = .ok (.iconst 0, 1) := by decide +kernel
theorem d_T_readBoundary_96 : decode c_T_readBoundary 96 = .ok (.aload_n 0, 1) := by decide +kernel
theorem d_T_readBoundary_97 : decode c_T_readBoundary 97 = .ok (.getfield 34, 3) := by decide +kernel
theorem d_T_readBoundary_100 : decode c_T_readBoundary 100 = .ok (.getfield 230, 3) := by decide +kernel
theorem d_T_readBoundary_103 : decode c_T_readBoundary 103 = .ok (.getfield 68, 3) := by decide +kernel
theorem d_T_readBoundary_106 : decode c_T_readBoundary 106 = .ok (.invokevirtual 71, 3) := by decide +kernel
theorem d_T_readBoundary_109 : decode c_T_readBoundary 109 = .ok (.return_, 1) := by decide +kernel
theorem d_T_readParts_0 : decode c_T_readParts 0 = .ok (.iconst (-1), 1) := by decide +kernel
theorem d_T_readParts_1 : decode c_T_readParts 1 = .ok (.istore_n 3, 1) := by decide +kernel
theorem d_T_readParts_2 : decode c_T_readParts 2 = .ok (.aload_n 1, 1) := by decide +kernel
theorem d_T_readParts_3 : decode c_T_readParts 3 = .ok (.getfield 86, 3) := by decide +kernel
theorem d_T_readParts_6 : decode c_T_readParts 6 = .ok (.istore 4, 2) := by decide +kernel
theorem d_T_readParts_8 : decode c_T_readParts 8 = .ok (.aload_n 1, 1) := by decide +kernel
theorem d_T_readParts_9 : decode c_T_readParts 9 = .ok (.getfield 86, 3) := by decide +kernel
theorem d_T_readParts_12 : decode c_T_readParts 12 = .ok (.istore 5, 2) := by decide +kernel
theorem d_T_readParts_14 : decode c_T_readParts 14 = .ok (.iconst 0, 1) := by decide +kernel
theorem d_T_readParts_15 : decode c_T_readParts 15 = .ok (.istore 6, 2) := by decide +kernel
theorem d_T_readParts_17 : decode c_T_readParts 17 = .ok (.iload 6, 2) := by decide +kernel
theorem d_T_readParts_19 : decode c_T_readParts 19 = .ok (.sipush 320, 3) := by decide +kernel
theorem d_T_readParts_22 : decode c_T_readParts 22 = .ok (.if_icmp .ge 108, 3) := by decide +kernel
theorem d_T_readParts_25 : decode c_T_readParts 25 = .ok (.iload 5, 2) := by decide +kernel
theorem d_T_readParts_27 : decode c_T_readParts 27 = .ok (.aload_n 1, 1) := by decide +kernel
theorem d_T_readParts_28 : decode c_T_readParts 28 = .ok (.getfield 119, 3) := by decide +kernel
theorem d_T_readParts_31 : decode c_T_readParts 31 = .ok (.if_icmp .ge 99, 3) := by decide +kernel
theorem d_T_readParts_34 : decode c_T_readParts 34 = .ok (.aload_n 0, 1) := by decide +kernel
theorem d_T_readParts_35 : decode c_T_readParts 35 = .ok (.getfield 14, 3) := by decide +kernel
theorem d_T_readParts_38 : decode c_T_readParts 38 = .ok (.iload 5, 2) := by decide +kernel
theorem d_T_readParts_40 : decode c_T_readParts 40 = .ok (.aload_n 1, 1) := by decide +kernel
theorem d_T_readParts_41 : decode c_T_readParts 41 = .ok (.getfield 119, 3) := by decide +kernel
theorem d_T_readParts_44 : decode c_T_readParts 44 = .ok (.invokevirtual 122, 3) := by decide +kernel
theorem d_T_readParts_47 : decode c_T_readParts 47 = .ok (.istore 7, 2) := by decide +kernel
theorem d_T_readParts_49 : decode c_T_readParts 49 = .ok (.aload_n 0, 1) := by decide +kernel
theorem d_T_readParts_50 : decode c_T_readParts 50 = .ok (.getfield 14, 3) := by decide +kernel
theorem d_T_readParts_53 : decode c_T_readParts 53 = .ok (.iload 5, 2) := by decide +kernel
theorem d_T_readParts_55 : decode c_T_readParts 55 = .ok (.iload 7, 2) := by decide +kernel
theorem d_T_readParts_57 : decode c_T_readParts 57 = .ok (.invokevirtual 126, 3) := by decide +kernel
theorem d_T_readParts_60 : decode c_T_readParts 60 = .ok (.istore 8, 2) := by decide +kernel
theorem d_T_readParts_62 : decode c_T_readParts 62 = .ok (.aload_n 0, 1) := by decide +kernel
theorem d_T_readParts_63 : decode c_T_readParts 63 = .ok (.aload_n 1, 1) := by decide +kernel
theorem d_T_readParts_64 : decode c_T_readParts 64 = .ok (.iload 5, 2) := by decide +kernel
theorem d_T_readParts_66 : decode c_T_readParts 66 = .ok (.iload 8, 2) := by decide +kernel
theorem d_T_readParts_68 : decode c_T_readParts 68 = .ok (.invokevirtual 236, 3) := by decide +kernel
theorem d_T_readParts_71 : decode c_T_readParts 71 = .ok (.istore 9, 2) := by decide +kernel
theorem d_T_readParts_73 : decode c_T_readParts 73 = .ok (.iload 9, 2) := by decide +kernel
theorem d_T_readParts_75 : decode c_T_readParts 75 = .ok (.ifCond .eq 25, 3) := by decide +kernel
theorem d_T_readParts_78 : decode c_T_readParts 78 = .ok (.iload_n 3, 1) := by decide +kernel
theorem d_T_readParts_79 : decode c_T_readParts 79 = .ok (.ifCond .lt 21, 3) := by decide +kernel
theorem d_T_readParts_82 : decode c_T_readParts 82 = .ok (.aload_n 0, 1) := by decide +kernel
theorem d_T_readParts_83 : decode c_T_readParts 83 = .ok (.iload_n 3, 1) := by decide +kernel
theorem d_T_readParts_84 : decode c_T_readParts 84 = .ok (.iload_n 3, 1) := by decide +kernel
theorem d_T_readParts_85 : decode c_T_readParts 85 = .ok (.iload 4, 2) := by decide +kernel
theorem d_T_readParts_87 : decode c_T_readParts 87 = .ok (.invokestatic 240, 3) := by decide +kernel
theorem d_T_readParts_90 : decode c_T_readParts 90 = .ok (.aload_n 1, 1) := by decide +kernel
theorem d_T_readParts_91 : decode c_T_readParts 91 = .ok (.getfield 245, 3) := by decide +kernel
theorem d_T_readParts_94 : decode c_T_readParts 94 = .ok (.iconst 1, 1) := by decide +kernel
theorem d_T_readParts_95 : decode c_T_readParts 95 = .ok (.iadd, 1) := by decide +kernel
theorem d_T_readParts_96 : decode c_T_readParts 96 = .ok (.iload_n 2, 1) := by decide +kernel
theorem d_T_readParts_97 : decode c_T_readParts 97 = .ok (.invokevirtual 109, 3) := by decide +kernel
theorem d_T_readParts_100 : decode c_T_readParts 100 = .ok (.iload 9, 2) := by decide +kernel
theorem d_T_readParts_102 : decode c_T_readParts 102 = .ok (.iconst 2, 1) := by decide +kernel
theorem d_T_readParts_103 : decode c_T_readParts 103 = .ok (.if_icmp .ne 4, 3) := by decide +kernel
theorem d_T_readParts_106 : decode c_T_readParts 106 = .ok (.return_, 1) := by decide +kernel
theorem d_T_readParts_107 : decode c_T_readParts 107 = .ok (.iload 9, 2) := by decide +kernel
theorem d_T_readParts_109 : decode c_T_readParts 109 = .ok (.iconst 1, 1) := by decide +kernel
theorem d_T_readParts_110 : decode c_T_readParts 110 = .ok (.if_icmp .ne 6, 3) := by decide +kernel
theorem d_T_readParts_113 : decode c_T_readParts 113 = .ok (.iload 7, 2) := by decide +kernel
theorem d_T_readParts_115 : decode c_T_readParts 115 = .ok (.istore_n 3, 1) := by decide +kernel
theorem d_T_readParts_116 : decode c_T_readParts 116 = .ok (.iload 8, 2) := by decide +kernel
theorem d_T_readParts_118 : decode c_T_readParts 118 = .ok (.istore 4, 2) := by decide +kernel
theorem d_T_readParts_120 : decode c_T_readParts 120 = .ok (.iload 7, 2) := by decide +kernel
theorem d_T_readParts_122 : decode c_T_readParts 122 = .ok (.istore 5, 2) := by decide +kernel
theorem d_T_readParts_124 : decode c_T_readParts 124 = .ok (.iinc 6 1, 3) := by decide +kernel
theorem d_T_readParts_127 : decode c_T_readParts 127 = .ok (.goto (-110), 3) := by decide +kernel
theorem d_T_readParts_130 : decode c_T_readParts 130 = .ok (.iload_n 3, 1) := by decide +kernel
theorem d_T_readParts_131 : decode c_T_readParts 131 = .ok (.ifCond .lt 19, 3) := by decide +kernel
theorem d_T_readParts_134 : decode c_T_readParts 134 = .ok (.aload_n 0, 1) := by decide +kernel
theorem d_T_readParts_135 : decode c_T_readParts 135 = .ok (.iload_n 3, 1) := by decide +kernel
theorem d_T_readParts_136 : decode c_T_readParts 136 = .ok (.aload_n 1, 1) := by decide +kernel
theorem d_T_readParts_137 : decode c_T_readParts 137 = .ok (.getfield 119, 3) := by decide +kernel
theorem d_T_readParts_140 : decode c_T_readParts 140 = .ok (.aload_n 1, 1) := by decide +kernel
theorem d_T_readParts_141 : decode c_T_readParts 141 = .ok (.getfield 245, 3) := by decide +kernel
theorem d_T_readParts_144 : decode c_T_readParts 144 = .ok (.iconst 1, 1) := by decide +kernel
theorem d_T_readParts_145 : decode c_T_readParts 145 = .ok (.iadd, 1) := by decide +kernel
theorem d_T_readParts_146 : decode c_T_readParts 146 = .ok (.iload_n 2, 1) := by decide +kernel
theorem d_T_readParts_147 : decode c_T_readParts 147 = .ok (.invokevirtual 109, 3) := by decide +kernel
theorem d_T_readParts_150 : decode c_T_readParts 150 = .ok (.return_, 1) := by decide +kernel
theorem d_T_markOf_0 : decode c_T_markOf 0 = .ok (.iload_n 2, 1) := by decide +kernel
theorem d_T_markOf_1 : decode c_T_markOf 1 = .ok (.ldc 248, 2) := by decide +kernel
theorem d_T_markOf_3 : decode c_T_markOf 3 = .ok (.invokevirtual 250, 3) := by decide +kernel
theorem d_T_markOf_6 : decode c_T_markOf 6 = .ok (.iadd, 1) := by decide +kernel
theorem d_T_markOf_7 : decode c_T_markOf 7 = .ok (.aload_n 1, 1) := by decide +kernel
theorem d_T_markOf_8 : decode c_T_markOf 8 = .ok (.getfield 233, 3) := by decide +kernel
theorem d_T_markOf_11 : decode c_T_markOf 11 = .ok (.iadd, 1) := by decide +kernel
theorem d_T_markOf_12 : decode c_T_markOf 12 = .ok (.istore 4, 2) := by decide +kernel
theorem d_T_markOf_14 : decode c_T_markOf 14 = .ok (.iload 4, 2) := by decide +kernel
theorem d_T_markOf_16 : decode c_T_markOf 16 = .ok (.iload_n 3, 1) := by decide +kernel
theorem d_T_markOf_17 : decode c_T_markOf 17 = .ok (.if_icmp .gt 17, 3) := by decide +kernel
theorem d_T_markOf_20 : decode c_T_markOf 20 = .ok (.aload_n 0, 1) := by decide +kernel
theorem d_T_markOf_21 : decode c_T_markOf 21 = .ok (.getfield 14, 3) := by decide +kernel
theorem d_T_markOf_24 : decode c_T_markOf 24 = .ok (.ldc 248, 2) := by decide +kernel
theorem d_T_markOf_26 : decode c_T_markOf 26 = .ok (.iload_n 2, 1) := by decide +kernel
theorem d_T_markOf_27 : decode c_T_markOf 27 = .ok (.iload_n 3, 1) := by decide +kernel
theorem d_T_markOf_28 : decode c_T_markOf 28 = .ok (.invokevirtual 256, 3) := by decide +kernel
theorem d_T_markOf_31 : decode c_T_markOf 31 = .ok (.ifCond .ne 5, 3) := by decide +kernel
theorem d_T_markOf_34 : decode c_T_markOf 34 = .ok (.iconst 0, 1) := by decide +kernel
theorem d_T_markOf_35 : decode c_T_markOf 35 = .ok (.ireturn, 1) := by decide +kernel
theorem d_T_markOf_36 : decode c_T_markOf 36 = .ok (.iconst 0, 1) := by decide +kernel
theorem d_T_markOf_37 : decode c_T_markOf 37 = .ok (.istore 5, 2) := by decide +kernel
theorem d_T_markOf_39 : decode c_T_markOf 39 = .ok (.iload 5, 2) := by decide +kernel
theorem d_T_markOf_41 : decode c_T_markOf 41 = .ok (.aload_n 1, 1) := by decide +kernel
theorem d_T_markOf_42 : decode c_T_markOf 42 = .ok (.getfield 233, 3) := by decide +kernel
theorem d_T_markOf_45 : decode c_T_markOf 45 = .ok (.if_icmp .ge 45, 3) := by decide +kernel
theorem d_T_markOf_48 : decode c_T_markOf 48 = .ok (.aload_n 0, 1) := by decide +kernel
theorem d_T_markOf_49 : decode c_T_markOf 49 = .ok (.getfield 14, 3) := by decide +kernel
theorem d_T_markOf_52 : decode c_T_markOf 52 = .ok (.iload_n 2, 1) := by decide +kernel
theorem d_T_markOf_53 : decode c_T_markOf 53 = .ok (.ldc 248, 2) := by decide +kernel
theorem d_T_markOf_55 : decode c_T_markOf 55 = .ok (.invokevirtual 250, 3) := by decide +kernel
theorem d_T_markOf_58 : decode c_T_markOf 58 = .ok (.iadd, 1) := by decide +kernel
theorem d_T_markOf_59 : decode c_T_markOf 59 = .ok (.iload 5, 2) := by decide +kernel
theorem d_T_markOf_61 : decode c_T_markOf 61 = .ok (.iadd, 1) := by decide +kernel
theorem d_T_markOf_62 : decode c_T_markOf 62 = .ok (.invokevirtual 129, 3) := by decide +kernel
theorem d_T_markOf_65 : decode c_T_markOf 65 = .ok (.aload_n 0, 1) := by decide +kernel
theorem d_T_markOf_66 : decode c_T_markOf 66 = .ok (.getfield 26, 3) := by decide +kernel
theorem d_T_markOf_69 : decode c_T_markOf 69 = .ok (.aload_n 1, 1) := by decide +kernel
theorem d_T_markOf_70 : decode c_T_markOf 70 = .ok (.getfield 227, 3) := by decide +kernel
theorem d_T_markOf_73 : decode c_T_markOf 73 = .ok (.iload 5, 2) := by decide +kernel
theorem d_T_markOf_75 : decode c_T_markOf 75 = .ok (.iadd, 1) := by decide +kernel
theorem d_T_markOf_76 : decode c_T_markOf 76 = .ok (.invokevirtual 129, 3) := by decide +kernel
theorem d_T_markOf_79 : decode c_T_markOf 79 = .ok (.if_icmp .eq 5, 3) := by decide +kernel
theorem d_T_markOf_82 : decode c_T_markOf 82 = .ok (.iconst 0, 1) := by decide +kernel
theorem d_T_markOf_83 : decode c_T_markOf 83 = .ok (.ireturn, 1) := by decide +kernel
theorem d_T_markOf_84 : decode c_T_markOf 84 = .ok (.iinc 5 1, 3) := by decide +kernel
theorem d_T_markOf_87 : decode c_T_markOf 87 = .ok (.goto (-48), 3) := by decide +kernel
theorem d_T_markOf_90 : decode c_T_markOf 90 = .ok (.aload_n 0, 1) := by decide +kernel
theorem d_T_markOf_91 : decode c_T_markOf 91 = .ok (.getfield 14, 3) := by decide +kernel
theorem d_T_markOf_94 : decode c_T_markOf 94 = .ok (.iload 4, 2) := by decide +kernel
theorem d_T_markOf_96 : decode c_T_markOf 96 = .ok (.iload_n 3, 1) := by decide +kernel
theorem d_T_markOf_97 : decode c_T_markOf 97 = .ok (.invokevirtual 168, 3) := by decide +kernel
theorem d_T_markOf_100 : decode c_T_markOf 100 = .ok (.iload_n 3, 1) := by decide +kernel
theorem d_T_markOf_101 : decode c_T_markOf 101 = .ok (.if_icmp .ne 5, 3) := by decide +kernel
theorem d_T_markOf_104 : decode c_T_markOf 104 = .ok (.iconst 1, 1) := by decide +kernel
theorem d_T_markOf_105 : decode c_T_markOf 105 = .ok (.ireturn, 1) := by decide +kernel
theorem d_T_markOf_106 : decode c_T_markOf 106 = .ok (.aload_n 0, 1) := by decide +kernel
theorem d_T_markOf_107 : decode c_T_markOf 107 = .ok (.getfield 14, 3) := by decide +kernel
theorem d_T_markOf_110 : decode c_T_markOf 110 = .ok (.ldc 248, 2) := by decide +kernel
theorem d_T_markOf_112 : decode c_T_markOf 112 = .ok (.iload 4, 2) := by decide +kernel
theorem d_T_markOf_114 : decode c_T_markOf 114 = .ok (.iload_n 3, 1) := by decide +kernel
theorem d_T_markOf_115 : decode c_T_markOf 115 = .ok (.invokevirtual 256, 3) := by decide +kernel
theorem d_T_markOf_118 : decode c_T_markOf 118 = .ok (.ifCond .eq 27, 3) := by decide +kernel
theorem d_T_markOf_121 : decode c_T_markOf 121 = .ok (.aload_n 0, 1) := by decide +kernel
theorem d_T_markOf_122 : decode c_T_markOf 122 = .ok (.getfield 14, 3) := by decide +kernel
theorem d_T_markOf_125 : decode c_T_markOf 125 = .ok (.iload 4, 2) := by decide +kernel
theorem d_T_markOf_127 : decode c_T_markOf 127 = .ok (.ldc 248, 2) := by decide +kernel
theorem d_T_markOf_129 : decode c_T_markOf 129 = .ok (.invokevirtual 250, 3) := by decide +kernel
theorem d_T_markOf_132 : decode c_T_markOf 132 = .ok (.iadd, 1) := by decide +kernel
theorem d_T_markOf_133 : decode c_T_markOf 133 = .ok (.iload_n 3, 1) := by decide +kernel
theorem d_T_markOf_134 : decode c_T_markOf 134 = .ok (.invokevirtual 168, 3) := by decide +kernel
theorem d_T_markOf_137 : decode c_T_markOf 137 = .ok (.iload_n 3, 1) := by decide +kernel
theorem d_T_markOf_138 : decode c_T_markOf 138 = .ok (.if_icmp .ne 7, 3) := by decide +kernel
theorem d_T_markOf_141 : decode c_T_markOf 141 = .ok (.iconst 1, 1) := by decide +kernel
theorem d_T_markOf_142 : decode c_T_markOf 142 = .ok (.goto 4, 3) := by decide +kernel
theorem d_T_markOf_145 : decode c_T_markOf 145 = .ok (.iconst 0, 1) := by decide +kernel
theorem d_T_markOf_146 : decode c_T_markOf 146 = .ok (.istore 5, 2) := by decide +kernel
theorem d_T_markOf_148 : decode c_T_markOf 148 = .ok (.iload 5, 2) := by decide +kernel
theorem d_T_markOf_150 : decode c_T_markOf 150 = .ok (.ifCond .eq 7, 3) := by decide +kernel
theorem d_T_markOf_153 : decode c_T_markOf 153 = .ok (.iconst 2, 1) := by decide +kernel
theorem d_T_markOf_154 : decode c_T_markOf 154 = .ok (.goto 4, 3) := by decide +kernel
theorem d_T_markOf_157 : decode c_T_markOf 157 = .ok (.iconst 0, 1) := by decide +kernel
theorem d_T_markOf_158 : decode c_T_markOf 158 = .ok (.ireturn, 1) := by decide +kernel
theorem d_T_entityAt_0 : decode c_T_entityAt 0 = .ok (.iload_n 1, 1) := by decide +kernel
theorem d_T_entityAt_1 : decode c_T_entityAt 1 = .ok (.ifCond .lt 17, 3) := by decide +kernel
theorem d_T_entityAt_4 : decode c_T_entityAt 4 = .ok (.iload_n 1, 1) := by decide +kernel
theorem d_T_entityAt_5 : decode c_T_entityAt 5 = .ok (.aload_n 0, 1) := by decide +kernel
theorem d_T_entityAt_6 : decode c_T_entityAt 6 = .ok (.getfield 54, 3) := by decide +kernel
theorem d_T_entityAt_9 : decode c_T_entityAt 9 = .ok (.if_icmp .ge 9, 3) := by decide +kernel
theorem d_T_entityAt_12 : decode c_T_entityAt 12 = .ok (.iload_n 1, 1) := by decide +kernel
theorem d_T_entityAt_13 : decode c_T_entityAt 13 = .ok (.bipush 16, 2) := by decide +kernel
theorem d_T_entityAt_15 : decode c_T_entityAt 15 = .ok (.if_icmp .lt 13, 3) := by decide +kernel
theorem d_T_entityAt_18 : decode c_T_entityAt 18 = .ok (.new 58, 3) := by decide +kernel
theorem d_T_entityAt_21 : decode c_T_entityAt 21 = .ok (.dup, 1) := by decide +kernel
theorem d_T_entityAt_22 : decode c_T_entityAt 22 = .ok (.ldc 60, 2) := by decide +kernel
theorem d_T_entityAt_24 : decode c_T_entityAt 24 = .ok (.invokespecial 62, 3) := by decide +kernel
theorem d_T_entityAt_27 : decode c_T_entityAt 27 = .ok (.athrow, 1) := by decide +kernel
theorem d_T_entityAt_28 : decode c_T_entityAt 28 = .ok (.aload_n 0, 1) := by decide +kernel
theorem d_T_entityAt_29 : decode c_T_entityAt 29 = .ok (.getfield 49, 3) := by decide +kernel
theorem d_T_entityAt_32 : decode c_T_entityAt 32 = .ok (.iload_n 1, 1) := by decide +kernel
theorem d_T_entityAt_33 : decode c_T_entityAt 33 = .ok (.aaload, 1) := by decide +kernel
theorem d_T_entityAt_34 : decode c_T_entityAt 34 = .ok (.areturn, 1) := by decide +kernel
theorem d_X_init_0 : decode c_X_init 0 = .ok (.aload_n 0, 1) := by decide +kernel
theorem d_X_init_1 : decode c_X_init 1 = .ok (.invokespecial 1, 3) := by decide +kernel
theorem d_X_init_4 : decode c_X_init 4 = .ok (.aload_n 0, 1) := by decide +kernel
theorem d_X_init_5 : decode c_X_init 5 = .ok (.new 7, 3) := by decide +kernel
theorem d_X_init_8 : decode c_X_init 8 = .ok (.dup, 1) := by decide +kernel
theorem d_X_init_9 : decode c_X_init 9 = .ok (.sipush 320, 3) := by decide +kernel
theorem d_X_init_12 : decode c_X_init 12 = .ok (.invokespecial 11, 3) := by decide +kernel
theorem d_X_init_15 : decode c_X_init 15 = .ok (.putfield 14, 3) := by decide +kernel
theorem d_X_init_18 : decode c_X_init 18 = .ok (.aload_n 0, 1) := by decide +kernel
theorem d_X_init_19 : decode c_X_init 19 = .ok (.new 7, 3) := by decide +kernel
theorem d_X_init_22 : decode c_X_init 22 = .ok (.dup, 1) := by decide +kernel
theorem d_X_init_23 : decode c_X_init 23 = .ok (.sipush 700, 3) := by decide +kernel
theorem d_X_init_26 : decode c_X_init 26 = .ok (.invokespecial 11, 3) := by decide +kernel
theorem d_X_init_29 : decode c_X_init 29 = .ok (.putfield 18, 3) := by decide +kernel
theorem d_X_init_32 : decode c_X_init 32 = .ok (.aload_n 0, 1) := by decide +kernel
theorem d_X_init_33 : decode c_X_init 33 = .ok (.new 21, 3) := by decide +kernel
theorem d_X_init_36 : decode c_X_init 36 = .ok (.dup, 1) := by decide +kernel
theorem d_X_init_37 : decode c_X_init 37 = .ok (.invokespecial 23, 3) := by decide +kernel
theorem d_X_init_40 : decode c_X_init 40 = .ok (.putfield 24, 3) := by decide +kernel
theorem d_X_init_43 : decode c_X_init 43 = .ok (.aload_n 0, 1) := by decide +kernel
theorem d_X_init_44 : decode c_X_init 44 = .ok (.new 28, 3) := by decide +kernel
theorem d_X_init_47 : decode c_X_init 47 = .ok (.dup, 1) := by decide +kernel
theorem d_X_init_48 : decode c_X_init 48 = .ok (.aload_n 0, 1) := by decide +kernel
theorem d_X_init_49 : decode c_X_init 49 = .ok (.getfield 24, 3) := by decide +kernel
theorem d_X_init_52 : decode c_X_init 52 = .ok (.invokespecial 30, 3) := by decide +kernel
theorem d_X_init_55 : decode c_X_init 55 = .ok (.putfield 33, 3) := by decide +kernel
theorem d_X_init_58 : decode c_X_init 58 = .ok (.return_, 1) := by decide +kernel
theorem d_X_feed_0 : decode c_X_feed 0 = .ok (.iload_n 3, 1) := by decide +kernel
theorem d_X_feed_1 : decode c_X_feed 1 = .ok (.iconst 1, 1) := by decide +kernel
theorem d_X_feed_2 : decode c_X_feed 2 = .ok (.if_icmp .lt 24, 3) := by decide +kernel
theorem d_X_feed_5 : decode c_X_feed 5 = .ok (.iload_n 3, 1) := by decide +kernel
theorem d_X_feed_6 : decode c_X_feed 6 = .ok (.bipush 8, 2) := by decide +kernel
theorem d_X_feed_8 : decode c_X_feed 8 = .ok (.if_icmp .gt 18, 3) := by decide +kernel
theorem d_X_feed_11 : decode c_X_feed 11 = .ok (.aload_n 0, 1) := by decide +kernel
theorem d_X_feed_12 : decode c_X_feed 12 = .ok (.getfield 14, 3) := by decide +kernel
theorem d_X_feed_15 : decode c_X_feed 15 = .ok (.getfield 37, 3) := by decide +kernel
theorem d_X_feed_18 : decode c_X_feed 18 = .ok (.iload_n 3, 1) := by decide +kernel
theorem d_X_feed_19 : decode c_X_feed 19 = .ok (.iadd, 1) := by decide +kernel
theorem d_X_feed_20 : decode c_X_feed 20 = .ok (.sipush 320, 3) := by decide +kernel
theorem d_X_feed_23 : decode c_X_feed 23 = .ok (.if_icmp .le 5, 3) := by decide +kernel
theorem d_X_feed_26 : decode c_X_feed 26 = .ok (.iconst 0, 1) := by decide +kernel
theorem d_X_feed_27 : decode c_X_feed 27 = .ok (.ireturn, 1) := by decide +kernel
theorem d_X_feed_28 : decode c_X_feed 28 = .ok (.iconst 0, 1) := by decide +kernel
theorem d_X_feed_29 : decode c_X_feed 29 = .ok (.istore 4, 2) := by decide +kernel
theorem d_X_feed_31 : decode c_X_feed 31 = .ok (.iload 4, 2) := by decide +kernel
theorem d_X_feed_33 : decode c_X_feed 33 = .ok (.iload_n 3, 1) := by decide +kernel
theorem d_X_feed_34 : decode c_X_feed 34 = .ok (.if_icmp .ge 28, 3) := by decide +kernel
theorem d_X_feed_37 : decode c_X_feed 37 = .ok (.aload_n 0, 1) := by decide +kernel
theorem d_X_feed_38 : decode c_X_feed 38 = .ok (.getfield 14, 3) := by decide +kernel
theorem d_X_feed_41 : decode c_X_feed 41 = .ok (.lload_n 1, 1) := by decide +kernel
theorem d_X_feed_42 : decode c_X_feed 42 = .ok (.bipush 8, 2) := by decide +kernel
theorem d_X_feed_44 : decode c_X_feed 44 = .ok (.iload 4, 2) := by decide +kernel
theorem d_X_feed_46 : decode c_X_feed 46 = .ok (.imul, 1) := by decide +kernel
theorem d_X_feed_47 : decode c_X_feed 47 = .ok (.lushr, 1) := by decide +kernel
theorem d_X_feed_48 : decode c_X_feed 48 = .ok (.l2i, 1) := by decide +kernel
theorem d_X_feed_49 : decode c_X_feed 49 = .ok (.sipush 255, 3) := by decide +kernel
theorem d_X_feed_52 : decode c_X_feed 52 = .ok (.iand, 1) := by decide +kernel
theorem d_X_feed_53 : decode c_X_feed 53 = .ok (.invokevirtual 41, 3) := by decide +kernel
theorem d_X_feed_56 : decode c_X_feed 56 = .ok (.iinc 4 1, 3) := by decide +kernel
theorem d_X_feed_59 : decode c_X_feed 59 = .ok (.goto (-28), 3) := by decide +kernel
theorem d_X_feed_62 : decode c_X_feed 62 = .ok (.iconst 1, 1) := by decide +kernel
theorem d_X_feed_63 : decode c_X_feed 63 = .ok (.ireturn, 1) := by decide +kernel
theorem d_X_clear_0 : decode c_X_clear 0 = .ok (.aload_n 0, 1) := by decide +kernel
theorem d_X_clear_1 : decode c_X_clear 1 = .ok (.getfield 14, 3) := by decide +kernel
theorem d_X_clear_4 : decode c_X_clear 4 = .ok (.getfield 37, 3) := by decide +kernel
theorem d_X_clear_7 : decode c_X_clear 7 = .ok (.istore_n 1, 1) := by decide +kernel
theorem d_X_clear_8 : decode c_X_clear 8 = .ok (.aload_n 0, 1) := by decide +kernel
theorem d_X_clear_9 : decode c_X_clear 9 = .ok (.getfield 14, 3) := by decide +kernel
theorem d_X_clear_12 : decode c_X_clear 12 = .ok (.invokevirtual 44, 3) := by decide +kernel
theorem d_X_clear_15 : decode c_X_clear 15 = .ok (.iload_n 1, 1) := by decide +kernel
theorem d_X_clear_16 : decode c_X_clear 16 = .ok (.ireturn, 1) := by decide +kernel
theorem d_X_read_0 : decode c_X_read 0 = .ok (.aload_n 0, 1) := by decide +kernel
theorem d_X_read_1 : decode c_X_read 1 = .ok (.getfield 24, 3) := by decide +kernel
theorem d_X_read_4 : decode c_X_read 4 = .ok (.aload_n 0, 1) := by decide +kernel
theorem d_X_read_5 : decode c_X_read 5 = .ok (.getfield 14, 3) := by decide +kernel
theorem d_X_read_8 : decode c_X_read 8 = .ok (.invokevirtual 47, 3) := by decide +kernel
theorem d_X_read_11 : decode c_X_read 11 = .ok (.aload_n 0, 1) := by decide +kernel
theorem d_X_read_12 : decode c_X_read 12 = .ok (.getfield 24, 3) := by decide +kernel
theorem d_X_read_15 : decode c_X_read 15 = .ok (.iconst 0, 1) := by decide +kernel
theorem d_X_read_16 : decode c_X_read 16 = .ok (.aload_n 0, 1) := by decide +kernel
theorem d_X_read_17 : decode c_X_read 17 = .ok (.getfield 14, 3) := by decide +kernel
theorem d_X_read_20 : decode c_X_read 20 = .ok (.getfield 37, 3) := by decide +kernel
theorem d_X_read_23 : decode c_X_read 23 = .ok (.iconst 1, 1) := by decide +kernel
theorem d_X_read_24 : decode c_X_read 24 = .ok (.iconst (-1), 1) := by decide +kernel
theorem d_X_read_25 : decode c_X_read 25 = .ok (.invokevirtual 51, 3) := by decide +kernel
theorem d_X_read_28 : decode c_X_read 28 = .ok (.aload_n 0, 1) := by decide +kernel
theorem d_X_read_29 : decode c_X_read 29 = .ok (.getfield 24, 3) := by decide +kernel
theorem d_X_read_32 : decode c_X_read 32 = .ok (.getfield 55, 3) := by decide +kernel
theorem d_X_read_35 : decode c_X_read 35 = .ok (.ireturn, 1) := by decide +kernel
theorem d_X_isBlank_0 : decode c_X_isBlank 0 = .ok (.iload_n 0, 1) := by decide +kernel
theorem d_X_isBlank_1 : decode c_X_isBlank 1 = .ok (.bipush 32, 2) := by decide +kernel
theorem d_X_isBlank_3 : decode c_X_isBlank 3 = .ok (.if_icmp .eq 9, 3) := by decide +kernel
theorem d_X_isBlank_6 : decode c_X_isBlank 6 = .ok (.iload_n 0, 1) := by decide +kernel
theorem d_X_isBlank_7 : decode c_X_isBlank 7 = .ok (.bipush 9, 2) := by decide +kernel
theorem d_X_isBlank_9 : decode c_X_isBlank 9 = .ok (.if_icmp .ne 7, 3) := by decide +kernel
theorem d_X_isBlank_12 : decode c_X_isBlank 12 = .ok (.iconst 1, 1) := by decide +kernel
theorem d_X_isBlank_13 : decode c_X_isBlank 13 = .ok (.goto 4, 3) := by decide +kernel
theorem d_X_isBlank_16 : decode c_X_isBlank 16 = .ok (.iconst 0, 1) := by decide +kernel
theorem d_X_isBlank_17 : decode c_X_isBlank 17 = .ok (.ireturn, 1) := by decide +kernel
theorem d_X_isNameByte_0 : decode c_X_isNameByte 0 = .ok (.iload_n 0, 1) := by decide +kernel
theorem d_X_isNameByte_1 : decode c_X_isNameByte 1 = .ok (.bipush 33, 2) := by decide +kernel
theorem d_X_isNameByte_3 : decode c_X_isNameByte 3 = .ok (.if_icmp .lt 19, 3) := by decide +kernel
theorem d_X_isNameByte_6 : decode c_X_isNameByte 6 = .ok (.iload_n 0, 1) := by decide +kernel
theorem d_X_isNameByte_7 : decode c_X_isNameByte 7 = .ok (.bipush 126, 2) := by decide +kernel
theorem d_X_isNameByte_9 : decode c_X_isNameByte 9 = .ok (.if_icmp .gt 13, 3) := by decide +kernel
theorem d_X_isNameByte_12 : decode c_X_isNameByte 12 = .ok (.iload_n 0, 1) := by decide +kernel
theorem d_X_isNameByte_13 : decode c_X_isNameByte 13 = .ok (.bipush 58, 2) := by decide +kernel
theorem d_X_isNameByte_15 : decode c_X_isNameByte 15 = .ok (.if_icmp .eq 7, 3) := by decide +kernel
theorem d_X_isNameByte_18 : decode c_X_isNameByte 18 = .ok (.iconst 1, 1) := by decide +kernel
theorem d_X_isNameByte_19 : decode c_X_isNameByte 19 = .ok (.goto 4, 3) := by decide +kernel
theorem d_X_isNameByte_22 : decode c_X_isNameByte 22 = .ok (.iconst 0, 1) := by decide +kernel
theorem d_X_isNameByte_23 : decode c_X_isNameByte 23 = .ok (.ireturn, 1) := by decide +kernel
theorem d_X_small_0 : decode c_X_small 0 = .ok (.iload_n 0, 1) := by decide +kernel
theorem d_X_small_1 : decode c_X_small 1 = .ok (.bipush 65, 2) := by decide +kernel
theorem d_X_small_3 : decode c_X_small 3 = .ok (.if_icmp .lt 16, 3) := by decide +kernel
theorem d_X_small_6 : decode c_X_small 6 = .ok (.iload_n 0, 1) := by decide +kernel
theorem d_X_small_7 : decode c_X_small 7 = .ok (.bipush 90, 2) := by decide +kernel
theorem d_X_small_9 : decode c_X_small 9 = .ok (.if_icmp .gt 10, 3) := by decide +kernel
theorem d_X_small_12 : decode c_X_small 12 = .ok (.iload_n 0, 1) := by decide +kernel
theorem d_X_small_13 : decode c_X_small 13 = .ok (.bipush 32, 2) := by decide +kernel
theorem d_X_small_15 : decode c_X_small 15 = .ok (.iadd, 1) := by decide +kernel
theorem d_X_small_16 : decode c_X_small 16 = .ok (.goto 4, 3) := by decide +kernel
theorem d_X_small_19 : decode c_X_small 19 = .ok (.iload_n 0, 1) := by decide +kernel
theorem d_X_small_20 : decode c_X_small 20 = .ok (.ireturn, 1) := by decide +kernel
theorem d_X_isAtomByte_0 : decode c_X_isAtomByte 0 = .ok (.iload_n 0, 1) := by decide +kernel
theorem d_X_isAtomByte_1 : decode c_X_isAtomByte 1 = .ok (.bipush 33, 2) := by decide +kernel
theorem d_X_isAtomByte_3 : decode c_X_isAtomByte 3 = .ok (.if_icmp .lt 23, 3) := by decide +kernel
theorem d_X_isAtomByte_6 : decode c_X_isAtomByte 6 = .ok (.iload_n 0, 1) := by decide +kernel
theorem d_X_isAtomByte_7 : decode c_X_isAtomByte 7 = .ok (.bipush 126, 2) := by decide +kernel
theorem d_X_isAtomByte_9 : decode c_X_isAtomByte 9 = .ok (.if_icmp .gt 17, 3) := by decide +kernel
theorem d_X_isAtomByte_12 : decode c_X_isAtomByte 12 = .ok (.ldc 186, 2) := by decide +kernel
theorem d_X_isAtomByte_14 : decode c_X_isAtomByte 14 = .ok (.iload_n 0, 1) := by decide +kernel
theorem d_X_isAtomByte_15 : decode c_X_isAtomByte 15 = .ok (.i2c, 1) := by decide +kernel
theorem d_X_isAtomByte_16 : decode c_X_isAtomByte 16 = .ok (.invokevirtual 188, 3) := by decide +kernel
theorem d_X_isAtomByte_19 : decode c_X_isAtomByte 19 = .ok (.ifCond .ge 7, 3) := by decide +kernel
theorem d_X_isAtomByte_22 : decode c_X_isAtomByte 22 = .ok (.iconst 1, 1) := by decide +kernel
theorem d_X_isAtomByte_23 : decode c_X_isAtomByte 23 = .ok (.goto 4, 3) := by decide +kernel
theorem d_X_isAtomByte_26 : decode c_X_isAtomByte 26 = .ok (.iconst 0, 1) := by decide +kernel
theorem d_X_isAtomByte_27 : decode c_X_isAtomByte 27 = .ok (.ireturn, 1) := by decide +kernel
theorem d_X_base64Digit_0 : decode c_X_base64Digit 0 = .ok (.iload_n 0, 1) := by decide +kernel
theorem d_X_base64Digit_1 : decode c_X_base64Digit 1 = .ok (.ifCond .ge 7, 3) := by decide +kernel
theorem d_X_base64Digit_4 : decode c_X_base64Digit 4 = .ok (.iconst (-1), 1) := by decide +kernel
theorem d_X_base64Digit_5 : decode c_X_base64Digit 5 = .ok (.goto 10, 3) := by decide +kernel
theorem d_X_base64Digit_8 : decode c_X_base64Digit 8 = .ok (.ldc 196, 2) := by decide +kernel
theorem d_X_base64Digit_10 : decode c_X_base64Digit 10 = .ok (.iload_n 0, 1) := by decide +kernel
theorem d_X_base64Digit_11 : decode c_X_base64Digit 11 = .ok (.i2c, 1) := by decide +kernel
theorem d_X_base64Digit_12 : decode c_X_base64Digit 12 = .ok (.invokevirtual 188, 3) := by decide +kernel
theorem d_X_base64Digit_15 : decode c_X_base64Digit 15 = .ok (.ireturn, 1) := by decide +kernel
theorem d_X_hexDigit_0 : decode c_X_hexDigit 0 = .ok (.iload_n 0, 1) := by decide +kernel
theorem d_X_hexDigit_1 : decode c_X_hexDigit 1 = .ok (.bipush 48, 2) := by decide +kernel
theorem d_X_hexDigit_3 : decode c_X_hexDigit 3 = .ok (.if_icmp .lt 14, 3) := by decide +kernel
theorem d_X_hexDigit_6 : decode c_X_hexDigit 6 = .ok (.iload_n 0, 1) := by decide +kernel
theorem d_X_hexDigit_7 : decode c_X_hexDigit 7 = .ok (.bipush 57, 2) := by decide +kernel
theorem d_X_hexDigit_9 : decode c_X_hexDigit 9 = .ok (.if_icmp .gt 8, 3) := by decide +kernel
theorem d_X_hexDigit_12 : decode c_X_hexDigit 12 = .ok (.iload_n 0, 1) := by decide +kernel
theorem d_X_hexDigit_13 : decode c_X_hexDigit 13 = .ok (.bipush 48, 2) := by decide +kernel
theorem d_X_hexDigit_15 : decode c_X_hexDigit 15 = .ok (.isub, 1) := by decide +kernel
theorem d_X_hexDigit_16 : decode c_X_hexDigit 16 = .ok (.ireturn, 1) := by decide +kernel
theorem d_X_hexDigit_17 : decode c_X_hexDigit 17 = .ok (.iload_n 0, 1) := by decide +kernel
theorem d_X_hexDigit_18 : decode c_X_hexDigit 18 = .ok (.invokestatic 193, 3) := by decide +kernel
theorem d_X_hexDigit_21 : decode c_X_hexDigit 21 = .ok (.istore_n 1, 1) := by decide +kernel
theorem d_X_hexDigit_22 : decode c_X_hexDigit 22 = .ok (.iload_n 1, 1) := by decide +kernel
theorem d_X_hexDigit_23 : decode c_X_hexDigit 23 = .ok (.bipush 97, 2) := by decide +kernel
theorem d_X_hexDigit_25 : decode c_X_hexDigit 25 = .ok (.if_icmp .lt 19, 3) := by decide +kernel
theorem d_X_hexDigit_28 : decode c_X_hexDigit 28 = .ok (.iload_n 1, 1) := by decide +kernel
theorem d_X_hexDigit_29 : decode c_X_hexDigit 29 = .ok (.bipush 102, 2) := by decide +kernel
theorem d_X_hexDigit_31 : decode c_X_hexDigit 31 = .ok (.if_icmp .gt 13, 3) := by decide +kernel
theorem d_X_hexDigit_34 : decode c_X_hexDigit 34 = .ok (.iload_n 1, 1) := by decide +kernel
theorem d_X_hexDigit_35 : decode c_X_hexDigit 35 = .ok (.bipush 97, 2) := by decide +kernel
theorem d_X_hexDigit_37 : decode c_X_hexDigit 37 = .ok (.isub, 1) := by decide +kernel
theorem d_X_hexDigit_38 : decode c_X_hexDigit 38 = .ok (.bipush 10, 2) := by decide +kernel
theorem d_X_hexDigit_40 : decode c_X_hexDigit 40 = .ok (.iadd, 1) := by decide +kernel
theorem d_X_hexDigit_41 : decode c_X_hexDigit 41 = .ok (.goto 4, 3) := by decide +kernel
theorem d_X_hexDigit_44 : decode c_X_hexDigit 44 = .ok (.iconst (-1), 1) := by decide +kernel
theorem d_X_hexDigit_45 : decode c_X_hexDigit 45 = .ok (.ireturn, 1) := by decide +kernel
theorem d_X_entities_0 : decode c_X_entities 0 = .ok (.aload_n 0, 1) := by decide +kernel
theorem d_X_entities_1 : decode c_X_entities 1 = .ok (.getfield 24, 3) := by decide +kernel
theorem d_X_entities_4 : decode c_X_entities 4 = .ok (.getfield 55, 3) := by decide +kernel
theorem d_X_entities_7 : decode c_X_entities 7 = .ok (.ireturn, 1) := by decide +kernel
theorem d_X_written_0 : decode c_X_written 0 = .ok (.aload_n 0, 1) := by decide +kernel
theorem d_X_written_1 : decode c_X_written 1 = .ok (.getfield 18, 3) := by decide +kernel
theorem d_X_written_4 : decode c_X_written 4 = .ok (.iload_n 1, 1) := by decide +kernel
theorem d_X_written_5 : decode c_X_written 5 = .ok (.invokevirtual 146, 3) := by decide +kernel
theorem d_X_written_8 : decode c_X_written 8 = .ok (.ireturn, 1) := by decide +kernel
theorem d_X_again_0 : decode c_X_again 0 = .ok (.aload_n 0, 1) := by decide +kernel
theorem d_X_again_1 : decode c_X_again 1 = .ok (.getfield 14, 3) := by decide +kernel
theorem d_X_again_4 : decode c_X_again 4 = .ok (.invokevirtual 44, 3) := by decide +kernel
theorem d_X_again_7 : decode c_X_again 7 = .ok (.aload_n 0, 1) := by decide +kernel
theorem d_X_again_8 : decode c_X_again 8 = .ok (.getfield 14, 3) := by decide +kernel
theorem d_X_again_11 : decode c_X_again 11 = .ok (.aload_n 0, 1) := by decide +kernel
theorem d_X_again_12 : decode c_X_again 12 = .ok (.getfield 18, 3) := by decide +kernel
theorem d_X_again_15 : decode c_X_again 15 = .ok (.iconst 0, 1) := by decide +kernel
theorem d_X_again_16 : decode c_X_again 16 = .ok (.aload_n 0, 1) := by decide +kernel
theorem d_X_again_17 : decode c_X_again 17 = .ok (.getfield 18, 3) := by decide +kernel
theorem d_X_again_20 : decode c_X_again 20 = .ok (.getfield 37, 3) := by decide +kernel
theorem d_X_again_23 : decode c_X_again 23 = .ok (.sipush 320, 3) := by decide +kernel
theorem d_X_again_26 : decode c_X_again 26 = .ok (.invokestatic 175, 3) := by decide +kernel
theorem d_X_again_29 : decode c_X_again 29 = .ok (.invokevirtual 171, 3) := by decide +kernel
theorem d_X_again_32 : decode c_X_again 32 = .ok (.aload_n 0, 1) := by decide +kernel
theorem d_X_again_33 : decode c_X_again 33 = .ok (.getfield 14, 3) := by decide +kernel
theorem d_X_again_36 : decode c_X_again 36 = .ok (.getfield 37, 3) := by decide +kernel
theorem d_X_again_39 : decode c_X_again 39 = .ok (.ireturn, 1) := by decide +kernel
theorem d_X_look_0 : decode c_X_look 0 = .ok (.aload_n 0, 1) := by decide +kernel
theorem d_X_look_1 : decode c_X_look 1 = .ok (.getfield 24, 3) := by decide +kernel
theorem d_X_look_4 : decode c_X_look 4 = .ok (.iload_n 1, 1) := by decide +kernel
theorem d_X_look_5 : decode c_X_look 5 = .ok (.invokevirtual 58, 3) := by decide +kernel
theorem d_X_look_8 : decode c_X_look 8 = .ok (.astore_n 3, 1) := by decide +kernel
theorem d_X_look_9 : decode c_X_look 9 = .ok (.iload_n 2, 1) := by decide +kernel
theorem d_X_look_10 : decode c_X_look 10 = .ok (.tableswitch 104 0 9 #[54, 59, 64, 69, 74, 79, 84, 89, 94, 99], 54) := by decide +kernel
theorem d_X_look_64 : decode c_X_look 64 = .ok (.aload_n 3, 1) := by decide +kernel
theorem d_X_look_65 : decode c_X_look 65 = .ok (.getfield 62, 3) := by decide +kernel
theorem d_X_look_68 : decode c_X_look 68 = .ok (.ireturn, 1) := by decide +kernel
theorem d_X_look_69 : decode c_X_look 69 = .ok (.aload_n 3, 1) := by decide +kernel
theorem d_X_look_70 : decode c_X_look 70 = .ok (.getfield 67, 3) := by decide +kernel
theorem d_X_look_73 : decode c_X_look 73 = .ok (.ireturn, 1) := by decide +kernel
theorem d_X_look_74 : decode c_X_look 74 = .ok (.aload_n 3, 1) := by decide +kernel
theorem d_X_look_75 : decode c_X_look 75 = .ok (.getfield 70, 3) := by decide +kernel
theorem d_X_look_78 : decode c_X_look 78 = .ok (.ireturn, 1) := by decide +kernel
theorem d_X_look_79 : decode c_X_look 79 = .ok (.aload_n 3, 1) := by decide +kernel
theorem d_X_look_80 : decode c_X_look 80 = .ok (.getfield 73, 3) := by decide +kernel
theorem d_X_look_83 : decode c_X_look 83 = .ok (.ireturn, 1) := by decide +kernel
theorem d_X_look_84 : decode c_X_look 84 = .ok (.aload_n 3, 1) := by decide +kernel
theorem d_X_look_85 : decode c_X_look 85 = .ok (.getfield 76, 3) := by decide +kernel
theorem d_X_look_88 : decode c_X_look 88 = .ok (.ireturn, 1) := by decide +kernel
theorem d_X_look_89 : decode c_X_look 89 = .ok (.aload_n 3, 1) := by decide +kernel
theorem d_X_look_90 : decode c_X_look 90 = .ok (.getfield 79, 3) := by decide +kernel
theorem d_X_look_93 : decode c_X_look 93 = .ok (.ireturn, 1) := by decide +kernel
theorem d_X_look_94 : decode c_X_look 94 = .ok (.aload_n 3, 1) := by decide +kernel
theorem d_X_look_95 : decode c_X_look 95 = .ok (.getfield 82, 3) := by decide +kernel
theorem d_X_look_98 : decode c_X_look 98 = .ok (.ireturn, 1) := by decide +kernel
theorem d_X_look_99 : decode c_X_look 99 = .ok (.aload_n 3, 1) := by decide +kernel
theorem d_X_look_100 : decode c_X_look 100 = .ok (.getfield 85, 3) := by decide +kernel
theorem d_X_look_103 : decode c_X_look 103 = .ok (.ireturn, 1) := by decide +kernel
theorem d_X_look_104 : decode c_X_look 104 = .ok (.aload_n 3, 1) := by decide +kernel
theorem d_X_look_105 : decode c_X_look 105 = .ok (.getfield 88, 3) := by decide +kernel
theorem d_X_look_108 : decode c_X_look 108 = .ok (.ireturn, 1) := by decide +kernel
theorem d_X_look_109 : decode c_X_look 109 = .ok (.aload_n 3, 1) := by decide +kernel
theorem d_X_look_110 : decode c_X_look 110 = .ok (.getfield 91, 3) := by decide +kernel
theorem d_X_look_113 : decode c_X_look 113 = .ok (.ireturn, 1) := by decide +kernel
theorem d_X_look_114 : decode c_X_look 114 = .ok (.new 94, 3) := by decide +kernel
theorem d_X_look_117 : decode c_X_look 117 = .ok (.dup, 1) := by decide +kernel
theorem d_X_look_118 : decode c_X_look 118 = .ok (.ldc 96, 2) := by decide +kernel
theorem d_X_look_120 : decode c_X_look 120 = .ok (.invokespecial 98, 3) := by decide +kernel
theorem d_X_look_123 : decode c_X_look 123 = .ok (.athrow, 1) := by decide +kernel
theorem d_X_length_0 : decode c_X_length 0 = .ok (.aload_n 0, 1) := by decide +kernel
theorem d_X_length_1 : decode c_X_length 1 = .ok (.getfield 24, 3) := by decide +kernel
theorem d_X_length_4 : decode c_X_length 4 = .ok (.iload_n 1, 1) := by decide +kernel
theorem d_X_length_5 : decode c_X_length 5 = .ok (.invokevirtual 58, 3) := by decide +kernel
theorem d_X_length_8 : decode c_X_length 8 = .ok (.iload_n 2, 1) := by decide +kernel
theorem d_X_length_9 : decode c_X_length 9 = .ok (.invokevirtual 101, 3) := by decide +kernel
theorem d_X_length_12 : decode c_X_length 12 = .ok (.astore 4, 2) := by decide +kernel
theorem d_X_length_14 : decode c_X_length 14 = .ok (.iload_n 3, 1) := by decide +kernel
theorem d_X_length_15 : decode c_X_length 15 = .ok (.lookupswitch 37 #[(0, 25), (1, 31)], 25) := by decide +kernel
theorem d_X_length_40 : decode c_X_length 40 = .ok (.aload 4, 2) := by decide +kernel
theorem d_X_length_42 : decode c_X_length 42 = .ok (.getfield 105, 3) := by decide +kernel
theorem d_X_length_45 : decode c_X_length 45 = .ok (.ireturn, 1) := by decide +kernel
theorem d_X_length_46 : decode c_X_length 46 = .ok (.aload 4, 2) := by decide +kernel
theorem d_X_length_48 : decode c_X_length 48 = .ok (.getfield 110, 3) := by decide +kernel
theorem d_X_length_51 : decode c_X_length 51 = .ok (.ireturn, 1) := by decide +kernel
theorem d_X_length_52 : decode c_X_length 52 = .ok (.new 94, 3) := by decide +kernel
theorem d_X_length_55 : decode c_X_length 55 = .ok (.dup, 1) := by decide +kernel
theorem d_X_length_56 : decode c_X_length 56 = .ok (.ldc 113, 2) := by decide +kernel
theorem d_X_length_58 : decode c_X_length 58 = .ok (.invokespecial 98, 3) := by decide +kernel
theorem d_X_length_61 : decode c_X_length 61 = .ok (.athrow, 1) := by decide +kernel
theorem d_X_letter_0 : decode c_X_letter 0 = .ok (.aload_n 0, 1) := by decide +kernel
theorem d_X_letter_1 : decode c_X_letter 1 = .ok (.getfield 24, 3) := by decide +kernel
theorem d_X_letter_4 : decode c_X_letter 4 = .ok (.iload_n 1, 1) := by decide +kernel
theorem d_X_letter_5 : decode c_X_letter 5 = .ok (.invokevirtual 58, 3) := by decide +kernel
theorem d_X_letter_8 : decode c_X_letter 8 = .ok (.iload_n 2, 1) := by decide +kernel
theorem d_X_letter_9 : decode c_X_letter 9 = .ok (.invokevirtual 101, 3) := by decide +kernel
theorem d_X_letter_12 : decode c_X_letter 12 = .ok (.astore 5, 2) := by decide +kernel
theorem d_X_letter_14 : decode c_X_letter 14 = .ok (.iload_n 3, 1) := by decide +kernel
theorem d_X_letter_15 : decode c_X_letter 15 = .ok (.lookupswitch 71 #[(0, 25), (1, 48)], 25) := by decide +kernel
theorem d_X_letter_40 : decode c_X_letter 40 = .ok (.aload_n 0, 1) := by decide +kernel
theorem d_X_letter_41 : decode c_X_letter 41 = .ok (.getfield 24, 3) := by decide +kernel
theorem d_X_letter_44 : decode c_X_letter 44 = .ok (.getfield 115, 3) := by decide +kernel
theorem d_X_letter_47 : decode c_X_letter 47 = .ok (.aload 5, 2) := by decide +kernel
theorem d_X_letter_49 : decode c_X_letter 49 = .ok (.getfield 118, 3) := by decide +kernel
theorem d_X_letter_52 : decode c_X_letter 52 = .ok (.aload 5, 2) := by decide +kernel
theorem d_X_letter_54 : decode c_X_letter 54 = .ok (.getfield 105, 3) := by decide +kernel
theorem d_X_letter_57 : decode c_X_letter 57 = .ok (.iload 4, 2) := by decide +kernel
theorem d_X_letter_59 : decode c_X_letter 59 = .ok (.invokestatic 121, 3) := by decide +kernel
theorem d_X_letter_62 : decode c_X_letter 62 = .ok (.ireturn, 1) := by decide +kernel
theorem d_X_letter_63 : decode c_X_letter 63 = .ok (.aload_n 0, 1) := by decide +kernel
theorem d_X_letter_64 : decode c_X_letter 64 = .ok (.getfield 24, 3) := by decide +kernel
theorem d_X_letter_67 : decode c_X_letter 67 = .ok (.getfield 125, 3) := by decide +kernel
theorem d_X_letter_70 : decode c_X_letter 70 = .ok (.aload 5, 2) := by decide +kernel
theorem d_X_letter_72 : decode c_X_letter 72 = .ok (.getfield 128, 3) := by decide +kernel
theorem d_X_letter_75 : decode c_X_letter 75 = .ok (.aload 5, 2) := by decide +kernel
theorem d_X_letter_77 : decode c_X_letter 77 = .ok (.getfield 110, 3) := by decide +kernel
theorem d_X_letter_80 : decode c_X_letter 80 = .ok (.iload 4, 2) := by decide +kernel
theorem d_X_letter_82 : decode c_X_letter 82 = .ok (.invokestatic 121, 3) := by decide +kernel
theorem d_X_letter_85 : decode c_X_letter 85 = .ok (.ireturn, 1) := by decide +kernel
theorem d_X_letter_86 : decode c_X_letter 86 = .ok (.new 94, 3) := by decide +kernel
theorem d_X_letter_89 : decode c_X_letter 89 = .ok (.dup, 1) := by decide +kernel
theorem d_X_letter_90 : decode c_X_letter 90 = .ok (.ldc 113, 2) := by decide +kernel
theorem d_X_letter_92 : decode c_X_letter 92 = .ok (.invokespecial 98, 3) := by decide +kernel
theorem d_X_letter_95 : decode c_X_letter 95 = .ok (.athrow, 1) := by decide +kernel
theorem d_X_byteOf_0 : decode c_X_byteOf 0 = .ok (.iload_n 3, 1) := by decide +kernel
theorem d_X_byteOf_1 : decode c_X_byteOf 1 = .ok (.ifCond .lt 8, 3) := by decide +kernel
theorem d_X_byteOf_4 : decode c_X_byteOf 4 = .ok (.iload_n 3, 1) := by decide +kernel
theorem d_X_byteOf_5 : decode c_X_byteOf 5 = .ok (.iload_n 2, 1) := by decide +kernel
theorem d_X_byteOf_6 : decode c_X_byteOf 6 = .ok (.if_icmp .lt 13, 3) := by decide +kernel
theorem d_X_byteOf_9 : decode c_X_byteOf 9 = .ok (.new 181, 3) := by decide +kernel
theorem d_X_byteOf_12 : decode c_X_byteOf 12 = .ok (.dup, 1) := by decide +kernel
theorem d_X_byteOf_13 : decode c_X_byteOf 13 = .ok (.ldc 183, 2) := by decide +kernel
theorem d_X_byteOf_15 : decode c_X_byteOf 15 = .ok (.invokespecial 185, 3) := by decide +kernel
theorem d_X_byteOf_18 : decode c_X_byteOf 18 = .ok (.athrow, 1) := by decide +kernel
theorem d_X_byteOf_19 : decode c_X_byteOf 19 = .ok (.aload_n 0, 1) := by decide +kernel
theorem d_X_byteOf_20 : decode c_X_byteOf 20 = .ok (.iload_n 1, 1) := by decide +kernel
theorem d_X_byteOf_21 : decode c_X_byteOf 21 = .ok (.iload_n 3, 1) := by decide +kernel
theorem d_X_byteOf_22 : decode c_X_byteOf 22 = .ok (.iadd, 1) := by decide +kernel
theorem d_X_byteOf_23 : decode c_X_byteOf 23 = .ok (.invokevirtual 146, 3) := by decide +kernel
theorem d_X_byteOf_26 : decode c_X_byteOf 26 = .ok (.ireturn, 1) := by decide +kernel
theorem d_X_content_0 : decode c_X_content 0 = .ok (.aload_n 0, 1) := by decide +kernel
theorem d_X_content_1 : decode c_X_content 1 = .ok (.getfield 24, 3) := by decide +kernel
theorem d_X_content_4 : decode c_X_content 4 = .ok (.iload_n 1, 1) := by decide +kernel
theorem d_X_content_5 : decode c_X_content 5 = .ok (.invokevirtual 58, 3) := by decide +kernel
theorem d_X_content_8 : decode c_X_content 8 = .ok (.astore_n 3, 1) := by decide +kernel
theorem d_X_content_9 : decode c_X_content 9 = .ok (.aload_n 0, 1) := by decide +kernel
theorem d_X_content_10 : decode c_X_content 10 = .ok (.getfield 24, 3) := by decide +kernel
theorem d_X_content_13 : decode c_X_content 13 = .ok (.getfield 131, 3) := by decide +kernel
theorem d_X_content_16 : decode c_X_content 16 = .ok (.aload_n 3, 1) := by decide +kernel
theorem d_X_content_17 : decode c_X_content 17 = .ok (.getfield 134, 3) := by decide +kernel
theorem d_X_content_20 : decode c_X_content 20 = .ok (.aload_n 3, 1) := by decide +kernel
theorem d_X_content_21 : decode c_X_content 21 = .ok (.getfield 79, 3) := by decide +kernel
theorem d_X_content_24 : decode c_X_content 24 = .ok (.iload_n 2, 1) := by decide +kernel
theorem d_X_content_25 : decode c_X_content 25 = .ok (.invokestatic 121, 3) := by decide +kernel
theorem d_X_content_28 : decode c_X_content 28 = .ok (.ireturn, 1) := by decide +kernel
theorem d_X_boundary_0 : decode c_X_boundary 0 = .ok (.aload_n 0, 1) := by decide +kernel
theorem d_X_boundary_1 : decode c_X_boundary 1 = .ok (.getfield 24, 3) := by decide +kernel
theorem d_X_boundary_4 : decode c_X_boundary 4 = .ok (.iload_n 1, 1) := by decide +kernel
theorem d_X_boundary_5 : decode c_X_boundary 5 = .ok (.invokevirtual 58, 3) := by decide +kernel
theorem d_X_boundary_8 : decode c_X_boundary 8 = .ok (.astore_n 3, 1) := by decide +kernel
theorem d_X_boundary_9 : decode c_X_boundary 9 = .ok (.iload_n 2, 1) := by decide +kernel
theorem d_X_boundary_10 : decode c_X_boundary 10 = .ok (.ifCond .lt 11, 3) := by decide +kernel
theorem d_X_boundary_13 : decode c_X_boundary 13 = .ok (.iload_n 2, 1) := by decide +kernel
theorem d_X_boundary_14 : decode c_X_boundary 14 = .ok (.aload_n 3, 1) := by decide +kernel
theorem d_X_boundary_15 : decode c_X_boundary 15 = .ok (.getfield 137, 3) := by decide +kernel
theorem d_X_boundary_18 : decode c_X_boundary 18 = .ok (.if_icmp .lt 5, 3) := by decide +kernel
theorem d_X_boundary_21 : decode c_X_boundary 21 = .ok (.iconst (-1), 1) := by decide +kernel
theorem d_X_boundary_22 : decode c_X_boundary 22 = .ok (.ireturn, 1) := by decide +kernel
theorem d_X_boundary_23 : decode c_X_boundary 23 = .ok (.aload_n 0, 1) := by decide +kernel
theorem d_X_boundary_24 : decode c_X_boundary 24 = .ok (.getfield 24, 3) := by decide +kernel
theorem d_X_boundary_27 : decode c_X_boundary 27 = .ok (.getfield 140, 3) := by decide +kernel
theorem d_X_boundary_30 : decode c_X_boundary 30 = .ok (.aload_n 3, 1) := by decide +kernel
theorem d_X_boundary_31 : decode c_X_boundary 31 = .ok (.getfield 143, 3) := by decide +kernel
theorem d_X_boundary_34 : decode c_X_boundary 34 = .ok (.iload_n 2, 1) := by decide +kernel
theorem d_X_boundary_35 : decode c_X_boundary 35 = .ok (.iadd, 1) := by decide +kernel
theorem d_X_boundary_36 : decode c_X_boundary 36 = .ok (.invokevirtual 146, 3) := by decide +kernel
theorem d_X_boundary_39 : decode c_X_boundary 39 = .ok (.ireturn, 1) := by decide +kernel
theorem d_X_write_0 : decode c_X_write 0 = .ok (.aload_n 0, 1) := by decide +kernel
theorem d_X_write_1 : decode c_X_write 1 = .ok (.getfield 24, 3) := by decide +kernel
theorem d_X_write_4 : decode c_X_write 4 = .ok (.getfield 55, 3) := by decide +kernel
theorem d_X_write_7 : decode c_X_write 7 = .ok (.ifCond .ne 13, 3) := by decide +kernel
theorem d_X_write_10 : decode c_X_write 10 = .ok (.new 150, 3) := by decide +kernel
theorem d_X_write_13 : decode c_X_write 13 = .ok (.dup, 1) := by decide +kernel
theorem d_X_write_14 : decode c_X_write 14 = .ok (.ldc 152, 2) := by decide +kernel
theorem d_X_write_16 : decode c_X_write 16 = .ok (.invokespecial 154, 3) := by decide +kernel
theorem d_X_write_19 : decode c_X_write 19 = .ok (.athrow, 1) := by decide +kernel
theorem d_X_write_20 : decode c_X_write 20 = .ok (.aload_n 0, 1) := by decide +kernel
theorem d_X_write_21 : decode c_X_write 21 = .ok (.getfield 33, 3) := by decide +kernel
theorem d_X_write_24 : decode c_X_write 24 = .ok (.getfield 155, 3) := by decide +kernel
theorem d_X_write_27 : decode c_X_write 27 = .ok (.astore_n 1, 1) := by decide +kernel
theorem d_X_write_28 : decode c_X_write 28 = .ok (.aload_n 1, 1) := by decide +kernel
theorem d_X_write_29 : decode c_X_write 29 = .ok (.invokevirtual 44, 3) := by decide +kernel
theorem d_X_write_32 : decode c_X_write 32 = .ok (.aload_n 0, 1) := by decide +kernel
theorem d_X_write_33 : decode c_X_write 33 = .ok (.getfield 33, 3) := by decide +kernel
theorem d_X_write_36 : decode c_X_write 36 = .ok (.iconst 0, 1) := by decide +kernel
theorem d_X_write_37 : decode c_X_write 37 = .ok (.iconst 1, 1) := by decide +kernel
theorem d_X_write_38 : decode c_X_write 38 = .ok (.invokevirtual 158, 3) := by decide +kernel
theorem d_X_write_41 : decode c_X_write 41 = .ok (.aload_n 1, 1) := by decide +kernel
theorem d_X_write_42 : decode c_X_write 42 = .ok (.getfield 162, 3) := by decide +kernel
theorem d_X_write_45 : decode c_X_write 45 = .ok (.ifCond .eq 13, 3) := by decide +kernel
theorem d_X_write_48 : decode c_X_write 48 = .ok (.new 166, 3) := by decide +kernel
theorem d_X_write_51 : decode c_X_write 51 = .ok (.dup, 1) := by decide +kernel
theorem d_X_write_52 : decode c_X_write 52 = .ok (.ldc 168, 2) := by decide +kernel
theorem d_X_write_54 : decode c_X_write 54 = .ok (.invokespecial 170, 3) := by decide +kernel
theorem d_X_write_57 : decode c_X_write 57 = .ok (.athrow, 1) := by decide +kernel
theorem d_X_write_58 : decode c_X_write 58 = .ok (.aload_n 0, 1) := by decide +kernel
theorem d_X_write_59 : decode c_X_write 59 = .ok (.getfield 18, 3) := by decide +kernel
theorem d_X_write_62 : decode c_X_write 62 = .ok (.invokevirtual 44, 3) := by decide +kernel
theorem d_X_write_65 : decode c_X_write 65 = .ok (.aload_n 0, 1) := by decide +kernel
theorem d_X_write_66 : decode c_X_write 66 = .ok (.getfield 18, 3) := by decide +kernel
theorem d_X_write_69 : decode c_X_write 69 = .ok (.aload_n 1, 1) := by decide +kernel
theorem d_X_write_70 : decode c_X_write 70 = .ok (.iconst 0, 1) := by decide +kernel
theorem d_X_write_71 : decode c_X_write 71 = .ok (.aload_n 1, 1) := by decide +kernel
theorem d_X_write_72 : decode c_X_write 72 = .ok (.getfield 37, 3) := by decide +kernel
theorem d_X_write_75 : decode c_X_write 75 = .ok (.invokevirtual 171, 3) := by decide +kernel
theorem d_X_write_78 : decode c_X_write 78 = .ok (.aload_n 0, 1) := by decide +kernel
theorem d_X_write_79 : decode c_X_write 79 = .ok (.getfield 18, 3) := by decide +kernel
theorem d_X_write_82 : decode c_X_write 82 = .ok (.getfield 37, 3) := by decide +kernel
theorem d_X_write_85 : decode c_X_write 85 = .ok (.ireturn, 1) := by decide +kernel
end
section
theorem d_M_init_0 : decode c_M_init 0 = .ok (.aload_n 0, 1) := by decide +kernel
theorem d_M_init_1 : decode c_M_init 1 = .ok (.invokespecial 1, 3) := by decide +kernel
theorem d_M_init_4 : decode c_M_init 4 = .ok (.aload_n 0, 1) := by decide +kernel
theorem d_M_init_5 : decode c_M_init 5 = .ok (.sipush 320, 3) := by decide +kernel
theorem d_M_init_8 : decode c_M_init 8 = .ok (.newarray .int, 2) := by decide +kernel
theorem d_M_init_10 : decode c_M_init 10 = .ok (.putfield 7, 3) := by decide +kernel
theorem d_M_init_13 : decode c_M_init 13 = .ok (.aload_n 0, 1) := by decide +kernel
theorem d_M_init_14 : decode c_M_init 14 = .ok (.sipush 320, 3) := by decide +kernel
theorem d_M_init_17 : decode c_M_init 17 = .ok (.newarray .int, 2) := by decide +kernel
theorem d_M_init_19 : decode c_M_init 19 = .ok (.putfield 13, 3) := by decide +kernel
theorem d_M_init_22 : decode c_M_init 22 = .ok (.aload_n 0, 1) := by decide +kernel
theorem d_M_init_23 : decode c_M_init 23 = .ok (.sipush 256, 3) := by decide +kernel
theorem d_M_init_26 : decode c_M_init 26 = .ok (.newarray .int, 2) := by decide +kernel
theorem d_M_init_28 : decode c_M_init 28 = .ok (.putfield 16, 3) := by decide +kernel
theorem d_M_init_31 : decode c_M_init 31 = .ok (.aload_n 0, 1) := by decide +kernel
theorem d_M_init_32 : decode c_M_init 32 = .ok (.sipush 512, 3) := by decide +kernel
theorem d_M_init_35 : decode c_M_init 35 = .ok (.newarray .int, 2) := by decide +kernel
theorem d_M_init_37 : decode c_M_init 37 = .ok (.putfield 19, 3) := by decide +kernel
theorem d_M_init_40 : decode c_M_init 40 = .ok (.aload_n 0, 1) := by decide +kernel
theorem d_M_init_41 : decode c_M_init 41 = .ok (.sipush 1400, 3) := by decide +kernel
theorem d_M_init_44 : decode c_M_init 44 = .ok (.newarray .int, 2) := by decide +kernel
theorem d_M_init_46 : decode c_M_init 46 = .ok (.putfield 22, 3) := by decide +kernel
theorem d_M_init_49 : decode c_M_init 49 = .ok (.aload_n 0, 1) := by decide +kernel
theorem d_M_init_50 : decode c_M_init 50 = .ok (.sipush 1400, 3) := by decide +kernel
theorem d_M_init_53 : decode c_M_init 53 = .ok (.newarray .int, 2) := by decide +kernel
theorem d_M_init_55 : decode c_M_init 55 = .ok (.putfield 25, 3) := by decide +kernel
theorem d_M_init_58 : decode c_M_init 58 = .ok (.aload_n 0, 1) := by decide +kernel
theorem d_M_init_59 : decode c_M_init 59 = .ok (.sipush 400, 3) := by decide +kernel
theorem d_M_init_62 : decode c_M_init 62 = .ok (.newarray .int, 2) := by decide +kernel
theorem d_M_init_64 : decode c_M_init 64 = .ok (.putfield 28, 3) := by decide +kernel
theorem d_M_init_67 : decode c_M_init 67 = .ok (.aload_n 0, 1) := by decide +kernel
theorem d_M_init_68 : decode c_M_init 68 = .ok (.sipush 1800, 3) := by decide +kernel
theorem d_M_init_71 : decode c_M_init 71 = .ok (.newarray .int, 2) := by decide +kernel
theorem d_M_init_73 : decode c_M_init 73 = .ok (.putfield 31, 3) := by decide +kernel
theorem d_M_init_76 : decode c_M_init 76 = .ok (.aload_n 0, 1) := by decide +kernel
theorem d_M_init_77 : decode c_M_init 77 = .ok (.sipush 700, 3) := by decide +kernel
theorem d_M_init_80 : decode c_M_init 80 = .ok (.newarray .int, 2) := by decide +kernel
theorem d_M_init_82 : decode c_M_init 82 = .ok (.putfield 34, 3) := by decide +kernel
theorem d_M_init_85 : decode c_M_init 85 = .ok (.aload_n 0, 1) := by decide +kernel
theorem d_M_init_86 : decode c_M_init 86 = .ok (.bipush 6, 2) := by decide +kernel
theorem d_M_init_88 : decode c_M_init 88 = .ok (.newarray .int, 2) := by decide +kernel
theorem d_M_init_90 : decode c_M_init 90 = .ok (.putfield 37, 3) := by decide +kernel
theorem d_M_init_93 : decode c_M_init 93 = .ok (.aload_n 0, 1) := by decide +kernel
theorem d_M_init_94 : decode c_M_init 94 = .ok (.bipush 6, 2) := by decide +kernel
theorem d_M_init_96 : decode c_M_init 96 = .ok (.newarray .int, 2) := by decide +kernel
theorem d_M_init_98 : decode c_M_init 98 = .ok (.putfield 40, 3) := by decide +kernel
theorem d_M_init_101 : decode c_M_init 101 = .ok (.return_, 1) := by decide +kernel
theorem d_M_thrown_0 : decode c_M_thrown 0 = .ok (.aload_n 0, 1) := by decide +kernel
theorem d_M_thrown_1 : decode c_M_thrown 1 = .ok (.getfield 43, 3) := by decide +kernel
theorem d_M_thrown_4 : decode c_M_thrown 4 = .ok (.ireturn, 1) := by decide +kernel
theorem d_M_feed_0 : decode c_M_feed 0 = .ok (.aload_n 0, 1) := by decide +kernel
theorem d_M_feed_1 : decode c_M_feed 1 = .ok (.iconst 0, 1) := by decide +kernel
theorem d_M_feed_2 : decode c_M_feed 2 = .ok (.putfield 43, 3) := by decide +kernel
theorem d_M_feed_5 : decode c_M_feed 5 = .ok (.iload_n 3, 1) := by decide +kernel
theorem d_M_feed_6 : decode c_M_feed 6 = .ok (.iconst 1, 1) := by decide +kernel
theorem d_M_feed_7 : decode c_M_feed 7 = .ok (.if_icmp .lt 21, 3) := by decide +kernel
theorem d_M_feed_10 : decode c_M_feed 10 = .ok (.iload_n 3, 1) := by decide +kernel
theorem d_M_feed_11 : decode c_M_feed 11 = .ok (.bipush 8, 2) := by decide +kernel
theorem d_M_feed_13 : decode c_M_feed 13 = .ok (.if_icmp .gt 15, 3) := by decide +kernel
theorem d_M_feed_16 : decode c_M_feed 16 = .ok (.aload_n 0, 1) := by decide +kernel
theorem d_M_feed_17 : decode c_M_feed 17 = .ok (.getfield 47, 3) := by decide +kernel
theorem d_M_feed_20 : decode c_M_feed 20 = .ok (.iload_n 3, 1) := by decide +kernel
theorem d_M_feed_21 : decode c_M_feed 21 = .ok (.iadd, 1) := by decide +kernel
theorem d_M_feed_22 : decode c_M_feed 22 = .ok (.sipush 320, 3) := by decide +kernel
theorem d_M_feed_25 : decode c_M_feed 25 = .ok (.if_icmp .le 5, 3) := by decide +kernel
theorem d_M_feed_28 : decode c_M_feed 28 = .ok (.iconst 0, 1) := by decide +kernel
theorem d_M_feed_29 : decode c_M_feed 29 = .ok (.ireturn, 1) := by decide +kernel
theorem d_M_feed_30 : decode c_M_feed 30 = .ok (.iconst 0, 1) := by decide +kernel
theorem d_M_feed_31 : decode c_M_feed 31 = .ok (.istore 4, 2) := by decide +kernel
theorem d_M_feed_33 : decode c_M_feed 33 = .ok (.iload 4, 2) := by decide +kernel
theorem d_M_feed_35 : decode c_M_feed 35 = .ok (.iload_n 3, 1) := by decide +kernel
theorem d_M_feed_36 : decode c_M_feed 36 = .ok (.if_icmp .ge 33, 3) := by decide +kernel
theorem d_M_feed_39 : decode c_M_feed 39 = .ok (.aload_n 0, 1) := by decide +kernel
theorem d_M_feed_40 : decode c_M_feed 40 = .ok (.getfield 7, 3) := by decide +kernel
theorem d_M_feed_43 : decode c_M_feed 43 = .ok (.aload_n 0, 1) := by decide +kernel
theorem d_M_feed_44 : decode c_M_feed 44 = .ok (.getfield 47, 3) := by decide +kernel
theorem d_M_feed_47 : decode c_M_feed 47 = .ok (.iload 4, 2) := by decide +kernel
theorem d_M_feed_49 : decode c_M_feed 49 = .ok (.iadd, 1) := by decide +kernel
theorem d_M_feed_50 : decode c_M_feed 50 = .ok (.lload_n 1, 1) := by decide +kernel
theorem d_M_feed_51 : decode c_M_feed 51 = .ok (.bipush 8, 2) := by decide +kernel
theorem d_M_feed_53 : decode c_M_feed 53 = .ok (.iload 4, 2) := by decide +kernel
theorem d_M_feed_55 : decode c_M_feed 55 = .ok (.imul, 1) := by decide +kernel
theorem d_M_feed_56 : decode c_M_feed 56 = .ok (.lshr, 1) := by decide +kernel
theorem d_M_feed_57 : decode c_M_feed 57 = .ok (.ldc2_w 50, 3) := by decide +kernel
theorem d_M_feed_60 : decode c_M_feed 60 = .ok (.land, 1) := by decide +kernel
theorem d_M_feed_61 : decode c_M_feed 61 = .ok (.l2i, 1) := by decide +kernel
theorem d_M_feed_62 : decode c_M_feed 62 = .ok (.iastore, 1) := by decide +kernel
theorem d_M_feed_63 : decode c_M_feed 63 = .ok (.iinc 4 1, 3) := by decide +kernel
theorem d_M_feed_66 : decode c_M_feed 66 = .ok (.goto (-33), 3) := by decide +kernel
theorem d_M_feed_69 : decode c_M_feed 69 = .ok (.aload_n 0, 1) := by decide +kernel
theorem d_M_feed_70 : decode c_M_feed 70 = .ok (.dup, 1) := by decide +kernel
theorem d_M_feed_71 : decode c_M_feed 71 = .ok (.getfield 47, 3) := by decide +kernel
theorem d_M_feed_74 : decode c_M_feed 74 = .ok (.iload_n 3, 1) := by decide +kernel
theorem d_M_feed_75 : decode c_M_feed 75 = .ok (.iadd, 1) := by decide +kernel
theorem d_M_feed_76 : decode c_M_feed 76 = .ok (.putfield 47, 3) := by decide +kernel
theorem d_M_feed_79 : decode c_M_feed 79 = .ok (.iconst 1, 1) := by decide +kernel
theorem d_M_feed_80 : decode c_M_feed 80 = .ok (.ireturn, 1) := by decide +kernel
theorem d_M_clear_0 : decode c_M_clear 0 = .ok (.aload_n 0, 1) := by decide +kernel
theorem d_M_clear_1 : decode c_M_clear 1 = .ok (.iconst 0, 1) := by decide +kernel
theorem d_M_clear_2 : decode c_M_clear 2 = .ok (.putfield 43, 3) := by decide +kernel
theorem d_M_clear_5 : decode c_M_clear 5 = .ok (.aload_n 0, 1) := by decide +kernel
theorem d_M_clear_6 : decode c_M_clear 6 = .ok (.getfield 47, 3) := by decide +kernel
theorem d_M_clear_9 : decode c_M_clear 9 = .ok (.istore_n 1, 1) := by decide +kernel
theorem d_M_clear_10 : decode c_M_clear 10 = .ok (.aload_n 0, 1) := by decide +kernel
theorem d_M_clear_11 : decode c_M_clear 11 = .ok (.iconst 0, 1) := by decide +kernel
theorem d_M_clear_12 : decode c_M_clear 12 = .ok (.putfield 47, 3) := by decide +kernel
theorem d_M_clear_15 : decode c_M_clear 15 = .ok (.iload_n 1, 1) := by decide +kernel
theorem d_M_clear_16 : decode c_M_clear 16 = .ok (.ireturn, 1) := by decide +kernel
theorem d_M_read_0 : decode c_M_read 0 = .ok (.aload_n 0, 1) := by decide +kernel
theorem d_M_read_1 : decode c_M_read 1 = .ok (.iconst 0, 1) := by decide +kernel
theorem d_M_read_2 : decode c_M_read 2 = .ok (.putfield 43, 3) := by decide +kernel
theorem d_M_read_5 : decode c_M_read 5 = .ok (.iconst 0, 1) := by decide +kernel
theorem d_M_read_6 : decode c_M_read 6 = .ok (.istore_n 1, 1) := by decide +kernel
theorem d_M_read_7 : decode c_M_read 7 = .ok (.iload_n 1, 1) := by decide +kernel
theorem d_M_read_8 : decode c_M_read 8 = .ok (.aload_n 0, 1) := by decide +kernel
theorem d_M_read_9 : decode c_M_read 9 = .ok (.getfield 47, 3) := by decide +kernel
theorem d_M_read_12 : decode c_M_read 12 = .ok (.if_icmp .ge 21, 3) := by decide +kernel
theorem d_M_read_15 : decode c_M_read 15 = .ok (.aload_n 0, 1) := by decide +kernel
theorem d_M_read_16 : decode c_M_read 16 = .ok (.getfield 13, 3) := by decide +kernel
theorem d_M_read_19 : decode c_M_read 19 = .ok (.iload_n 1, 1) := by decide +kernel
theorem d_M_read_20 : decode c_M_read 20 = .ok (.aload_n 0, 1) := by decide +kernel
theorem d_M_read_21 : decode c_M_read 21 = .ok (.getfield 7, 3) := by decide +kernel
theorem d_M_read_24 : decode c_M_read 24 = .ok (.iload_n 1, 1) := by decide +kernel
theorem d_M_read_25 : decode c_M_read 25 = .ok (.iaload, 1) := by decide +kernel
theorem d_M_read_26 : decode c_M_read 26 = .ok (.iastore, 1) := by decide +kernel
theorem d_M_read_27 : decode c_M_read 27 = .ok (.iinc 1 1, 3) := by decide +kernel
theorem d_M_read_30 : decode c_M_read 30 = .ok (.goto (-23), 3) := by decide +kernel
theorem d_M_read_33 : decode c_M_read 33 = .ok (.aload_n 0, 1) := by decide +kernel
theorem d_M_read_34 : decode c_M_read 34 = .ok (.iconst 1, 1) := by decide +kernel
theorem d_M_read_35 : decode c_M_read 35 = .ok (.putfield 217, 3) := by decide +kernel
theorem d_M_read_38 : decode c_M_read 38 = .ok (.aload_n 0, 1) := by decide +kernel
theorem d_M_read_39 : decode c_M_read 39 = .ok (.iconst 0, 1) := by decide +kernel
theorem d_M_read_40 : decode c_M_read 40 = .ok (.putfield 196, 3) := by decide +kernel
theorem d_M_read_43 : decode c_M_read 43 = .ok (.aload_n 0, 1) := by decide +kernel
theorem d_M_read_44 : decode c_M_read 44 = .ok (.iconst 0, 1) := by decide +kernel
theorem d_M_read_45 : decode c_M_read 45 = .ok (.putfield 56, 3) := by decide +kernel
theorem d_M_read_48 : decode c_M_read 48 = .ok (.aload_n 0, 1) := by decide +kernel
theorem d_M_read_49 : decode c_M_read 49 = .ok (.iconst 0, 1) := by decide +kernel
theorem d_M_read_50 : decode c_M_read 50 = .ok (.putfield 175, 3) := by decide +kernel
theorem d_M_read_53 : decode c_M_read 53 = .ok (.aload_n 0, 1) := by decide +kernel
theorem d_M_read_54 : decode c_M_read 54 = .ok (.iconst 0, 1) := by decide +kernel
theorem d_M_read_55 : decode c_M_read 55 = .ok (.aload_n 0, 1) := by decide +kernel
theorem d_M_read_56 : decode c_M_read 56 = .ok (.getfield 47, 3) := by decide +kernel
theorem d_M_read_59 : decode c_M_read 59 = .ok (.iconst 1, 1) := by decide +kernel
theorem d_M_read_60 : decode c_M_read 60 = .ok (.iconst (-1), 1) := by decide +kernel
theorem d_M_read_61 : decode c_M_read 61 = .ok (.invokevirtual 211, 3) := by decide +kernel
theorem d_M_read_64 : decode c_M_read 64 = .ok (.aload_n 0, 1) := by decide +kernel
theorem d_M_read_65 : decode c_M_read 65 = .ok (.getfield 175, 3) := by decide +kernel
theorem d_M_read_68 : decode c_M_read 68 = .ok (.ifCond .le 10, 3) := by decide +kernel
theorem d_M_read_71 : decode c_M_read 71 = .ok (.aload_n 0, 1) := by decide +kernel
theorem d_M_read_72 : decode c_M_read 72 = .ok (.invokevirtual 221, 3) := by decide +kernel
theorem d_M_read_75 : decode c_M_read 75 = .ok (.goto (-11), 3) := by decide +kernel
theorem d_M_read_78 : decode c_M_read 78 = .ok (.aload_n 0, 1) := by decide +kernel
theorem d_M_read_79 : decode c_M_read 79 = .ok (.getfield 196, 3) := by decide +kernel
theorem d_M_read_82 : decode c_M_read 82 = .ok (.ireturn, 1) := by decide +kernel
theorem d_M_lay_0 : decode c_M_lay 0 = .ok (.aload_n 0, 1) := by decide +kernel
theorem d_M_lay_1 : decode c_M_lay 1 = .ok (.getfield 25, 3) := by decide +kernel
theorem d_M_lay_4 : decode c_M_lay 4 = .ok (.iconst 4, 1) := by decide +kernel
theorem d_M_lay_5 : decode c_M_lay 5 = .ok (.aload_n 0, 1) := by decide +kernel
theorem d_M_lay_6 : decode c_M_lay 6 = .ok (.getfield 175, 3) := by decide +kernel
theorem d_M_lay_9 : decode c_M_lay 9 = .ok (.imul, 1) := by decide +kernel
theorem d_M_lay_10 : decode c_M_lay 10 = .ok (.iload_n 1, 1) := by decide +kernel
theorem d_M_lay_11 : decode c_M_lay 11 = .ok (.iastore, 1) := by decide +kernel
theorem d_M_lay_12 : decode c_M_lay 12 = .ok (.aload_n 0, 1) := by decide +kernel
theorem d_M_lay_13 : decode c_M_lay 13 = .ok (.getfield 25, 3) := by decide +kernel
theorem d_M_lay_16 : decode c_M_lay 16 = .ok (.iconst 4, 1) := by decide +kernel
theorem d_M_lay_17 : decode c_M_lay 17 = .ok (.aload_n 0, 1) := by decide +kernel
theorem d_M_lay_18 : decode c_M_lay 18 = .ok (.getfield 175, 3) := by decide +kernel
theorem d_M_lay_21 : decode c_M_lay 21 = .ok (.imul, 1) := by decide +kernel
theorem d_M_lay_22 : decode c_M_lay 22 = .ok (.iconst 1, 1) := by decide +kernel
theorem d_M_lay_23 : decode c_M_lay 23 = .ok (.iadd, 1) := by decide +kernel
theorem d_M_lay_24 : decode c_M_lay 24 = .ok (.iload_n 2, 1) := by decide +kernel
theorem d_M_lay_25 : decode c_M_lay 25 = .ok (.iastore, 1) := by decide +kernel
theorem d_M_lay_26 : decode c_M_lay 26 = .ok (.aload_n 0, 1) := by decide +kernel
theorem d_M_lay_27 : decode c_M_lay 27 = .ok (.getfield 25, 3) := by decide +kernel
theorem d_M_lay_30 : decode c_M_lay 30 = .ok (.iconst 4, 1) := by decide +kernel
theorem d_M_lay_31 : decode c_M_lay 31 = .ok (.aload_n 0, 1) := by decide +kernel
theorem d_M_lay_32 : decode c_M_lay 32 = .ok (.getfield 175, 3) := by decide +kernel
theorem d_M_lay_35 : decode c_M_lay 35 = .ok (.imul, 1) := by decide +kernel
theorem d_M_lay_36 : decode c_M_lay 36 = .ok (.iconst 2, 1) := by decide +kernel
theorem d_M_lay_37 : decode c_M_lay 37 = .ok (.iadd, 1) := by decide +kernel
theorem d_M_lay_38 : decode c_M_lay 38 = .ok (.iload_n 3, 1) := by decide +kernel
theorem d_M_lay_39 : decode c_M_lay 39 = .ok (.iastore, 1) := by decide +kernel
theorem d_M_lay_40 : decode c_M_lay 40 = .ok (.aload_n 0, 1) := by decide +kernel
theorem d_M_lay_41 : decode c_M_lay 41 = .ok (.getfield 25, 3) := by decide +kernel
theorem d_M_lay_44 : decode c_M_lay 44 = .ok (.iconst 4, 1) := by decide +kernel
theorem d_M_lay_45 : decode c_M_lay 45 = .ok (.aload_n 0, 1) := by decide +kernel
theorem d_M_lay_46 : decode c_M_lay 46 = .ok (.getfield 175, 3) := by decide +kernel
theorem d_M_lay_49 : decode c_M_lay 49 = .ok (.imul, 1) := by decide +kernel
theorem d_M_lay_50 : decode c_M_lay 50 = .ok (.iconst 3, 1) := by decide +kernel
theorem d_M_lay_51 : decode c_M_lay 51 = .ok (.iadd, 1) := by decide +kernel
theorem d_M_lay_52 : decode c_M_lay 52 = .ok (.iload 4, 2) := by decide +kernel
theorem d_M_lay_54 : decode c_M_lay 54 = .ok (.iastore, 1) := by decide +kernel
theorem d_M_lay_55 : decode c_M_lay 55 = .ok (.aload_n 0, 1) := by decide +kernel
theorem d_M_lay_56 : decode c_M_lay 56 = .ok (.dup, 1) := by decide +kernel
theorem d_M_lay_57 : decode c_M_lay 57 = .ok (.getfield 175, 3) := by decide +kernel
theorem d_M_lay_60 : decode c_M_lay 60 = .ok (.iconst 1, 1) := by decide +kernel
theorem d_M_lay_61 : decode c_M_lay 61 = .ok (.iadd, 1) := by decide +kernel
theorem d_M_lay_62 : decode c_M_lay 62 = .ok (.putfield 175, 3) := by decide +kernel
theorem d_M_lay_65 : decode c_M_lay 65 = .ok (.return_, 1) := by decide +kernel
theorem d_M_takeEntity_0 : decode c_M_takeEntity 0 = .ok (.aload_n 0, 1) := by decide +kernel
theorem d_M_takeEntity_1 : decode c_M_takeEntity 1 = .ok (.dup, 1) := by decide +kernel
theorem d_M_takeEntity_2 : decode c_M_takeEntity 2 = .ok (.getfield 175, 3) := by decide +kernel
theorem d_M_takeEntity_5 : decode c_M_takeEntity 5 = .ok (.iconst 1, 1) := by decide +kernel
theorem d_M_takeEntity_6 : decode c_M_takeEntity 6 = .ok (.isub, 1) := by decide +kernel
theorem d_M_takeEntity_7 : decode c_M_takeEntity 7 = .ok (.putfield 175, 3) := by decide +kernel
theorem d_M_takeEntity_10 : decode c_M_takeEntity 10 = .ok (.aload_n 0, 1) := by decide +kernel
theorem d_M_takeEntity_11 : decode c_M_takeEntity 11 = .ok (.getfield 196, 3) := by decide +kernel
theorem d_M_takeEntity_14 : decode c_M_takeEntity 14 = .ok (.bipush 16, 2) := by decide +kernel
theorem d_M_takeEntity_16 : decode c_M_takeEntity 16 = .ok (.if_icmp .ne 4, 3) := by decide +kernel
theorem d_M_takeEntity_19 : decode c_M_takeEntity 19 = .ok (.return_, 1) := by decide +kernel
theorem d_M_takeEntity_20 : decode c_M_takeEntity 20 = .ok (.aload_n 0, 1) := by decide +kernel
theorem d_M_takeEntity_21 : decode c_M_takeEntity 21 = .ok (.getfield 196, 3) := by decide +kernel
theorem d_M_takeEntity_24 : decode c_M_takeEntity 24 = .ok (.istore_n 1, 1) := by decide +kernel
theorem d_M_takeEntity_25 : decode c_M_takeEntity 25 = .ok (.aload_n 0, 1) := by decide +kernel
theorem d_M_takeEntity_26 : decode c_M_takeEntity 26 = .ok (.dup, 1) := by decide +kernel
theorem d_M_takeEntity_27 : decode c_M_takeEntity 27 = .ok (.getfield 196, 3) := by decide +kernel
theorem d_M_takeEntity_30 : decode c_M_takeEntity 30 = .ok (.iconst 1, 1) := by decide +kernel
theorem d_M_takeEntity_31 : decode c_M_takeEntity 31 = .ok (.iadd, 1) := by decide +kernel
theorem d_M_takeEntity_32 : decode c_M_takeEntity 32 = .ok (.putfield 196, 3) := by decide +kernel
theorem d_M_takeEntity_35 : decode c_M_takeEntity 35 = .ok (.aload_n 0, 1) := by decide +kernel
theorem d_M_takeEntity_36 : decode c_M_takeEntity 36 = .ok (.getfield 25, 3) := by decide +kernel
theorem d_M_takeEntity_39 : decode c_M_takeEntity 39 = .ok (.iconst 4, 1) := by decide +kernel
theorem d_M_takeEntity_40 : decode c_M_takeEntity 40 = .ok (.aload_n 0, 1) := by decide +kernel
theorem d_M_takeEntity_41 : decode c_M_takeEntity 41 = .ok (.getfield 175, 3) := by decide +kernel
theorem d_M_takeEntity_44 : decode c_M_takeEntity 44 = .ok (.imul, 1) := by decide +kernel
theorem d_M_takeEntity_45 : decode c_M_takeEntity 45 = .ok (.iaload, 1) := by decide +kernel
theorem d_M_takeEntity_46 : decode c_M_takeEntity 46 = .ok (.istore_n 2, 1) := by decide +kernel
theorem d_M_takeEntity_47 : decode c_M_takeEntity 47 = .ok (.aload_n 0, 1) := by decide +kernel
theorem d_M_takeEntity_48 : decode c_M_takeEntity 48 = .ok (.getfield 25, 3) := by decide +kernel
theorem d_M_takeEntity_51 : decode c_M_takeEntity 51 = .ok (.iconst 4, 1) := by decide +kernel
theorem d_M_takeEntity_52 : decode c_M_takeEntity 52 = .ok (.aload_n 0, 1) := by decide +kernel
theorem d_M_takeEntity_53 : decode c_M_takeEntity 53 = .ok (.getfield 175, 3) := by decide +kernel
theorem d_M_takeEntity_56 : decode c_M_takeEntity 56 = .ok (.imul, 1) := by decide +kernel
theorem d_M_takeEntity_57 : decode c_M_takeEntity 57 = .ok (.iconst 1, 1) := by decide +kernel
theorem d_M_takeEntity_58 : decode c_M_takeEntity 58 = .ok (.iadd, 1) := by decide +kernel
theorem d_M_takeEntity_59 : decode c_M_takeEntity 59 = .ok (.iaload, 1) := by decide +kernel
theorem d_M_takeEntity_60 : decode c_M_takeEntity 60 = .ok (.istore_n 3, 1) := by decide +kernel
theorem d_M_takeEntity_61 : decode c_M_takeEntity 61 = .ok (.aload_n 0, 1) := by decide +kernel
theorem d_M_takeEntity_62 : decode c_M_takeEntity 62 = .ok (.getfield 25, 3) := by decide +kernel
theorem d_M_takeEntity_65 : decode c_M_takeEntity 65 = .ok (.iconst 4, 1) := by decide +kernel
theorem d_M_takeEntity_66 : decode c_M_takeEntity 66 = .ok (.aload_n 0, 1) := by decide +kernel
theorem d_M_takeEntity_67 : decode c_M_takeEntity 67 = .ok (.getfield 175, 3) := by decide +kernel
theorem d_M_takeEntity_70 : decode c_M_takeEntity 70 = .ok (.imul, 1) := by decide +kernel
theorem d_M_takeEntity_71 : decode c_M_takeEntity 71 = .ok (.iconst 3, 1) := by decide +kernel
theorem d_M_takeEntity_72 : decode c_M_takeEntity 72 = .ok (.iadd, 1) := by decide +kernel
theorem d_M_takeEntity_73 : decode c_M_takeEntity 73 = .ok (.iaload, 1) := by decide +kernel
theorem d_M_takeEntity_74 : decode c_M_takeEntity 74 = .ok (.istore 4, 2) := by decide +kernel
theorem d_M_takeEntity_76 : decode c_M_takeEntity 76 = .ok (.iconst 0, 1) := by decide +kernel
theorem d_M_takeEntity_77 : decode c_M_takeEntity 77 = .ok (.istore 5, 2) := by decide +kernel
theorem d_M_takeEntity_79 : decode c_M_takeEntity 79 = .ok (.iload 5, 2) := by decide +kernel
theorem d_M_takeEntity_81 : decode c_M_takeEntity 81 = .ok (.bipush 16, 2) := by decide +kernel
theorem d_M_takeEntity_83 : decode c_M_takeEntity 83 = .ok (.if_icmp .ge 17, 3) := by decide +kernel
theorem d_M_takeEntity_86 : decode c_M_takeEntity 86 = .ok (.aload_n 0, 1) := by decide +kernel
theorem d_M_takeEntity_87 : decode c_M_takeEntity 87 = .ok (.iload_n 1, 1) := by decide +kernel
theorem d_M_takeEntity_88 : decode c_M_takeEntity 88 = .ok (.iload 5, 2) := by decide +kernel
theorem d_M_takeEntity_90 : decode c_M_takeEntity 90 = .ok (.iconst 0, 1) := by decide +kernel
theorem d_M_takeEntity_91 : decode c_M_takeEntity 91 = .ok (.invokevirtual 70, 3) := by decide +kernel
theorem d_M_takeEntity_94 : decode c_M_takeEntity 94 = .ok (.iinc 5 1, 3) := by decide +kernel
theorem d_M_takeEntity_97 : decode c_M_takeEntity 97 = .ok (.goto (-18), 3) := by decide +kernel
theorem d_M_takeEntity_100 : decode c_M_takeEntity 100 = .ok (.aload_n 0, 1) := by decide +kernel
theorem d_M_takeEntity_101 : decode c_M_takeEntity 101 = .ok (.iload_n 1, 1) := by decide +kernel
theorem d_M_takeEntity_102 : decode c_M_takeEntity 102 = .ok (.iconst 1, 1) := by decide +kernel
theorem d_M_takeEntity_103 : decode c_M_takeEntity 103 = .ok (.aload_n 0, 1) := by decide +kernel
theorem d_M_takeEntity_104 : decode c_M_takeEntity 104 = .ok (.getfield 25, 3) := by decide +kernel
theorem d_M_takeEntity_107 : decode c_M_takeEntity 107 = .ok (.iconst 4, 1) := by decide +kernel
theorem d_M_takeEntity_108 : decode c_M_takeEntity 108 = .ok (.aload_n 0, 1) := by decide +kernel
theorem d_M_takeEntity_109 : decode c_M_takeEntity 109 = .ok (.getfield 175, 3) := by decide +kernel
theorem d_M_takeEntity_112 : decode c_M_takeEntity 112 = .ok (.imul, 1) := by decide +kernel
theorem d_M_takeEntity_113 : decode c_M_takeEntity 113 = .ok (.iconst 2, 1) := by decide +kernel
theorem d_M_takeEntity_114 : decode c_M_takeEntity 114 = .ok (.iadd, 1) := by decide +kernel
theorem d_M_takeEntity_115 : decode c_M_takeEntity 115 = .ok (.iaload, 1) := by decide +kernel
theorem d_M_takeEntity_116 : decode c_M_takeEntity 116 = .ok (.invokevirtual 70, 3) := by decide +kernel
theorem d_M_takeEntity_119 : decode c_M_takeEntity 119 = .ok (.aload_n 0, 1) := by decide +kernel
theorem d_M_takeEntity_120 : decode c_M_takeEntity 120 = .ok (.iload_n 1, 1) := by decide +kernel
theorem d_M_takeEntity_121 : decode c_M_takeEntity 121 = .ok (.iconst 2, 1) := by decide +kernel
theorem d_M_takeEntity_122 : decode c_M_takeEntity 122 = .ok (.iload 4, 2) := by decide +kernel
theorem d_M_takeEntity_124 : decode c_M_takeEntity 124 = .ok (.invokevirtual 70, 3) := by decide +kernel
theorem d_M_takeEntity_127 : decode c_M_takeEntity 127 = .ok (.iload 4, 2) := by decide +kernel
theorem d_M_takeEntity_129 : decode c_M_takeEntity 129 = .ok (.ifCond .lt 21, 3) := by decide +kernel
theorem d_M_takeEntity_132 : decode c_M_takeEntity 132 = .ok (.aload_n 0, 1) := by decide +kernel
theorem d_M_takeEntity_133 : decode c_M_takeEntity 133 = .ok (.iload 4, 2) := by decide +kernel
theorem d_M_takeEntity_135 : decode c_M_takeEntity 135 = .ok (.bipush 6, 2) := by decide +kernel
theorem d_M_takeEntity_137 : decode c_M_takeEntity 137 = .ok (.aload_n 0, 1) := by decide +kernel
theorem d_M_takeEntity_138 : decode c_M_takeEntity 138 = .ok (.iload 4, 2) := by decide +kernel
theorem d_M_takeEntity_140 : decode c_M_takeEntity 140 = .ok (.bipush 6, 2) := by decide +kernel
theorem d_M_takeEntity_142 : decode c_M_takeEntity 142 = .ok (.invokevirtual 59, 3) := by decide +kernel
theorem d_M_takeEntity_145 : decode c_M_takeEntity 145 = .ok (.iconst 1, 1) := by decide +kernel
theorem d_M_takeEntity_146 : decode c_M_takeEntity 146 = .ok (.iadd, 1) := by decide +kernel
theorem d_M_takeEntity_147 : decode c_M_takeEntity 147 = .ok (.invokevirtual 70, 3) := by decide +kernel
theorem d_M_takeEntity_150 : decode c_M_takeEntity 150 = .ok (.aload_n 0, 1) := by decide +kernel
theorem d_M_takeEntity_151 : decode c_M_takeEntity 151 = .ok (.iload_n 1, 1) := by decide +kernel
theorem d_M_takeEntity_152 : decode c_M_takeEntity 152 = .ok (.bipush 7, 2) := by decide +kernel
theorem d_M_takeEntity_154 : decode c_M_takeEntity 154 = .ok (.iload_n 2, 1) := by decide +kernel
theorem d_M_takeEntity_155 : decode c_M_takeEntity 155 = .ok (.invokevirtual 70, 3) := by decide +kernel
theorem d_M_takeEntity_158 : decode c_M_takeEntity 158 = .ok (.aload_n 0, 1) := by decide +kernel
theorem d_M_takeEntity_159 : decode c_M_takeEntity 159 = .ok (.iload_n 1, 1) := by decide +kernel
theorem d_M_takeEntity_160 : decode c_M_takeEntity 160 = .ok (.bipush 9, 2) := by decide +kernel
theorem d_M_takeEntity_162 : decode c_M_takeEntity 162 = .ok (.iload_n 3, 1) := by decide +kernel
theorem d_M_takeEntity_163 : decode c_M_takeEntity 163 = .ok (.invokevirtual 70, 3) := by decide +kernel
theorem d_M_takeEntity_166 : decode c_M_takeEntity 166 = .ok (.aload_n 0, 1) := by decide +kernel
theorem d_M_takeEntity_167 : decode c_M_takeEntity 167 = .ok (.iload_n 1, 1) := by decide +kernel
theorem d_M_takeEntity_168 : decode c_M_takeEntity 168 = .ok (.bipush 8, 2) := by decide +kernel
theorem d_M_takeEntity_170 : decode c_M_takeEntity 170 = .ok (.aload_n 0, 1) := by decide +kernel
theorem d_M_takeEntity_171 : decode c_M_takeEntity 171 = .ok (.iload_n 1, 1) := by decide +kernel
theorem d_M_takeEntity_172 : decode c_M_takeEntity 172 = .ok (.iload_n 2, 1) := by decide +kernel
theorem d_M_takeEntity_173 : decode c_M_takeEntity 173 = .ok (.iload_n 3, 1) := by decide +kernel
theorem d_M_takeEntity_174 : decode c_M_takeEntity 174 = .ok (.invokevirtual 199, 3) := by decide +kernel
theorem d_M_takeEntity_177 : decode c_M_takeEntity 177 = .ok (.invokevirtual 70, 3) := by decide +kernel
theorem d_M_takeEntity_180 : decode c_M_takeEntity 180 = .ok (.aload_n 0, 1) := by decide +kernel
theorem d_M_takeEntity_181 : decode c_M_takeEntity 181 = .ok (.iload_n 1, 1) := by decide +kernel
theorem d_M_takeEntity_182 : decode c_M_takeEntity 182 = .ok (.iconst 4, 1) := by decide +kernel
theorem d_M_takeEntity_183 : decode c_M_takeEntity 183 = .ok (.aload_n 0, 1) := by decide +kernel
theorem d_M_takeEntity_184 : decode c_M_takeEntity 184 = .ok (.iload_n 1, 1) := by decide +kernel
theorem d_M_takeEntity_185 : decode c_M_takeEntity 185 = .ok (.invokevirtual 202, 3) := by decide +kernel
theorem d_M_takeEntity_188 : decode c_M_takeEntity 188 = .ok (.invokevirtual 70, 3) := by decide +kernel
theorem d_M_takeEntity_191 : decode c_M_takeEntity 191 = .ok (.aload_n 0, 1) := by decide +kernel
theorem d_M_takeEntity_192 : decode c_M_takeEntity 192 = .ok (.iload_n 1, 1) := by decide +kernel
theorem d_M_takeEntity_193 : decode c_M_takeEntity 193 = .ok (.invokevirtual 205, 3) := by decide +kernel
theorem d_M_takeEntity_196 : decode c_M_takeEntity 196 = .ok (.istore 5, 2) := by decide +kernel
theorem d_M_takeEntity_198 : decode c_M_takeEntity 198 = .ok (.aload_n 0, 1) := by decide +kernel
theorem d_M_takeEntity_199 : decode c_M_takeEntity 199 = .ok (.iload_n 1, 1) := by decide +kernel
theorem d_M_takeEntity_200 : decode c_M_takeEntity 200 = .ok (.iconst 0, 1) := by decide +kernel
theorem d_M_takeEntity_201 : decode c_M_takeEntity 201 = .ok (.iload 5, 2) := by decide +kernel
theorem d_M_takeEntity_203 : decode c_M_takeEntity 203 = .ok (.invokevirtual 70, 3) := by decide +kernel
theorem d_M_takeEntity_206 : decode c_M_takeEntity 206 = .ok (.iload 5, 2) := by decide +kernel
theorem d_M_takeEntity_208 : decode c_M_takeEntity 208 = .ok (.ifCond .ne 8, 3) := by decide +kernel
theorem d_M_takeEntity_211 : decode c_M_takeEntity 211 = .ok (.aload_n 0, 1) := by decide +kernel
theorem d_M_takeEntity_212 : decode c_M_takeEntity 212 = .ok (.iload_n 1, 1) := by decide +kernel
theorem d_M_takeEntity_213 : decode c_M_takeEntity 213 = .ok (.invokevirtual 208, 3) := by decide +kernel
theorem d_M_takeEntity_216 : decode c_M_takeEntity 216 = .ok (.iload 5, 2) := by decide +kernel
theorem d_M_takeEntity_218 : decode c_M_takeEntity 218 = .ok (.iconst 2, 1) := by decide +kernel
theorem d_M_takeEntity_219 : decode c_M_takeEntity 219 = .ok (.if_icmp .ne 24, 3) := by decide +kernel
theorem d_M_takeEntity_222 : decode c_M_takeEntity 222 = .ok (.aload_n 0, 1) := by decide +kernel
theorem d_M_takeEntity_223 : decode c_M_takeEntity 223 = .ok (.aload_n 0, 1) := by decide +kernel
theorem d_M_takeEntity_224 : decode c_M_takeEntity 224 = .ok (.iload_n 1, 1) := by decide +kernel
theorem d_M_takeEntity_225 : decode c_M_takeEntity 225 = .ok (.bipush 8, 2) := by decide +kernel
theorem d_M_takeEntity_227 : decode c_M_takeEntity 227 = .ok (.invokevirtual 59, 3) := by decide +kernel
theorem d_M_takeEntity_230 : decode c_M_takeEntity 230 = .ok (.iload_n 3, 1) := by decide +kernel
theorem d_M_takeEntity_231 : decode c_M_takeEntity 231 = .ok (.aload_n 0, 1) := by decide +kernel
theorem d_M_takeEntity_232 : decode c_M_takeEntity 232 = .ok (.iload_n 1, 1) := by decide +kernel
theorem d_M_takeEntity_233 : decode c_M_takeEntity 233 = .ok (.iconst 1, 1) := by decide +kernel
theorem d_M_takeEntity_234 : decode c_M_takeEntity 234 = .ok (.invokevirtual 59, 3) := by decide +kernel
theorem d_M_takeEntity_237 : decode c_M_takeEntity 237 = .ok (.iconst 1, 1) := by decide +kernel
theorem d_M_takeEntity_238 : decode c_M_takeEntity 238 = .ok (.iadd, 1) := by decide +kernel
theorem d_M_takeEntity_239 : decode c_M_takeEntity 239 = .ok (.iload_n 1, 1) := by decide +kernel
theorem d_M_takeEntity_240 : decode c_M_takeEntity 240 = .ok (.invokevirtual 211, 3) := by decide +kernel
theorem d_M_takeEntity_243 : decode c_M_takeEntity 243 = .ok (.iload 5, 2) := by decide +kernel
theorem d_M_takeEntity_245 : decode c_M_takeEntity 245 = .ok (.iconst 1, 1) := by decide +kernel
theorem d_M_takeEntity_246 : decode c_M_takeEntity 246 = .ok (.if_icmp .ne 60, 3) := by decide +kernel
theorem d_M_takeEntity_249 : decode c_M_takeEntity 249 = .ok (.aload_n 0, 1) := by decide +kernel
theorem d_M_takeEntity_250 : decode c_M_takeEntity 250 = .ok (.iload_n 1, 1) := by decide +kernel
theorem d_M_takeEntity_251 : decode c_M_takeEntity 251 = .ok (.invokevirtual 214, 3) := by decide +kernel
theorem d_M_takeEntity_254 : decode c_M_takeEntity 254 = .ok (.istore 6, 2) := by decide +kernel
theorem d_M_takeEntity_256 : decode c_M_takeEntity 256 = .ok (.iload 6, 2) := by decide +kernel
theorem d_M_takeEntity_258 : decode c_M_takeEntity 258 = .ok (.iconst 1, 1) := by decide +kernel
theorem d_M_takeEntity_259 : decode c_M_takeEntity 259 = .ok (.isub, 1) := by decide +kernel
theorem d_M_takeEntity_260 : decode c_M_takeEntity 260 = .ok (.istore 7, 2) := by decide +kernel
theorem d_M_takeEntity_262 : decode c_M_takeEntity 262 = .ok (.iload 7, 2) := by decide +kernel
theorem d_M_takeEntity_264 : decode c_M_takeEntity 264 = .ok (.ifCond .lt 42, 3) := by decide +kernel
theorem d_M_takeEntity_267 : decode c_M_takeEntity 267 = .ok (.aload_n 0, 1) := by decide +kernel
theorem d_M_takeEntity_268 : decode c_M_takeEntity 268 = .ok (.aload_n 0, 1) := by decide +kernel
theorem d_M_takeEntity_269 : decode c_M_takeEntity 269 = .ok (.getfield 28, 3) := by decide +kernel
theorem d_M_takeEntity_272 : decode c_M_takeEntity 272 = .ok (.iconst 2, 1) := by decide +kernel
theorem d_M_takeEntity_273 : decode c_M_takeEntity 273 = .ok (.iload 7, 2) := by decide +kernel
theorem d_M_takeEntity_275 : decode c_M_takeEntity 275 = .ok (.imul, 1) := by decide +kernel
theorem d_M_takeEntity_276 : decode c_M_takeEntity 276 = .ok (.iaload, 1) := by decide +kernel
theorem d_M_takeEntity_277 : decode c_M_takeEntity 277 = .ok (.aload_n 0, 1) := by decide +kernel
theorem d_M_takeEntity_278 : decode c_M_takeEntity 278 = .ok (.getfield 28, 3) := by decide +kernel
theorem d_M_takeEntity_281 : decode c_M_takeEntity 281 = .ok (.iconst 2, 1) := by decide +kernel
theorem d_M_takeEntity_282 : decode c_M_takeEntity 282 = .ok (.iload 7, 2) := by decide +kernel
theorem d_M_takeEntity_284 : decode c_M_takeEntity 284 = .ok (.imul, 1) := by decide +kernel
theorem d_M_takeEntity_285 : decode c_M_takeEntity 285 = .ok (.iconst 1, 1) := by decide +kernel
theorem d_M_takeEntity_286 : decode c_M_takeEntity 286 = .ok (.iadd, 1) := by decide +kernel
theorem d_M_takeEntity_287 : decode c_M_takeEntity 287 = .ok (.iaload, 1) := by decide +kernel
theorem d_M_takeEntity_288 : decode c_M_takeEntity 288 = .ok (.aload_n 0, 1) := by decide +kernel
theorem d_M_takeEntity_289 : decode c_M_takeEntity 289 = .ok (.iload_n 1, 1) := by decide +kernel
theorem d_M_takeEntity_290 : decode c_M_takeEntity 290 = .ok (.iconst 1, 1) := by decide +kernel
theorem d_M_takeEntity_291 : decode c_M_takeEntity 291 = .ok (.invokevirtual 59, 3) := by decide +kernel
theorem d_M_takeEntity_294 : decode c_M_takeEntity 294 = .ok (.iconst 1, 1) := by decide +kernel
theorem d_M_takeEntity_295 : decode c_M_takeEntity 295 = .ok (.iadd, 1) := by decide +kernel
theorem d_M_takeEntity_296 : decode c_M_takeEntity 296 = .ok (.iload_n 1, 1) := by decide +kernel
theorem d_M_takeEntity_297 : decode c_M_takeEntity 297 = .ok (.invokevirtual 211, 3) := by decide +kernel
theorem d_M_takeEntity_300 : decode c_M_takeEntity 300 = .ok (.iinc 7 (-1), 3) := by decide +kernel
theorem d_M_takeEntity_303 : decode c_M_takeEntity 303 = .ok (.goto (-41), 3) := by decide +kernel
theorem d_M_takeEntity_306 : decode c_M_takeEntity 306 = .ok (.return_, 1) := by decide +kernel
theorem d_M_set_0 : decode c_M_set 0 = .ok (.aload_n 0, 1) := by decide +kernel
theorem d_M_set_1 : decode c_M_set 1 = .ok (.getfield 16, 3) := by decide +kernel
theorem d_M_set_4 : decode c_M_set 4 = .ok (.bipush 16, 2) := by decide +kernel
theorem d_M_set_6 : decode c_M_set 6 = .ok (.iload_n 1, 1) := by decide +kernel
theorem d_M_set_7 : decode c_M_set 7 = .ok (.imul, 1) := by decide +kernel
theorem d_M_set_8 : decode c_M_set 8 = .ok (.iload_n 2, 1) := by decide +kernel
theorem d_M_set_9 : decode c_M_set 9 = .ok (.iadd, 1) := by decide +kernel
theorem d_M_set_10 : decode c_M_set 10 = .ok (.iload_n 3, 1) := by decide +kernel
theorem d_M_set_11 : decode c_M_set 11 = .ok (.iastore, 1) := by decide +kernel
theorem d_M_set_12 : decode c_M_set 12 = .ok (.return_, 1) := by decide +kernel
theorem d_M_of_0 : decode c_M_of 0 = .ok (.aload_n 0, 1) := by decide +kernel
theorem d_M_of_1 : decode c_M_of 1 = .ok (.getfield 16, 3) := by decide +kernel
theorem d_M_of_4 : decode c_M_of 4 = .ok (.bipush 16, 2) := by decide +kernel
theorem d_M_of_6 : decode c_M_of 6 = .ok (.iload_n 1, 1) := by decide +kernel
theorem d_M_of_7 : decode c_M_of 7 = .ok (.imul, 1) := by decide +kernel
theorem d_M_of_8 : decode c_M_of 8 = .ok (.iload_n 2, 1) := by decide +kernel
theorem d_M_of_9 : decode c_M_of 9 = .ok (.iadd, 1) := by decide +kernel
theorem d_M_of_10 : decode c_M_of 10 = .ok (.iaload, 1) := by decide +kernel
theorem d_M_of_11 : decode c_M_of 11 = .ok (.ireturn, 1) := by decide +kernel
theorem d_M_fields_0 : decode c_M_fields 0 = .ok (.iload_n 2, 1) := by decide +kernel
theorem d_M_fields_1 : decode c_M_fields 1 = .ok (.istore 4, 2) := by decide +kernel
theorem d_M_fields_3 : decode c_M_fields 3 = .ok (.iload 4, 2) := by decide +kernel
theorem d_M_fields_5 : decode c_M_fields 5 = .ok (.iload_n 3, 1) := by decide +kernel
theorem d_M_fields_6 : decode c_M_fields 6 = .ok (.if_icmp .ge 150, 3) := by decide +kernel
theorem d_M_fields_9 : decode c_M_fields 9 = .ok (.aload_n 0, 1) := by decide +kernel
theorem d_M_fields_10 : decode c_M_fields 10 = .ok (.iload 4, 2) := by decide +kernel
theorem d_M_fields_12 : decode c_M_fields 12 = .ok (.iload_n 3, 1) := by decide +kernel
theorem d_M_fields_13 : decode c_M_fields 13 = .ok (.invokevirtual 74, 3) := by decide +kernel
theorem d_M_fields_16 : decode c_M_fields 16 = .ok (.istore 5, 2) := by decide +kernel
theorem d_M_fields_18 : decode c_M_fields 18 = .ok (.iload 5, 2) := by decide +kernel
theorem d_M_fields_20 : decode c_M_fields 20 = .ok (.iload 4, 2) := by decide +kernel
theorem d_M_fields_22 : decode c_M_fields 22 = .ok (.if_icmp .ne 16, 3) := by decide +kernel
theorem d_M_fields_25 : decode c_M_fields 25 = .ok (.aload_n 0, 1) := by decide +kernel
theorem d_M_fields_26 : decode c_M_fields 26 = .ok (.iload_n 1, 1) := by decide +kernel
theorem d_M_fields_27 : decode c_M_fields 27 = .ok (.invokevirtual 77, 3) := by decide +kernel
theorem d_M_fields_30 : decode c_M_fields 30 = .ok (.aload_n 0, 1) := by decide +kernel
theorem d_M_fields_31 : decode c_M_fields 31 = .ok (.iload 4, 2) := by decide +kernel
theorem d_M_fields_33 : decode c_M_fields 33 = .ok (.iload_n 3, 1) := by decide +kernel
theorem d_M_fields_34 : decode c_M_fields 34 = .ok (.invokevirtual 52, 3) := by decide +kernel
theorem d_M_fields_37 : decode c_M_fields 37 = .ok (.ireturn, 1) := by decide +kernel
theorem d_M_fields_38 : decode c_M_fields 38 = .ok (.aload_n 0, 1) := by decide +kernel
theorem d_M_fields_39 : decode c_M_fields 39 = .ok (.iload 4, 2) := by decide +kernel
theorem d_M_fields_41 : decode c_M_fields 41 = .ok (.iload 5, 2) := by decide +kernel
theorem d_M_fields_43 : decode c_M_fields 43 = .ok (.invokevirtual 80, 3) := by decide +kernel
theorem d_M_fields_46 : decode c_M_fields 46 = .ok (.istore 6, 2) := by decide +kernel
theorem d_M_fields_48 : decode c_M_fields 48 = .ok (.iload 6, 2) := by decide +kernel
theorem d_M_fields_50 : decode c_M_fields 50 = .ok (.ifCond .le 33, 3) := by decide +kernel
theorem d_M_fields_53 : decode c_M_fields 53 = .ok (.aload_n 0, 1) := by decide +kernel
theorem d_M_fields_54 : decode c_M_fields 54 = .ok (.iload_n 1, 1) := by decide +kernel
theorem d_M_fields_55 : decode c_M_fields 55 = .ok (.iconst 3, 1) := by decide +kernel
theorem d_M_fields_56 : decode c_M_fields 56 = .ok (.invokevirtual 59, 3) := by decide +kernel
theorem d_M_fields_59 : decode c_M_fields 59 = .ok (.bipush 8, 2) := by decide +kernel
theorem d_M_fields_61 : decode c_M_fields 61 = .ok (.if_icmp .ge 22, 3) := by decide +kernel
theorem d_M_fields_64 : decode c_M_fields 64 = .ok (.aload_n 0, 1) := by decide +kernel
theorem d_M_fields_65 : decode c_M_fields 65 = .ok (.iload_n 1, 1) := by decide +kernel
theorem d_M_fields_66 : decode c_M_fields 66 = .ok (.invokevirtual 77, 3) := by decide +kernel
theorem d_M_fields_69 : decode c_M_fields 69 = .ok (.aload_n 0, 1) := by decide +kernel
theorem d_M_fields_70 : decode c_M_fields 70 = .ok (.iload_n 1, 1) := by decide +kernel
theorem d_M_fields_71 : decode c_M_fields 71 = .ok (.iload 4, 2) := by decide +kernel
theorem d_M_fields_73 : decode c_M_fields 73 = .ok (.iload 6, 2) := by decide +kernel
theorem d_M_fields_75 : decode c_M_fields 75 = .ok (.iload 5, 2) := by decide +kernel
theorem d_M_fields_77 : decode c_M_fields 77 = .ok (.invokevirtual 83, 3) := by decide +kernel
theorem d_M_fields_80 : decode c_M_fields 80 = .ok (.goto 64, 3) := by decide +kernel
theorem d_M_fields_83 : decode c_M_fields 83 = .ok (.aload_n 0, 1) := by decide +kernel
theorem d_M_fields_84 : decode c_M_fields 84 = .ok (.getfield 13, 3) := by decide +kernel
theorem d_M_fields_87 : decode c_M_fields 87 = .ok (.iload 4, 2) := by decide +kernel
theorem d_M_fields_89 : decode c_M_fields 89 = .ok (.iaload, 1) := by decide +kernel
theorem d_M_fields_90 : decode c_M_fields 90 = .ok (.invokestatic 62, 3) := by decide +kernel
theorem d_M_fields_93 : decode c_M_fields 93 = .ok (.ifCond .eq 43, 3) := by decide +kernel
theorem d_M_fields_96 : decode c_M_fields 96 = .ok (.aload_n 0, 1) := by decide +kernel
theorem d_M_fields_97 : decode c_M_fields 97 = .ok (.iload_n 1, 1) := by decide +kernel
theorem d_M_fields_98 : decode c_M_fields 98 = .ok (.iconst 3, 1) := by decide +kernel
theorem d_M_fields_99 : decode c_M_fields 99 = .ok (.invokevirtual 59, 3) := by decide +kernel
theorem d_M_fields_102 : decode c_M_fields 102 = .ok (.ifCond .le 34, 3) := by decide +kernel
theorem d_M_fields_105 : decode c_M_fields 105 = .ok (.iload 4, 2) := by decide +kernel
theorem d_M_fields_107 : decode c_M_fields 107 = .ok (.istore 7, 2) := by decide +kernel
theorem d_M_fields_109 : decode c_M_fields 109 = .ok (.iload 7, 2) := by decide +kernel
theorem d_M_fields_111 : decode c_M_fields 111 = .ok (.iload 5, 2) := by decide +kernel
theorem d_M_fields_113 : decode c_M_fields 113 = .ok (.if_icmp .ge 20, 3) := by decide +kernel
theorem d_M_fields_116 : decode c_M_fields 116 = .ok (.aload_n 0, 1) := by decide +kernel
theorem d_M_fields_117 : decode c_M_fields 117 = .ok (.aload_n 0, 1) := by decide +kernel
theorem d_M_fields_118 : decode c_M_fields 118 = .ok (.getfield 13, 3) := by decide +kernel
theorem d_M_fields_121 : decode c_M_fields 121 = .ok (.iload 7, 2) := by decide +kernel
theorem d_M_fields_123 : decode c_M_fields 123 = .ok (.iaload, 1) := by decide +kernel
theorem d_M_fields_124 : decode c_M_fields 124 = .ok (.invokevirtual 66, 3) := by decide +kernel
theorem d_M_fields_127 : decode c_M_fields 127 = .ok (.iinc 7 1, 3) := by decide +kernel
theorem d_M_fields_130 : decode c_M_fields 130 = .ok (.goto (-21), 3) := by decide +kernel
theorem d_M_fields_133 : decode c_M_fields 133 = .ok (.goto 11, 3) := by decide +kernel
theorem d_M_fields_136 : decode c_M_fields 136 = .ok (.aload_n 0, 1) := by decide +kernel
theorem d_M_fields_137 : decode c_M_fields 137 = .ok (.iload_n 1, 1) := by decide +kernel
theorem d_M_fields_138 : decode c_M_fields 138 = .ok (.invokevirtual 77, 3) := by decide +kernel
theorem d_M_fields_141 : decode c_M_fields 141 = .ok (.iload 4, 2) := by decide +kernel
theorem d_M_fields_143 : decode c_M_fields 143 = .ok (.ireturn, 1) := by decide +kernel
theorem d_M_fields_144 : decode c_M_fields 144 = .ok (.aload_n 0, 1) := by decide +kernel
theorem d_M_fields_145 : decode c_M_fields 145 = .ok (.iload 4, 2) := by decide +kernel
theorem d_M_fields_147 : decode c_M_fields 147 = .ok (.iload_n 3, 1) := by decide +kernel
theorem d_M_fields_148 : decode c_M_fields 148 = .ok (.invokevirtual 52, 3) := by decide +kernel
theorem d_M_fields_151 : decode c_M_fields 151 = .ok (.istore 4, 2) := by decide +kernel
theorem d_M_fields_153 : decode c_M_fields 153 = .ok (.goto (-150), 3) := by decide +kernel
theorem d_M_fields_156 : decode c_M_fields 156 = .ok (.aload_n 0, 1) := by decide +kernel
theorem d_M_fields_157 : decode c_M_fields 157 = .ok (.iload_n 1, 1) := by decide +kernel
theorem d_M_fields_158 : decode c_M_fields 158 = .ok (.invokevirtual 77, 3) := by decide +kernel
theorem d_M_fields_161 : decode c_M_fields 161 = .ok (.iload_n 3, 1) := by decide +kernel
theorem d_M_fields_162 : decode c_M_fields 162 = .ok (.ireturn, 1) := by decide +kernel
theorem d_M_textEnd_0 : decode c_M_textEnd 0 = .ok (.aload_n 0, 1) := by decide +kernel
theorem d_M_textEnd_1 : decode c_M_textEnd 1 = .ok (.iload_n 1, 1) := by decide +kernel
theorem d_M_textEnd_2 : decode c_M_textEnd 2 = .ok (.iload_n 2, 1) := by decide +kernel
theorem d_M_textEnd_3 : decode c_M_textEnd 3 = .ok (.invokevirtual 52, 3) := by decide +kernel
theorem d_M_textEnd_6 : decode c_M_textEnd 6 = .ok (.istore_n 3, 1) := by decide +kernel
theorem d_M_textEnd_7 : decode c_M_textEnd 7 = .ok (.iload_n 3, 1) := by decide +kernel
theorem d_M_textEnd_8 : decode c_M_textEnd 8 = .ok (.iload_n 1, 1) := by decide +kernel
theorem d_M_textEnd_9 : decode c_M_textEnd 9 = .ok (.if_icmp .eq 16, 3) := by decide +kernel
theorem d_M_textEnd_12 : decode c_M_textEnd 12 = .ok (.aload_n 0, 1) := by decide +kernel
theorem d_M_textEnd_13 : decode c_M_textEnd 13 = .ok (.getfield 13, 3) := by decide +kernel
theorem d_M_textEnd_16 : decode c_M_textEnd 16 = .ok (.iload_n 3, 1) := by decide +kernel
theorem d_M_textEnd_17 : decode c_M_textEnd 17 = .ok (.iconst 1, 1) := by decide +kernel
theorem d_M_textEnd_18 : decode c_M_textEnd 18 = .ok (.isub, 1) := by decide +kernel
theorem d_M_textEnd_19 : decode c_M_textEnd 19 = .ok (.iaload, 1) := by decide +kernel
theorem d_M_textEnd_20 : decode c_M_textEnd 20 = .ok (.bipush 10, 2) := by decide +kernel
theorem d_M_textEnd_22 : decode c_M_textEnd 22 = .ok (.if_icmp .eq 5, 3) := by decide +kernel
theorem d_M_textEnd_25 : decode c_M_textEnd 25 = .ok (.iload_n 3, 1) := by decide +kernel
theorem d_M_textEnd_26 : decode c_M_textEnd 26 = .ok (.ireturn, 1) := by decide +kernel
theorem d_M_textEnd_27 : decode c_M_textEnd 27 = .ok (.iinc 3 (-1), 3) := by decide +kernel
theorem d_M_textEnd_30 : decode c_M_textEnd 30 = .ok (.iload_n 3, 1) := by decide +kernel
theorem d_M_textEnd_31 : decode c_M_textEnd 31 = .ok (.iload_n 1, 1) := by decide +kernel
theorem d_M_textEnd_32 : decode c_M_textEnd 32 = .ok (.if_icmp .le 22, 3) := by decide +kernel
theorem d_M_textEnd_35 : decode c_M_textEnd 35 = .ok (.aload_n 0, 1) := by decide +kernel
theorem d_M_textEnd_36 : decode c_M_textEnd 36 = .ok (.getfield 13, 3) := by decide +kernel
theorem d_M_textEnd_39 : decode c_M_textEnd 39 = .ok (.iload_n 3, 1) := by decide +kernel
theorem d_M_textEnd_40 : decode c_M_textEnd 40 = .ok (.iconst 1, 1) := by decide +kernel
theorem d_M_textEnd_41 : decode c_M_textEnd 41 = .ok (.isub, 1) := by decide +kernel
theorem d_M_textEnd_42 : decode c_M_textEnd 42 = .ok (.iaload, 1) := by decide +kernel
theorem d_M_textEnd_43 : decode c_M_textEnd 43 = .ok (.bipush 13, 2) := by decide +kernel
theorem d_M_textEnd_45 : decode c_M_textEnd 45 = .ok (.if_icmp .ne 9, 3) := by decide +kernel
theorem d_M_textEnd_48 : decode c_M_textEnd 48 = .ok (.iload_n 3, 1) := by decide +kernel
theorem d_M_textEnd_49 : decode c_M_textEnd 49 = .ok (.iconst 1, 1) := by decide +kernel
theorem d_M_textEnd_50 : decode c_M_textEnd 50 = .ok (.isub, 1) := by decide +kernel
theorem d_M_textEnd_51 : decode c_M_textEnd 51 = .ok (.goto 4, 3) := by decide +kernel
theorem d_M_textEnd_54 : decode c_M_textEnd 54 = .ok (.iload_n 3, 1) := by decide +kernel
theorem d_M_textEnd_55 : decode c_M_textEnd 55 = .ok (.ireturn, 1) := by decide +kernel
theorem d_M_lineEnd_0 : decode c_M_lineEnd 0 = .ok (.iload_n 1, 1) := by decide +kernel
theorem d_M_lineEnd_1 : decode c_M_lineEnd 1 = .ok (.istore_n 3, 1) := by decide +kernel
theorem d_M_lineEnd_2 : decode c_M_lineEnd 2 = .ok (.iload_n 3, 1) := by decide +kernel
theorem d_M_lineEnd_3 : decode c_M_lineEnd 3 = .ok (.iload_n 2, 1) := by decide +kernel
theorem d_M_lineEnd_4 : decode c_M_lineEnd 4 = .ok (.if_icmp .ge 20, 3) := by decide +kernel
theorem d_M_lineEnd_7 : decode c_M_lineEnd 7 = .ok (.aload_n 0, 1) := by decide +kernel
theorem d_M_lineEnd_8 : decode c_M_lineEnd 8 = .ok (.getfield 13, 3) := by decide +kernel
theorem d_M_lineEnd_11 : decode c_M_lineEnd 11 = .ok (.iload_n 3, 1) := by decide +kernel
theorem d_M_lineEnd_12 : decode c_M_lineEnd 12 = .ok (.iaload, 1) := by decide +kernel
theorem d_M_lineEnd_13 : decode c_M_lineEnd 13 = .ok (.bipush 10, 2) := by decide +kernel
theorem d_M_lineEnd_15 : decode c_M_lineEnd 15 = .ok (.if_icmp .eq 9, 3) := by decide +kernel
theorem d_M_lineEnd_18 : decode c_M_lineEnd 18 = .ok (.iinc 3 1, 3) := by decide +kernel
theorem d_M_lineEnd_21 : decode c_M_lineEnd 21 = .ok (.goto (-19), 3) := by decide +kernel
theorem d_M_lineEnd_24 : decode c_M_lineEnd 24 = .ok (.iload_n 3, 1) := by decide +kernel
theorem d_M_lineEnd_25 : decode c_M_lineEnd 25 = .ok (.iload_n 2, 1) := by decide +kernel
theorem d_M_lineEnd_26 : decode c_M_lineEnd 26 = .ok (.if_icmp .ge 9, 3) := by decide +kernel
theorem d_M_lineEnd_29 : decode c_M_lineEnd 29 = .ok (.iload_n 3, 1) := by decide +kernel
theorem d_M_lineEnd_30 : decode c_M_lineEnd 30 = .ok (.iconst 1, 1) := by decide +kernel
theorem d_M_lineEnd_31 : decode c_M_lineEnd 31 = .ok (.iadd, 1) := by decide +kernel
theorem d_M_lineEnd_32 : decode c_M_lineEnd 32 = .ok (.goto 4, 3) := by decide +kernel
theorem d_M_lineEnd_35 : decode c_M_lineEnd 35 = .ok (.iload_n 2, 1) := by decide +kernel
theorem d_M_lineEnd_36 : decode c_M_lineEnd 36 = .ok (.ireturn, 1) := by decide +kernel
theorem d_M_trims_0 : decode c_M_trims 0 = .ok (.aload_n 0, 1) := by decide +kernel
theorem d_M_trims_1 : decode c_M_trims 1 = .ok (.iload_n 1, 1) := by decide +kernel
theorem d_M_trims_2 : decode c_M_trims 2 = .ok (.iconst 3, 1) := by decide +kernel
theorem d_M_trims_3 : decode c_M_trims 3 = .ok (.invokevirtual 59, 3) := by decide +kernel
theorem d_M_trims_6 : decode c_M_trims 6 = .ok (.iconst 1, 1) := by decide +kernel
theorem d_M_trims_7 : decode c_M_trims 7 = .ok (.isub, 1) := by decide +kernel
theorem d_M_trims_8 : decode c_M_trims 8 = .ok (.istore_n 2, 1) := by decide +kernel
theorem d_M_trims_9 : decode c_M_trims 9 = .ok (.iload_n 2, 1) := by decide +kernel
theorem d_M_trims_10 : decode c_M_trims 10 = .ok (.ifCond .ge 4, 3) := by decide +kernel
theorem d_M_trims_13 : decode c_M_trims 13 = .ok (.return_, 1) := by decide +kernel
theorem d_M_trims_14 : decode c_M_trims 14 = .ok (.iconst 4, 1) := by decide +kernel
theorem d_M_trims_15 : decode c_M_trims 15 = .ok (.bipush 8, 2) := by decide +kernel
theorem d_M_trims_17 : decode c_M_trims 17 = .ok (.iload_n 1, 1) := by decide +kernel
theorem d_M_trims_18 : decode c_M_trims 18 = .ok (.imul, 1) := by decide +kernel
theorem d_M_trims_19 : decode c_M_trims 19 = .ok (.iload_n 2, 1) := by decide +kernel
theorem d_M_trims_20 : decode c_M_trims 20 = .ok (.iadd, 1) := by decide +kernel
theorem d_M_trims_21 : decode c_M_trims 21 = .ok (.imul, 1) := by decide +kernel
theorem d_M_trims_22 : decode c_M_trims 22 = .ok (.istore_n 3, 1) := by decide +kernel
theorem d_M_trims_23 : decode c_M_trims 23 = .ok (.aload_n 0, 1) := by decide +kernel
theorem d_M_trims_24 : decode c_M_trims 24 = .ok (.getfield 19, 3) := by decide +kernel
theorem d_M_trims_27 : decode c_M_trims 27 = .ok (.iload_n 3, 1) := by decide +kernel
theorem d_M_trims_28 : decode c_M_trims 28 = .ok (.iconst 2, 1) := by decide +kernel
theorem d_M_trims_29 : decode c_M_trims 29 = .ok (.iadd, 1) := by decide +kernel
theorem d_M_trims_30 : decode c_M_trims 30 = .ok (.iaload, 1) := by decide +kernel
theorem d_M_trims_31 : decode c_M_trims 31 = .ok (.istore 4, 2) := by decide +kernel
theorem d_M_trims_33 : decode c_M_trims 33 = .ok (.aload_n 0, 1) := by decide +kernel
theorem d_M_trims_34 : decode c_M_trims 34 = .ok (.getfield 56, 3) := by decide +kernel
theorem d_M_trims_37 : decode c_M_trims 37 = .ok (.istore 5, 2) := by decide +kernel
theorem d_M_trims_39 : decode c_M_trims 39 = .ok (.iload 5, 2) := by decide +kernel
theorem d_M_trims_41 : decode c_M_trims 41 = .ok (.iload 4, 2) := by decide +kernel
theorem d_M_trims_43 : decode c_M_trims 43 = .ok (.if_icmp .le 24, 3) := by decide +kernel
theorem d_M_trims_46 : decode c_M_trims 46 = .ok (.aload_n 0, 1) := by decide +kernel
theorem d_M_trims_47 : decode c_M_trims 47 = .ok (.getfield 22, 3) := by decide +kernel
theorem d_M_trims_50 : decode c_M_trims 50 = .ok (.iload 5, 2) := by decide +kernel
theorem d_M_trims_52 : decode c_M_trims 52 = .ok (.iconst 1, 1) := by decide +kernel
theorem d_M_trims_53 : decode c_M_trims 53 = .ok (.isub, 1) := by decide +kernel
theorem d_M_trims_54 : decode c_M_trims 54 = .ok (.iaload, 1) := by decide +kernel
theorem d_M_trims_55 : decode c_M_trims 55 = .ok (.invokestatic 62, 3) := by decide +kernel
theorem d_M_trims_58 : decode c_M_trims 58 = .ok (.ifCond .eq 9, 3) := by decide +kernel
theorem d_M_trims_61 : decode c_M_trims 61 = .ok (.iinc 5 (-1), 3) := by decide +kernel
theorem d_M_trims_64 : decode c_M_trims 64 = .ok (.goto (-25), 3) := by decide +kernel
theorem d_M_trims_67 : decode c_M_trims 67 = .ok (.iload 4, 2) := by decide +kernel
theorem d_M_trims_69 : decode c_M_trims 69 = .ok (.iload 5, 2) := by decide +kernel
theorem d_M_trims_71 : decode c_M_trims 71 = .ok (.if_icmp .ge 22, 3) := by decide +kernel
theorem d_M_trims_74 : decode c_M_trims 74 = .ok (.aload_n 0, 1) := by decide +kernel
theorem d_M_trims_75 : decode c_M_trims 75 = .ok (.getfield 22, 3) := by decide +kernel
theorem d_M_trims_78 : decode c_M_trims 78 = .ok (.iload 4, 2) := by decide +kernel
theorem d_M_trims_80 : decode c_M_trims 80 = .ok (.iaload, 1) := by decide +kernel
theorem d_M_trims_81 : decode c_M_trims 81 = .ok (.invokestatic 62, 3) := by decide +kernel
theorem d_M_trims_84 : decode c_M_trims 84 = .ok (.ifCond .eq 9, 3) := by decide +kernel
theorem d_M_trims_87 : decode c_M_trims 87 = .ok (.iinc 4 1, 3) := by decide +kernel
theorem d_M_trims_90 : decode c_M_trims 90 = .ok (.goto (-23), 3) := by decide +kernel
theorem d_M_trims_93 : decode c_M_trims 93 = .ok (.aload_n 0, 1) := by decide +kernel
theorem d_M_trims_94 : decode c_M_trims 94 = .ok (.getfield 19, 3) := by decide +kernel
theorem d_M_trims_97 : decode c_M_trims 97 = .ok (.iload_n 3, 1) := by decide +kernel
theorem d_M_trims_98 : decode c_M_trims 98 = .ok (.iconst 2, 1) := by decide +kernel
theorem d_M_trims_99 : decode c_M_trims 99 = .ok (.iadd, 1) := by decide +kernel
theorem d_M_trims_100 : decode c_M_trims 100 = .ok (.iload 4, 2) := by decide +kernel
theorem d_M_trims_102 : decode c_M_trims 102 = .ok (.iastore, 1) := by decide +kernel
theorem d_M_trims_103 : decode c_M_trims 103 = .ok (.aload_n 0, 1) := by decide +kernel
theorem d_M_trims_104 : decode c_M_trims 104 = .ok (.getfield 19, 3) := by decide +kernel
theorem d_M_trims_107 : decode c_M_trims 107 = .ok (.iload_n 3, 1) := by decide +kernel
theorem d_M_trims_108 : decode c_M_trims 108 = .ok (.iconst 3, 1) := by decide +kernel
theorem d_M_trims_109 : decode c_M_trims 109 = .ok (.iadd, 1) := by decide +kernel
theorem d_M_trims_110 : decode c_M_trims 110 = .ok (.iload 5, 2) := by decide +kernel
theorem d_M_trims_112 : decode c_M_trims 112 = .ok (.iload 4, 2) := by decide +kernel
theorem d_M_trims_114 : decode c_M_trims 114 = .ok (.isub, 1) := by decide +kernel
theorem d_M_trims_115 : decode c_M_trims 115 = .ok (.iastore, 1) := by decide +kernel
theorem d_M_trims_116 : decode c_M_trims 116 = .ok (.return_, 1) := by decide +kernel
theorem d_M_isBlank_0 : decode c_M_isBlank 0 = .ok (.iload_n 0, 1) := by decide +kernel
theorem d_M_isBlank_1 : decode c_M_isBlank 1 = .ok (.bipush 32, 2) := by decide +kernel
theorem d_M_isBlank_3 : decode c_M_isBlank 3 = .ok (.if_icmp .eq 9, 3) := by decide +kernel
theorem d_M_isBlank_6 : decode c_M_isBlank 6 = .ok (.iload_n 0, 1) := by decide +kernel
theorem d_M_isBlank_7 : decode c_M_isBlank 7 = .ok (.bipush 9, 2) := by decide +kernel
theorem d_M_isBlank_9 : decode c_M_isBlank 9 = .ok (.if_icmp .ne 7, 3) := by decide +kernel
theorem d_M_isBlank_12 : decode c_M_isBlank 12 = .ok (.iconst 1, 1) := by decide +kernel
theorem d_M_isBlank_13 : decode c_M_isBlank 13 = .ok (.goto 4, 3) := by decide +kernel
theorem d_M_isBlank_16 : decode c_M_isBlank 16 = .ok (.iconst 0, 1) := by decide +kernel
theorem d_M_isBlank_17 : decode c_M_isBlank 17 = .ok (.ireturn, 1) := by decide +kernel
theorem d_M_nameSize_0 : decode c_M_nameSize 0 = .ok (.iload_n 1, 1) := by decide +kernel
theorem d_M_nameSize_1 : decode c_M_nameSize 1 = .ok (.istore_n 3, 1) := by decide +kernel
theorem d_M_nameSize_2 : decode c_M_nameSize 2 = .ok (.iload_n 3, 1) := by decide +kernel
theorem d_M_nameSize_3 : decode c_M_nameSize 3 = .ok (.iload_n 2, 1) := by decide +kernel
theorem d_M_nameSize_4 : decode c_M_nameSize 4 = .ok (.if_icmp .ge 42, 3) := by decide +kernel
theorem d_M_nameSize_7 : decode c_M_nameSize 7 = .ok (.aload_n 0, 1) := by decide +kernel
theorem d_M_nameSize_8 : decode c_M_nameSize 8 = .ok (.getfield 13, 3) := by decide +kernel
theorem d_M_nameSize_11 : decode c_M_nameSize 11 = .ok (.iload_n 3, 1) := by decide +kernel
theorem d_M_nameSize_12 : decode c_M_nameSize 12 = .ok (.iaload, 1) := by decide +kernel
theorem d_M_nameSize_13 : decode c_M_nameSize 13 = .ok (.bipush 32, 2) := by decide +kernel
theorem d_M_nameSize_15 : decode c_M_nameSize 15 = .ok (.if_icmp .le 31, 3) := by decide +kernel
theorem d_M_nameSize_18 : decode c_M_nameSize 18 = .ok (.aload_n 0, 1) := by decide +kernel
theorem d_M_nameSize_19 : decode c_M_nameSize 19 = .ok (.getfield 13, 3) := by decide +kernel
theorem d_M_nameSize_22 : decode c_M_nameSize 22 = .ok (.iload_n 3, 1) := by decide +kernel
theorem d_M_nameSize_23 : decode c_M_nameSize 23 = .ok (.iaload, 1) := by decide +kernel
theorem d_M_nameSize_24 : decode c_M_nameSize 24 = .ok (.bipush 127, 2) := by decide +kernel
theorem d_M_nameSize_26 : decode c_M_nameSize 26 = .ok (.if_icmp .ge 20, 3) := by decide +kernel
theorem d_M_nameSize_29 : decode c_M_nameSize 29 = .ok (.aload_n 0, 1) := by decide +kernel
theorem d_M_nameSize_30 : decode c_M_nameSize 30 = .ok (.getfield 13, 3) := by decide +kernel
theorem d_M_nameSize_33 : decode c_M_nameSize 33 = .ok (.iload_n 3, 1) := by decide +kernel
theorem d_M_nameSize_34 : decode c_M_nameSize 34 = .ok (.iaload, 1) := by decide +kernel
theorem d_M_nameSize_35 : decode c_M_nameSize 35 = .ok (.bipush 58, 2) := by decide +kernel
theorem d_M_nameSize_37 : decode c_M_nameSize 37 = .ok (.if_icmp .eq 9, 3) := by decide +kernel
theorem d_M_nameSize_40 : decode c_M_nameSize 40 = .ok (.iinc 3 1, 3) := by decide +kernel
theorem d_M_nameSize_43 : decode c_M_nameSize 43 = .ok (.goto (-41), 3) := by decide +kernel
theorem d_M_nameSize_46 : decode c_M_nameSize 46 = .ok (.iload_n 3, 1) := by decide +kernel
theorem d_M_nameSize_47 : decode c_M_nameSize 47 = .ok (.iload_n 2, 1) := by decide +kernel
theorem d_M_nameSize_48 : decode c_M_nameSize 48 = .ok (.if_icmp .ge 20, 3) := by decide +kernel
theorem d_M_nameSize_51 : decode c_M_nameSize 51 = .ok (.aload_n 0, 1) := by decide +kernel
theorem d_M_nameSize_52 : decode c_M_nameSize 52 = .ok (.getfield 13, 3) := by decide +kernel
theorem d_M_nameSize_55 : decode c_M_nameSize 55 = .ok (.iload_n 3, 1) := by decide +kernel
theorem d_M_nameSize_56 : decode c_M_nameSize 56 = .ok (.iaload, 1) := by decide +kernel
theorem d_M_nameSize_57 : decode c_M_nameSize 57 = .ok (.bipush 58, 2) := by decide +kernel
theorem d_M_nameSize_59 : decode c_M_nameSize 59 = .ok (.if_icmp .ne 9, 3) := by decide +kernel
theorem d_M_nameSize_62 : decode c_M_nameSize 62 = .ok (.iload_n 3, 1) := by decide +kernel
theorem d_M_nameSize_63 : decode c_M_nameSize 63 = .ok (.iload_n 1, 1) := by decide +kernel
theorem d_M_nameSize_64 : decode c_M_nameSize 64 = .ok (.isub, 1) := by decide +kernel
theorem d_M_nameSize_65 : decode c_M_nameSize 65 = .ok (.goto 4, 3) := by decide +kernel
theorem d_M_nameSize_68 : decode c_M_nameSize 68 = .ok (.iconst 0, 1) := by decide +kernel
theorem d_M_nameSize_69 : decode c_M_nameSize 69 = .ok (.ireturn, 1) := by decide +kernel
theorem d_M_begins_0 : decode c_M_begins 0 = .ok (.iconst 4, 1) := by decide +kernel
theorem d_M_begins_1 : decode c_M_begins 1 = .ok (.bipush 8, 2) := by decide +kernel
theorem d_M_begins_3 : decode c_M_begins 3 = .ok (.iload_n 1, 1) := by decide +kernel
theorem d_M_begins_4 : decode c_M_begins 4 = .ok (.imul, 1) := by decide +kernel
theorem d_M_begins_5 : decode c_M_begins 5 = .ok (.aload_n 0, 1) := by decide +kernel
theorem d_M_begins_6 : decode c_M_begins 6 = .ok (.iload_n 1, 1) := by decide +kernel
theorem d_M_begins_7 : decode c_M_begins 7 = .ok (.iconst 3, 1) := by decide +kernel
theorem d_M_begins_8 : decode c_M_begins 8 = .ok (.invokevirtual 59, 3) := by decide +kernel
theorem d_M_begins_11 : decode c_M_begins 11 = .ok (.iadd, 1) := by decide +kernel
theorem d_M_begins_12 : decode c_M_begins 12 = .ok (.imul, 1) := by decide +kernel
theorem d_M_begins_13 : decode c_M_begins 13 = .ok (.istore 5, 2) := by decide +kernel
theorem d_M_begins_15 : decode c_M_begins 15 = .ok (.aload_n 0, 1) := by decide +kernel
theorem d_M_begins_16 : decode c_M_begins 16 = .ok (.getfield 19, 3) := by decide +kernel
theorem d_M_begins_19 : decode c_M_begins 19 = .ok (.iload 5, 2) := by decide +kernel
theorem d_M_begins_21 : decode c_M_begins 21 = .ok (.aload_n 0, 1) := by decide +kernel
theorem d_M_begins_22 : decode c_M_begins 22 = .ok (.getfield 56, 3) := by decide +kernel
theorem d_M_begins_25 : decode c_M_begins 25 = .ok (.iastore, 1) := by decide +kernel
theorem d_M_begins_26 : decode c_M_begins 26 = .ok (.aload_n 0, 1) := by decide +kernel
theorem d_M_begins_27 : decode c_M_begins 27 = .ok (.getfield 19, 3) := by decide +kernel
theorem d_M_begins_30 : decode c_M_begins 30 = .ok (.iload 5, 2) := by decide +kernel
theorem d_M_begins_32 : decode c_M_begins 32 = .ok (.iconst 1, 1) := by decide +kernel
theorem d_M_begins_33 : decode c_M_begins 33 = .ok (.iadd, 1) := by decide +kernel
theorem d_M_begins_34 : decode c_M_begins 34 = .ok (.iload_n 3, 1) := by decide +kernel
theorem d_M_begins_35 : decode c_M_begins 35 = .ok (.iastore, 1) := by decide +kernel
theorem d_M_begins_36 : decode c_M_begins 36 = .ok (.iload_n 2, 1) := by decide +kernel
theorem d_M_begins_37 : decode c_M_begins 37 = .ok (.istore 6, 2) := by decide +kernel
theorem d_M_begins_39 : decode c_M_begins 39 = .ok (.iload 6, 2) := by decide +kernel
theorem d_M_begins_41 : decode c_M_begins 41 = .ok (.iload_n 2, 1) := by decide +kernel
theorem d_M_begins_42 : decode c_M_begins 42 = .ok (.iload_n 3, 1) := by decide +kernel
theorem d_M_begins_43 : decode c_M_begins 43 = .ok (.iadd, 1) := by decide +kernel
theorem d_M_begins_44 : decode c_M_begins 44 = .ok (.if_icmp .ge 20, 3) := by decide +kernel
theorem d_M_begins_47 : decode c_M_begins 47 = .ok (.aload_n 0, 1) := by decide +kernel
theorem d_M_begins_48 : decode c_M_begins 48 = .ok (.aload_n 0, 1) := by decide +kernel
theorem d_M_begins_49 : decode c_M_begins 49 = .ok (.getfield 13, 3) := by decide +kernel
theorem d_M_begins_52 : decode c_M_begins 52 = .ok (.iload 6, 2) := by decide +kernel
theorem d_M_begins_54 : decode c_M_begins 54 = .ok (.iaload, 1) := by decide +kernel
theorem d_M_begins_55 : decode c_M_begins 55 = .ok (.invokevirtual 66, 3) := by decide +kernel
theorem d_M_begins_58 : decode c_M_begins 58 = .ok (.iinc 6 1, 3) := by decide +kernel
theorem d_M_begins_61 : decode c_M_begins 61 = .ok (.goto (-22), 3) := by decide +kernel
theorem d_M_begins_64 : decode c_M_begins 64 = .ok (.aload_n 0, 1) := by decide +kernel
theorem d_M_begins_65 : decode c_M_begins 65 = .ok (.getfield 19, 3) := by decide +kernel
theorem d_M_begins_68 : decode c_M_begins 68 = .ok (.iload 5, 2) := by decide +kernel
theorem d_M_begins_70 : decode c_M_begins 70 = .ok (.iconst 2, 1) := by decide +kernel
theorem d_M_begins_71 : decode c_M_begins 71 = .ok (.iadd, 1) := by decide +kernel
theorem d_M_begins_72 : decode c_M_begins 72 = .ok (.aload_n 0, 1) := by decide +kernel
theorem d_M_begins_73 : decode c_M_begins 73 = .ok (.getfield 56, 3) := by decide +kernel
theorem d_M_begins_76 : decode c_M_begins 76 = .ok (.iastore, 1) := by decide +kernel
theorem d_M_begins_77 : decode c_M_begins 77 = .ok (.iload_n 2, 1) := by decide +kernel
theorem d_M_begins_78 : decode c_M_begins 78 = .ok (.iload_n 3, 1) := by decide +kernel
theorem d_M_begins_79 : decode c_M_begins 79 = .ok (.iadd, 1) := by decide +kernel
theorem d_M_begins_80 : decode c_M_begins 80 = .ok (.iconst 1, 1) := by decide +kernel
theorem d_M_begins_81 : decode c_M_begins 81 = .ok (.iadd, 1) := by decide +kernel
theorem d_M_begins_82 : decode c_M_begins 82 = .ok (.istore 6, 2) := by decide +kernel
theorem d_M_begins_84 : decode c_M_begins 84 = .ok (.iload 6, 2) := by decide +kernel
theorem d_M_begins_86 : decode c_M_begins 86 = .ok (.iload 4, 2) := by decide +kernel
theorem d_M_begins_88 : decode c_M_begins 88 = .ok (.if_icmp .ge 20, 3) := by decide +kernel
theorem d_M_begins_91 : decode c_M_begins 91 = .ok (.aload_n 0, 1) := by decide +kernel
theorem d_M_begins_92 : decode c_M_begins 92 = .ok (.aload_n 0, 1) := by decide +kernel
theorem d_M_begins_93 : decode c_M_begins 93 = .ok (.getfield 13, 3) := by decide +kernel
theorem d_M_begins_96 : decode c_M_begins 96 = .ok (.iload 6, 2) := by decide +kernel
theorem d_M_begins_98 : decode c_M_begins 98 = .ok (.iaload, 1) := by decide +kernel
theorem d_M_begins_99 : decode c_M_begins 99 = .ok (.invokevirtual 66, 3) := by decide +kernel
theorem d_M_begins_102 : decode c_M_begins 102 = .ok (.iinc 6 1, 3) := by decide +kernel
theorem d_M_begins_105 : decode c_M_begins 105 = .ok (.goto (-21), 3) := by decide +kernel
theorem d_M_begins_108 : decode c_M_begins 108 = .ok (.aload_n 0, 1) := by decide +kernel
theorem d_M_begins_109 : decode c_M_begins 109 = .ok (.iload_n 1, 1) := by decide +kernel
theorem d_M_begins_110 : decode c_M_begins 110 = .ok (.iconst 3, 1) := by decide +kernel
theorem d_M_begins_111 : decode c_M_begins 111 = .ok (.aload_n 0, 1) := by decide +kernel
theorem d_M_begins_112 : decode c_M_begins 112 = .ok (.iload_n 1, 1) := by decide +kernel
theorem d_M_begins_113 : decode c_M_begins 113 = .ok (.iconst 3, 1) := by decide +kernel
theorem d_M_begins_114 : decode c_M_begins 114 = .ok (.invokevirtual 59, 3) := by decide +kernel
theorem d_M_begins_117 : decode c_M_begins 117 = .ok (.iconst 1, 1) := by decide +kernel
theorem d_M_begins_118 : decode c_M_begins 118 = .ok (.iadd, 1) := by decide +kernel
theorem d_M_begins_119 : decode c_M_begins 119 = .ok (.invokevirtual 70, 3) := by decide +kernel
theorem d_M_begins_122 : decode c_M_begins 122 = .ok (.return_, 1) := by decide +kernel
theorem d_M_keep_0 : decode c_M_keep 0 = .ok (.aload_n 0, 1) := by decide +kernel
theorem d_M_keep_1 : decode c_M_keep 1 = .ok (.getfield 22, 3) := by decide +kernel
theorem d_M_keep_4 : decode c_M_keep 4 = .ok (.aload_n 0, 1) := by decide +kernel
theorem d_M_keep_5 : decode c_M_keep 5 = .ok (.getfield 56, 3) := by decide +kernel
theorem d_M_keep_8 : decode c_M_keep 8 = .ok (.iload_n 1, 1) := by decide +kernel
theorem d_M_keep_9 : decode c_M_keep 9 = .ok (.iastore, 1) := by decide +kernel
theorem d_M_keep_10 : decode c_M_keep 10 = .ok (.aload_n 0, 1) := by decide +kernel
theorem d_M_keep_11 : decode c_M_keep 11 = .ok (.dup, 1) := by decide +kernel
theorem d_M_keep_12 : decode c_M_keep 12 = .ok (.getfield 56, 3) := by decide +kernel
theorem d_M_keep_15 : decode c_M_keep 15 = .ok (.iconst 1, 1) := by decide +kernel
theorem d_M_keep_16 : decode c_M_keep 16 = .ok (.iadd, 1) := by decide +kernel
theorem d_M_keep_17 : decode c_M_keep 17 = .ok (.putfield 56, 3) := by decide +kernel
theorem d_M_keep_20 : decode c_M_keep 20 = .ok (.return_, 1) := by decide +kernel
theorem d_M_encoding_0 : decode c_M_encoding 0 = .ok (.aload_n 0, 1) := by decide +kernel
theorem d_M_encoding_1 : decode c_M_encoding 1 = .ok (.iload_n 1, 1) := by decide +kernel
theorem d_M_encoding_2 : decode c_M_encoding 2 = .ok (.ldc2_w 123, 3) := by decide +kernel
theorem d_M_encoding_5 : decode c_M_encoding 5 = .ok (.ldc2_w 125, 3) := by decide +kernel
theorem d_M_encoding_8 : decode c_M_encoding 8 = .ok (.ldc2_w 127, 3) := by decide +kernel
theorem d_M_encoding_11 : decode c_M_encoding 11 = .ok (.invokevirtual 129, 3) := by decide +kernel
theorem d_M_encoding_14 : decode c_M_encoding 14 = .ok (.istore_n 2, 1) := by decide +kernel
theorem d_M_encoding_15 : decode c_M_encoding 15 = .ok (.iload_n 2, 1) := by decide +kernel
theorem d_M_encoding_16 : decode c_M_encoding 16 = .ok (.ifCond .ge 5, 3) := by decide +kernel
theorem d_M_encoding_19 : decode c_M_encoding 19 = .ok (.iconst 0, 1) := by decide +kernel
theorem d_M_encoding_20 : decode c_M_encoding 20 = .ok (.ireturn, 1) := by decide +kernel
theorem d_M_encoding_21 : decode c_M_encoding 21 = .ok (.aload_n 0, 1) := by decide +kernel
theorem d_M_encoding_22 : decode c_M_encoding 22 = .ok (.iload_n 1, 1) := by decide +kernel
theorem d_M_encoding_23 : decode c_M_encoding 23 = .ok (.iload_n 2, 1) := by decide +kernel
theorem d_M_encoding_24 : decode c_M_encoding 24 = .ok (.invokevirtual 133, 3) := by decide +kernel
theorem d_M_encoding_27 : decode c_M_encoding 27 = .ok (.aload_n 0, 1) := by decide +kernel
theorem d_M_encoding_28 : decode c_M_encoding 28 = .ok (.invokevirtual 137, 3) := by decide +kernel
theorem d_M_encoding_31 : decode c_M_encoding 31 = .ok (.aload_n 0, 1) := by decide +kernel
theorem d_M_encoding_32 : decode c_M_encoding 32 = .ok (.invokevirtual 140, 3) := by decide +kernel
theorem d_M_encoding_35 : decode c_M_encoding 35 = .ok (.ifCond .ne 5, 3) := by decide +kernel
theorem d_M_encoding_38 : decode c_M_encoding 38 = .ok (.iconst 0, 1) := by decide +kernel
theorem d_M_encoding_39 : decode c_M_encoding 39 = .ok (.ireturn, 1) := by decide +kernel
theorem d_M_encoding_40 : decode c_M_encoding 40 = .ok (.aload_n 0, 1) := by decide +kernel
theorem d_M_encoding_41 : decode c_M_encoding 41 = .ok (.getfield 106, 3) := by decide +kernel
theorem d_M_encoding_44 : decode c_M_encoding 44 = .ok (.istore_n 3, 1) := by decide +kernel
theorem d_M_encoding_45 : decode c_M_encoding 45 = .ok (.aload_n 0, 1) := by decide +kernel
theorem d_M_encoding_46 : decode c_M_encoding 46 = .ok (.getfield 112, 3) := by decide +kernel
theorem d_M_encoding_49 : decode c_M_encoding 49 = .ok (.istore 4, 2) := by decide +kernel
theorem d_M_encoding_51 : decode c_M_encoding 51 = .ok (.aload_n 0, 1) := by decide +kernel
theorem d_M_encoding_52 : decode c_M_encoding 52 = .ok (.invokevirtual 137, 3) := by decide +kernel
theorem d_M_encoding_55 : decode c_M_encoding 55 = .ok (.aload_n 0, 1) := by decide +kernel
theorem d_M_encoding_56 : decode c_M_encoding 56 = .ok (.getfield 93, 3) := by decide +kernel
theorem d_M_encoding_59 : decode c_M_encoding 59 = .ok (.aload_n 0, 1) := by decide +kernel
theorem d_M_encoding_60 : decode c_M_encoding 60 = .ok (.getfield 96, 3) := by decide +kernel
theorem d_M_encoding_63 : decode c_M_encoding 63 = .ok (.if_icmp .ge 5, 3) := by decide +kernel
theorem d_M_encoding_66 : decode c_M_encoding 66 = .ok (.iconst 0, 1) := by decide +kernel
theorem d_M_encoding_67 : decode c_M_encoding 67 = .ok (.ireturn, 1) := by decide +kernel
theorem d_M_encoding_68 : decode c_M_encoding 68 = .ok (.aload_n 0, 1) := by decide +kernel
theorem d_M_encoding_69 : decode c_M_encoding 69 = .ok (.iload_n 3, 1) := by decide +kernel
theorem d_M_encoding_70 : decode c_M_encoding 70 = .ok (.iload 4, 2) := by decide +kernel
theorem d_M_encoding_72 : decode c_M_encoding 72 = .ok (.ldc2_w 144, 3) := by decide +kernel
theorem d_M_encoding_75 : decode c_M_encoding 75 = .ok (.lconst 0, 1) := by decide +kernel
theorem d_M_encoding_76 : decode c_M_encoding 76 = .ok (.lconst 0, 1) := by decide +kernel
theorem d_M_encoding_77 : decode c_M_encoding 77 = .ok (.invokevirtual 119, 3) := by decide +kernel
theorem d_M_encoding_80 : decode c_M_encoding 80 = .ok (.ifCond .eq 7, 3) := by decide +kernel
end
section
theorem d_M_encoding_83 : decode c_M_encoding 83 = .ok (.iconst 1, 1) := by decide +kernel
theorem d_M_encoding_84 : decode c_M_encoding 84 = .ok (.goto 25, 3) := by decide +kernel
theorem d_M_encoding_87 : decode c_M_encoding 87 = .ok (.aload_n 0, 1) := by decide +kernel
theorem d_M_encoding_88 : decode c_M_encoding 88 = .ok (.iload_n 3, 1) := by decide +kernel
theorem d_M_encoding_89 : decode c_M_encoding 89 = .ok (.iload 4, 2) := by decide +kernel
theorem d_M_encoding_91 : decode c_M_encoding 91 = .ok (.ldc2_w 146, 3) := by decide +kernel
theorem d_M_encoding_94 : decode c_M_encoding 94 = .ok (.ldc2_w 148, 3) := by decide +kernel
theorem d_M_encoding_97 : decode c_M_encoding 97 = .ok (.lconst 0, 1) := by decide +kernel
theorem d_M_encoding_98 : decode c_M_encoding 98 = .ok (.invokevirtual 119, 3) := by decide +kernel
theorem d_M_encoding_101 : decode c_M_encoding 101 = .ok (.ifCond .eq 7, 3) := by decide +kernel
theorem d_M_encoding_104 : decode c_M_encoding 104 = .ok (.iconst 2, 1) := by decide +kernel
theorem d_M_encoding_105 : decode c_M_encoding 105 = .ok (.goto 4, 3) := by decide +kernel
theorem d_M_encoding_108 : decode c_M_encoding 108 = .ok (.iconst 0, 1) := by decide +kernel
theorem d_M_encoding_109 : decode c_M_encoding 109 = .ok (.ireturn, 1) := by decide +kernel
theorem d_M_firstField_0 : decode c_M_firstField 0 = .ok (.iconst 0, 1) := by decide +kernel
theorem d_M_firstField_1 : decode c_M_firstField 1 = .ok (.istore 8, 2) := by decide +kernel
theorem d_M_firstField_3 : decode c_M_firstField 3 = .ok (.iload 8, 2) := by decide +kernel
theorem d_M_firstField_5 : decode c_M_firstField 5 = .ok (.aload_n 0, 1) := by decide +kernel
theorem d_M_firstField_6 : decode c_M_firstField 6 = .ok (.iload_n 1, 1) := by decide +kernel
theorem d_M_firstField_7 : decode c_M_firstField 7 = .ok (.iconst 3, 1) := by decide +kernel
theorem d_M_firstField_8 : decode c_M_firstField 8 = .ok (.invokevirtual 59, 3) := by decide +kernel
theorem d_M_firstField_11 : decode c_M_firstField 11 = .ok (.if_icmp .ge 40, 3) := by decide +kernel
theorem d_M_firstField_14 : decode c_M_firstField 14 = .ok (.aload_n 0, 1) := by decide +kernel
theorem d_M_firstField_15 : decode c_M_firstField 15 = .ok (.aload_n 0, 1) := by decide +kernel
theorem d_M_firstField_16 : decode c_M_firstField 16 = .ok (.iload_n 1, 1) := by decide +kernel
theorem d_M_firstField_17 : decode c_M_firstField 17 = .ok (.iload 8, 2) := by decide +kernel
theorem d_M_firstField_19 : decode c_M_firstField 19 = .ok (.iconst 0, 1) := by decide +kernel
theorem d_M_firstField_20 : decode c_M_firstField 20 = .ok (.invokevirtual 115, 3) := by decide +kernel
theorem d_M_firstField_23 : decode c_M_firstField 23 = .ok (.aload_n 0, 1) := by decide +kernel
theorem d_M_firstField_24 : decode c_M_firstField 24 = .ok (.iload_n 1, 1) := by decide +kernel
theorem d_M_firstField_25 : decode c_M_firstField 25 = .ok (.iload 8, 2) := by decide +kernel
theorem d_M_firstField_27 : decode c_M_firstField 27 = .ok (.iconst 1, 1) := by decide +kernel
theorem d_M_firstField_28 : decode c_M_firstField 28 = .ok (.invokevirtual 115, 3) := by decide +kernel
theorem d_M_firstField_31 : decode c_M_firstField 31 = .ok (.lload_n 2, 1) := by decide +kernel
theorem d_M_firstField_32 : decode c_M_firstField 32 = .ok (.lload 4, 2) := by decide +kernel
theorem d_M_firstField_34 : decode c_M_firstField 34 = .ok (.lload 6, 2) := by decide +kernel
theorem d_M_firstField_36 : decode c_M_firstField 36 = .ok (.invokevirtual 119, 3) := by decide +kernel
theorem d_M_firstField_39 : decode c_M_firstField 39 = .ok (.ifCond .eq 6, 3) := by decide +kernel
theorem d_M_firstField_42 : decode c_M_firstField 42 = .ok (.iload 8, 2) := by decide +kernel
theorem d_M_firstField_44 : decode c_M_firstField 44 = .ok (.ireturn, 1) := by decide +kernel
theorem d_M_firstField_45 : decode c_M_firstField 45 = .ok (.iinc 8 1, 3) := by decide +kernel
theorem d_M_firstField_48 : decode c_M_firstField 48 = .ok (.goto (-45), 3) := by decide +kernel
theorem d_M_firstField_51 : decode c_M_firstField 51 = .ok (.iconst (-1), 1) := by decide +kernel
theorem d_M_firstField_52 : decode c_M_firstField 52 = .ok (.ireturn, 1) := by decide +kernel
theorem d_M_fieldOf_0 : decode c_M_fieldOf 0 = .ok (.aload_n 0, 1) := by decide +kernel
theorem d_M_fieldOf_1 : decode c_M_fieldOf 1 = .ok (.getfield 19, 3) := by decide +kernel
theorem d_M_fieldOf_4 : decode c_M_fieldOf 4 = .ok (.iconst 4, 1) := by decide +kernel
theorem d_M_fieldOf_5 : decode c_M_fieldOf 5 = .ok (.bipush 8, 2) := by decide +kernel
theorem d_M_fieldOf_7 : decode c_M_fieldOf 7 = .ok (.iload_n 1, 1) := by decide +kernel
theorem d_M_fieldOf_8 : decode c_M_fieldOf 8 = .ok (.imul, 1) := by decide +kernel
theorem d_M_fieldOf_9 : decode c_M_fieldOf 9 = .ok (.iload_n 2, 1) := by decide +kernel
theorem d_M_fieldOf_10 : decode c_M_fieldOf 10 = .ok (.iadd, 1) := by decide +kernel
theorem d_M_fieldOf_11 : decode c_M_fieldOf 11 = .ok (.imul, 1) := by decide +kernel
theorem d_M_fieldOf_12 : decode c_M_fieldOf 12 = .ok (.iload_n 3, 1) := by decide +kernel
theorem d_M_fieldOf_13 : decode c_M_fieldOf 13 = .ok (.iadd, 1) := by decide +kernel
theorem d_M_fieldOf_14 : decode c_M_fieldOf 14 = .ok (.iaload, 1) := by decide +kernel
theorem d_M_fieldOf_15 : decode c_M_fieldOf 15 = .ok (.ireturn, 1) := by decide +kernel
theorem d_M_isWord_0 : decode c_M_isWord 0 = .ok (.iconst 0, 1) := by decide +kernel
theorem d_M_isWord_1 : decode c_M_isWord 1 = .ok (.istore 9, 2) := by decide +kernel
theorem d_M_isWord_3 : decode c_M_isWord 3 = .ok (.iconst 1, 1) := by decide +kernel
theorem d_M_isWord_4 : decode c_M_isWord 4 = .ok (.istore 10, 2) := by decide +kernel
theorem d_M_isWord_6 : decode c_M_isWord 6 = .ok (.iconst 0, 1) := by decide +kernel
theorem d_M_isWord_7 : decode c_M_isWord 7 = .ok (.istore 11, 2) := by decide +kernel
theorem d_M_isWord_9 : decode c_M_isWord 9 = .ok (.iload 11, 2) := by decide +kernel
theorem d_M_isWord_11 : decode c_M_isWord 11 = .ok (.bipush 27, 2) := by decide +kernel
theorem d_M_isWord_13 : decode c_M_isWord 13 = .ok (.if_icmp .ge 100, 3) := by decide +kernel
theorem d_M_isWord_16 : decode c_M_isWord 16 = .ok (.iload 11, 2) := by decide +kernel
theorem d_M_isWord_18 : decode c_M_isWord 18 = .ok (.bipush 9, 2) := by decide +kernel
theorem d_M_isWord_20 : decode c_M_isWord 20 = .ok (.if_icmp .ge 7, 3) := by decide +kernel
theorem d_M_isWord_23 : decode c_M_isWord 23 = .ok (.lload_n 3, 1) := by decide +kernel
theorem d_M_isWord_24 : decode c_M_isWord 24 = .ok (.goto 17, 3) := by decide +kernel
theorem d_M_isWord_27 : decode c_M_isWord 27 = .ok (.iload 11, 2) := by decide +kernel
theorem d_M_isWord_29 : decode c_M_isWord 29 = .ok (.bipush 18, 2) := by decide +kernel
theorem d_M_isWord_31 : decode c_M_isWord 31 = .ok (.if_icmp .ge 8, 3) := by decide +kernel
theorem d_M_isWord_34 : decode c_M_isWord 34 = .ok (.lload 5, 2) := by decide +kernel
theorem d_M_isWord_36 : decode c_M_isWord 36 = .ok (.goto 5, 3) := by decide +kernel
theorem d_M_isWord_39 : decode c_M_isWord 39 = .ok (.lload 7, 2) := by decide +kernel
theorem d_M_isWord_41 : decode c_M_isWord 41 = .ok (.lstore 12, 2) := by decide +kernel
theorem d_M_isWord_43 : decode c_M_isWord 43 = .ok (.lload 12, 2) := by decide +kernel
theorem d_M_isWord_45 : decode c_M_isWord 45 = .ok (.bipush 56, 2) := by decide +kernel
theorem d_M_isWord_47 : decode c_M_isWord 47 = .ok (.bipush 7, 2) := by decide +kernel
theorem d_M_isWord_49 : decode c_M_isWord 49 = .ok (.iload 11, 2) := by decide +kernel
theorem d_M_isWord_51 : decode c_M_isWord 51 = .ok (.bipush 9, 2) := by decide +kernel
theorem d_M_isWord_53 : decode c_M_isWord 53 = .ok (.irem, 1) := by decide +kernel
theorem d_M_isWord_54 : decode c_M_isWord 54 = .ok (.imul, 1) := by decide +kernel
theorem d_M_isWord_55 : decode c_M_isWord 55 = .ok (.isub, 1) := by decide +kernel
theorem d_M_isWord_56 : decode c_M_isWord 56 = .ok (.lshr, 1) := by decide +kernel
theorem d_M_isWord_57 : decode c_M_isWord 57 = .ok (.ldc2_w 87, 3) := by decide +kernel
theorem d_M_isWord_60 : decode c_M_isWord 60 = .ok (.land, 1) := by decide +kernel
theorem d_M_isWord_61 : decode c_M_isWord 61 = .ok (.l2i, 1) := by decide +kernel
theorem d_M_isWord_62 : decode c_M_isWord 62 = .ok (.istore 14, 2) := by decide +kernel
theorem d_M_isWord_64 : decode c_M_isWord 64 = .ok (.iload 14, 2) := by decide +kernel
theorem d_M_isWord_66 : decode c_M_isWord 66 = .ok (.ifCond .le 41, 3) := by decide +kernel
theorem d_M_isWord_69 : decode c_M_isWord 69 = .ok (.iload 10, 2) := by decide +kernel
theorem d_M_isWord_71 : decode c_M_isWord 71 = .ok (.ifCond .eq 30, 3) := by decide +kernel
theorem d_M_isWord_74 : decode c_M_isWord 74 = .ok (.iload 9, 2) := by decide +kernel
theorem d_M_isWord_76 : decode c_M_isWord 76 = .ok (.iload_n 2, 1) := by decide +kernel
theorem d_M_isWord_77 : decode c_M_isWord 77 = .ok (.if_icmp .ge 24, 3) := by decide +kernel
theorem d_M_isWord_80 : decode c_M_isWord 80 = .ok (.aload_n 0, 1) := by decide +kernel
theorem d_M_isWord_81 : decode c_M_isWord 81 = .ok (.getfield 22, 3) := by decide +kernel
theorem d_M_isWord_84 : decode c_M_isWord 84 = .ok (.iload_n 1, 1) := by decide +kernel
theorem d_M_isWord_85 : decode c_M_isWord 85 = .ok (.iload 9, 2) := by decide +kernel
theorem d_M_isWord_87 : decode c_M_isWord 87 = .ok (.iadd, 1) := by decide +kernel
theorem d_M_isWord_88 : decode c_M_isWord 88 = .ok (.iaload, 1) := by decide +kernel
theorem d_M_isWord_89 : decode c_M_isWord 89 = .ok (.invokestatic 89, 3) := by decide +kernel
theorem d_M_isWord_92 : decode c_M_isWord 92 = .ok (.iload 14, 2) := by decide +kernel
theorem d_M_isWord_94 : decode c_M_isWord 94 = .ok (.if_icmp .ne 7, 3) := by decide +kernel
theorem d_M_isWord_97 : decode c_M_isWord 97 = .ok (.iconst 1, 1) := by decide +kernel
theorem d_M_isWord_98 : decode c_M_isWord 98 = .ok (.goto 4, 3) := by decide +kernel
theorem d_M_isWord_101 : decode c_M_isWord 101 = .ok (.iconst 0, 1) := by decide +kernel
theorem d_M_isWord_102 : decode c_M_isWord 102 = .ok (.istore 10, 2) := by decide +kernel
theorem d_M_isWord_104 : decode c_M_isWord 104 = .ok (.iinc 9 1, 3) := by decide +kernel
theorem d_M_isWord_107 : decode c_M_isWord 107 = .ok (.iinc 11 1, 3) := by decide +kernel
theorem d_M_isWord_110 : decode c_M_isWord 110 = .ok (.goto (-101), 3) := by decide +kernel
theorem d_M_isWord_113 : decode c_M_isWord 113 = .ok (.iload 10, 2) := by decide +kernel
theorem d_M_isWord_115 : decode c_M_isWord 115 = .ok (.ifCond .eq 13, 3) := by decide +kernel
theorem d_M_isWord_118 : decode c_M_isWord 118 = .ok (.iload 9, 2) := by decide +kernel
theorem d_M_isWord_120 : decode c_M_isWord 120 = .ok (.iload_n 2, 1) := by decide +kernel
theorem d_M_isWord_121 : decode c_M_isWord 121 = .ok (.if_icmp .ne 7, 3) := by decide +kernel
theorem d_M_isWord_124 : decode c_M_isWord 124 = .ok (.iconst 1, 1) := by decide +kernel
theorem d_M_isWord_125 : decode c_M_isWord 125 = .ok (.goto 4, 3) := by decide +kernel
theorem d_M_isWord_128 : decode c_M_isWord 128 = .ok (.iconst 0, 1) := by decide +kernel
theorem d_M_isWord_129 : decode c_M_isWord 129 = .ok (.ireturn, 1) := by decide +kernel
theorem d_M_small_0 : decode c_M_small 0 = .ok (.iload_n 0, 1) := by decide +kernel
theorem d_M_small_1 : decode c_M_small 1 = .ok (.bipush 65, 2) := by decide +kernel
theorem d_M_small_3 : decode c_M_small 3 = .ok (.if_icmp .lt 16, 3) := by decide +kernel
theorem d_M_small_6 : decode c_M_small 6 = .ok (.iload_n 0, 1) := by decide +kernel
theorem d_M_small_7 : decode c_M_small 7 = .ok (.bipush 90, 2) := by decide +kernel
theorem d_M_small_9 : decode c_M_small 9 = .ok (.if_icmp .gt 10, 3) := by decide +kernel
theorem d_M_small_12 : decode c_M_small 12 = .ok (.iload_n 0, 1) := by decide +kernel
theorem d_M_small_13 : decode c_M_small 13 = .ok (.bipush 32, 2) := by decide +kernel
theorem d_M_small_15 : decode c_M_small 15 = .ok (.iadd, 1) := by decide +kernel
theorem d_M_small_16 : decode c_M_small 16 = .ok (.goto 4, 3) := by decide +kernel
theorem d_M_small_19 : decode c_M_small 19 = .ok (.iload_n 0, 1) := by decide +kernel
theorem d_M_small_20 : decode c_M_small 20 = .ok (.ireturn, 1) := by decide +kernel
theorem d_M_enter_0 : decode c_M_enter 0 = .ok (.aload_n 0, 1) := by decide +kernel
theorem d_M_enter_1 : decode c_M_enter 1 = .ok (.aload_n 0, 1) := by decide +kernel
theorem d_M_enter_2 : decode c_M_enter 2 = .ok (.iload_n 1, 1) := by decide +kernel
theorem d_M_enter_3 : decode c_M_enter 3 = .ok (.iload_n 2, 1) := by decide +kernel
theorem d_M_enter_4 : decode c_M_enter 4 = .ok (.iconst 2, 1) := by decide +kernel
theorem d_M_enter_5 : decode c_M_enter 5 = .ok (.invokevirtual 115, 3) := by decide +kernel
theorem d_M_enter_8 : decode c_M_enter 8 = .ok (.putfield 93, 3) := by decide +kernel
theorem d_M_enter_11 : decode c_M_enter 11 = .ok (.aload_n 0, 1) := by decide +kernel
theorem d_M_enter_12 : decode c_M_enter 12 = .ok (.aload_n 0, 1) := by decide +kernel
theorem d_M_enter_13 : decode c_M_enter 13 = .ok (.getfield 93, 3) := by decide +kernel
theorem d_M_enter_16 : decode c_M_enter 16 = .ok (.aload_n 0, 1) := by decide +kernel
theorem d_M_enter_17 : decode c_M_enter 17 = .ok (.iload_n 1, 1) := by decide +kernel
theorem d_M_enter_18 : decode c_M_enter 18 = .ok (.iload_n 2, 1) := by decide +kernel
theorem d_M_enter_19 : decode c_M_enter 19 = .ok (.iconst 3, 1) := by decide +kernel
theorem d_M_enter_20 : decode c_M_enter 20 = .ok (.invokevirtual 115, 3) := by decide +kernel
theorem d_M_enter_23 : decode c_M_enter 23 = .ok (.iadd, 1) := by decide +kernel
theorem d_M_enter_24 : decode c_M_enter 24 = .ok (.putfield 96, 3) := by decide +kernel
theorem d_M_enter_27 : decode c_M_enter 27 = .ok (.return_, 1) := by decide +kernel
theorem d_M_space_0 : decode c_M_space 0 = .ok (.iconst 1, 1) := by decide +kernel
theorem d_M_space_1 : decode c_M_space 1 = .ok (.istore_n 1, 1) := by decide +kernel
theorem d_M_space_2 : decode c_M_space 2 = .ok (.iload_n 1, 1) := by decide +kernel
theorem d_M_space_3 : decode c_M_space 3 = .ok (.ifCond .eq 47, 3) := by decide +kernel
theorem d_M_space_6 : decode c_M_space 6 = .ok (.aload_n 0, 1) := by decide +kernel
theorem d_M_space_7 : decode c_M_space 7 = .ok (.invokevirtual 99, 3) := by decide +kernel
theorem d_M_space_10 : decode c_M_space 10 = .ok (.invokestatic 62, 3) := by decide +kernel
theorem d_M_space_13 : decode c_M_space 13 = .ok (.ifCond .eq 16, 3) := by decide +kernel
theorem d_M_space_16 : decode c_M_space 16 = .ok (.aload_n 0, 1) := by decide +kernel
theorem d_M_space_17 : decode c_M_space 17 = .ok (.dup, 1) := by decide +kernel
theorem d_M_space_18 : decode c_M_space 18 = .ok (.getfield 93, 3) := by decide +kernel
theorem d_M_space_21 : decode c_M_space 21 = .ok (.iconst 1, 1) := by decide +kernel
theorem d_M_space_22 : decode c_M_space 22 = .ok (.iadd, 1) := by decide +kernel
theorem d_M_space_23 : decode c_M_space 23 = .ok (.putfield 93, 3) := by decide +kernel
theorem d_M_space_26 : decode c_M_space 26 = .ok (.goto (-24), 3) := by decide +kernel
theorem d_M_space_29 : decode c_M_space 29 = .ok (.aload_n 0, 1) := by decide +kernel
theorem d_M_space_30 : decode c_M_space 30 = .ok (.invokevirtual 99, 3) := by decide +kernel
theorem d_M_space_33 : decode c_M_space 33 = .ok (.bipush 40, 2) := by decide +kernel
theorem d_M_space_35 : decode c_M_space 35 = .ok (.if_icmp .ne 10, 3) := by decide +kernel
theorem d_M_space_38 : decode c_M_space 38 = .ok (.aload_n 0, 1) := by decide +kernel
theorem d_M_space_39 : decode c_M_space 39 = .ok (.invokevirtual 103, 3) := by decide +kernel
theorem d_M_space_42 : decode c_M_space 42 = .ok (.goto (-40), 3) := by decide +kernel
theorem d_M_space_45 : decode c_M_space 45 = .ok (.iconst 0, 1) := by decide +kernel
theorem d_M_space_46 : decode c_M_space 46 = .ok (.istore_n 1, 1) := by decide +kernel
theorem d_M_space_47 : decode c_M_space 47 = .ok (.goto (-45), 3) := by decide +kernel
theorem d_M_space_50 : decode c_M_space 50 = .ok (.return_, 1) := by decide +kernel
theorem d_M_now_0 : decode c_M_now 0 = .ok (.aload_n 0, 1) := by decide +kernel
theorem d_M_now_1 : decode c_M_now 1 = .ok (.getfield 93, 3) := by decide +kernel
theorem d_M_now_4 : decode c_M_now 4 = .ok (.aload_n 0, 1) := by decide +kernel
theorem d_M_now_5 : decode c_M_now 5 = .ok (.getfield 96, 3) := by decide +kernel
theorem d_M_now_8 : decode c_M_now 8 = .ok (.if_icmp .ge 15, 3) := by decide +kernel
theorem d_M_now_11 : decode c_M_now 11 = .ok (.aload_n 0, 1) := by decide +kernel
theorem d_M_now_12 : decode c_M_now 12 = .ok (.getfield 22, 3) := by decide +kernel
theorem d_M_now_15 : decode c_M_now 15 = .ok (.aload_n 0, 1) := by decide +kernel
theorem d_M_now_16 : decode c_M_now 16 = .ok (.getfield 93, 3) := by decide +kernel
theorem d_M_now_19 : decode c_M_now 19 = .ok (.iaload, 1) := by decide +kernel
theorem d_M_now_20 : decode c_M_now 20 = .ok (.goto 4, 3) := by decide +kernel
theorem d_M_now_23 : decode c_M_now 23 = .ok (.iconst (-1), 1) := by decide +kernel
theorem d_M_now_24 : decode c_M_now 24 = .ok (.ireturn, 1) := by decide +kernel
theorem d_M_comment_0 : decode c_M_comment 0 = .ok (.iconst 0, 1) := by decide +kernel
theorem d_M_comment_1 : decode c_M_comment 1 = .ok (.istore_n 1, 1) := by decide +kernel
theorem d_M_comment_2 : decode c_M_comment 2 = .ok (.aload_n 0, 1) := by decide +kernel
theorem d_M_comment_3 : decode c_M_comment 3 = .ok (.getfield 93, 3) := by decide +kernel
theorem d_M_comment_6 : decode c_M_comment 6 = .ok (.aload_n 0, 1) := by decide +kernel
theorem d_M_comment_7 : decode c_M_comment 7 = .ok (.getfield 96, 3) := by decide +kernel
theorem d_M_comment_10 : decode c_M_comment 10 = .ok (.if_icmp .ge 71, 3) := by decide +kernel
theorem d_M_comment_13 : decode c_M_comment 13 = .ok (.aload_n 0, 1) := by decide +kernel
theorem d_M_comment_14 : decode c_M_comment 14 = .ok (.getfield 22, 3) := by decide +kernel
theorem d_M_comment_17 : decode c_M_comment 17 = .ok (.aload_n 0, 1) := by decide +kernel
theorem d_M_comment_18 : decode c_M_comment 18 = .ok (.getfield 93, 3) := by decide +kernel
theorem d_M_comment_21 : decode c_M_comment 21 = .ok (.iaload, 1) := by decide +kernel
theorem d_M_comment_22 : decode c_M_comment 22 = .ok (.istore_n 2, 1) := by decide +kernel
theorem d_M_comment_23 : decode c_M_comment 23 = .ok (.aload_n 0, 1) := by decide +kernel
theorem d_M_comment_24 : decode c_M_comment 24 = .ok (.dup, 1) := by decide +kernel
theorem d_M_comment_25 : decode c_M_comment 25 = .ok (.getfield 93, 3) := by decide +kernel
theorem d_M_comment_28 : decode c_M_comment 28 = .ok (.iconst 1, 1) := by decide +kernel
theorem d_M_comment_29 : decode c_M_comment 29 = .ok (.iadd, 1) := by decide +kernel
theorem d_M_comment_30 : decode c_M_comment 30 = .ok (.putfield 93, 3) := by decide +kernel
theorem d_M_comment_33 : decode c_M_comment 33 = .ok (.iload_n 2, 1) := by decide +kernel
theorem d_M_comment_34 : decode c_M_comment 34 = .ok (.bipush 92, 2) := by decide +kernel
theorem d_M_comment_36 : decode c_M_comment 36 = .ok (.if_icmp .ne 16, 3) := by decide +kernel
theorem d_M_comment_39 : decode c_M_comment 39 = .ok (.aload_n 0, 1) := by decide +kernel
theorem d_M_comment_40 : decode c_M_comment 40 = .ok (.dup, 1) := by decide +kernel
theorem d_M_comment_41 : decode c_M_comment 41 = .ok (.getfield 93, 3) := by decide +kernel
theorem d_M_comment_44 : decode c_M_comment 44 = .ok (.iconst 1, 1) := by decide +kernel
theorem d_M_comment_45 : decode c_M_comment 45 = .ok (.iadd, 1) := by decide +kernel
theorem d_M_comment_46 : decode c_M_comment 46 = .ok (.putfield 93, 3) := by decide +kernel
theorem d_M_comment_49 : decode c_M_comment 49 = .ok (.goto 24, 3) := by decide +kernel
theorem d_M_comment_52 : decode c_M_comment 52 = .ok (.iload_n 2, 1) := by decide +kernel
theorem d_M_comment_53 : decode c_M_comment 53 = .ok (.bipush 40, 2) := by decide +kernel
theorem d_M_comment_55 : decode c_M_comment 55 = .ok (.if_icmp .ne 9, 3) := by decide +kernel
theorem d_M_comment_58 : decode c_M_comment 58 = .ok (.iinc 1 1, 3) := by decide +kernel
theorem d_M_comment_61 : decode c_M_comment 61 = .ok (.goto 12, 3) := by decide +kernel
theorem d_M_comment_64 : decode c_M_comment 64 = .ok (.iload_n 2, 1) := by decide +kernel
theorem d_M_comment_65 : decode c_M_comment 65 = .ok (.bipush 41, 2) := by decide +kernel
theorem d_M_comment_67 : decode c_M_comment 67 = .ok (.if_icmp .ne 6, 3) := by decide +kernel
theorem d_M_comment_70 : decode c_M_comment 70 = .ok (.iinc 1 (-1), 3) := by decide +kernel
theorem d_M_comment_73 : decode c_M_comment 73 = .ok (.iload_n 1, 1) := by decide +kernel
theorem d_M_comment_74 : decode c_M_comment 74 = .ok (.ifCond .ne 4, 3) := by decide +kernel
theorem d_M_comment_77 : decode c_M_comment 77 = .ok (.return_, 1) := by decide +kernel
theorem d_M_comment_78 : decode c_M_comment 78 = .ok (.goto (-76), 3) := by decide +kernel
theorem d_M_comment_81 : decode c_M_comment 81 = .ok (.aload_n 0, 1) := by decide +kernel
theorem d_M_comment_82 : decode c_M_comment 82 = .ok (.aload_n 0, 1) := by decide +kernel
theorem d_M_comment_83 : decode c_M_comment 83 = .ok (.getfield 96, 3) := by decide +kernel
theorem d_M_comment_86 : decode c_M_comment 86 = .ok (.putfield 93, 3) := by decide +kernel
theorem d_M_comment_89 : decode c_M_comment 89 = .ok (.return_, 1) := by decide +kernel
theorem d_M_atom_0 : decode c_M_atom 0 = .ok (.aload_n 0, 1) := by decide +kernel
theorem d_M_atom_1 : decode c_M_atom 1 = .ok (.aload_n 0, 1) := by decide +kernel
theorem d_M_atom_2 : decode c_M_atom 2 = .ok (.getfield 93, 3) := by decide +kernel
theorem d_M_atom_5 : decode c_M_atom 5 = .ok (.putfield 106, 3) := by decide +kernel
theorem d_M_atom_8 : decode c_M_atom 8 = .ok (.aload_n 0, 1) := by decide +kernel
theorem d_M_atom_9 : decode c_M_atom 9 = .ok (.invokevirtual 99, 3) := by decide +kernel
theorem d_M_atom_12 : decode c_M_atom 12 = .ok (.invokestatic 109, 3) := by decide +kernel
theorem d_M_atom_15 : decode c_M_atom 15 = .ok (.ifCond .eq 16, 3) := by decide +kernel
theorem d_M_atom_18 : decode c_M_atom 18 = .ok (.aload_n 0, 1) := by decide +kernel
theorem d_M_atom_19 : decode c_M_atom 19 = .ok (.dup, 1) := by decide +kernel
theorem d_M_atom_20 : decode c_M_atom 20 = .ok (.getfield 93, 3) := by decide +kernel
theorem d_M_atom_23 : decode c_M_atom 23 = .ok (.iconst 1, 1) := by decide +kernel
theorem d_M_atom_24 : decode c_M_atom 24 = .ok (.iadd, 1) := by decide +kernel
theorem d_M_atom_25 : decode c_M_atom 25 = .ok (.putfield 93, 3) := by decide +kernel
theorem d_M_atom_28 : decode c_M_atom 28 = .ok (.goto (-20), 3) := by decide +kernel
theorem d_M_atom_31 : decode c_M_atom 31 = .ok (.aload_n 0, 1) := by decide +kernel
theorem d_M_atom_32 : decode c_M_atom 32 = .ok (.aload_n 0, 1) := by decide +kernel
theorem d_M_atom_33 : decode c_M_atom 33 = .ok (.getfield 93, 3) := by decide +kernel
theorem d_M_atom_36 : decode c_M_atom 36 = .ok (.aload_n 0, 1) := by decide +kernel
theorem d_M_atom_37 : decode c_M_atom 37 = .ok (.getfield 106, 3) := by decide +kernel
theorem d_M_atom_40 : decode c_M_atom 40 = .ok (.isub, 1) := by decide +kernel
theorem d_M_atom_41 : decode c_M_atom 41 = .ok (.putfield 112, 3) := by decide +kernel
theorem d_M_atom_44 : decode c_M_atom 44 = .ok (.aload_n 0, 1) := by decide +kernel
theorem d_M_atom_45 : decode c_M_atom 45 = .ok (.getfield 112, 3) := by decide +kernel
theorem d_M_atom_48 : decode c_M_atom 48 = .ok (.ifCond .le 7, 3) := by decide +kernel
theorem d_M_atom_51 : decode c_M_atom 51 = .ok (.iconst 1, 1) := by decide +kernel
theorem d_M_atom_52 : decode c_M_atom 52 = .ok (.goto 4, 3) := by decide +kernel
theorem d_M_atom_55 : decode c_M_atom 55 = .ok (.iconst 0, 1) := by decide +kernel
theorem d_M_atom_56 : decode c_M_atom 56 = .ok (.ireturn, 1) := by decide +kernel
theorem d_M_isAtom_0 : decode c_M_isAtom 0 = .ok (.iload_n 0, 1) := by decide +kernel
theorem d_M_isAtom_1 : decode c_M_isAtom 1 = .ok (.bipush 33, 2) := by decide +kernel
theorem d_M_isAtom_3 : decode c_M_isAtom 3 = .ok (.if_icmp .lt 9, 3) := by decide +kernel
theorem d_M_isAtom_6 : decode c_M_isAtom 6 = .ok (.iload_n 0, 1) := by decide +kernel
theorem d_M_isAtom_7 : decode c_M_isAtom 7 = .ok (.bipush 126, 2) := by decide +kernel
theorem d_M_isAtom_9 : decode c_M_isAtom 9 = .ok (.if_icmp .le 5, 3) := by decide +kernel
theorem d_M_isAtom_12 : decode c_M_isAtom 12 = .ok (.iconst 0, 1) := by decide +kernel
theorem d_M_isAtom_13 : decode c_M_isAtom 13 = .ok (.ireturn, 1) := by decide +kernel
theorem d_M_isAtom_14 : decode c_M_isAtom 14 = .ok (.iload_n 0, 1) := by decide +kernel
theorem d_M_isAtom_15 : decode c_M_isAtom 15 = .ok (.tableswitch 255 34 93 #[253, 255, 255, 255, 255, 255, 253, 253, 255, 255, 253, 255, 255, 253, 255, 255, 255, 255, 255, 255, 255, 255, 255, 255, 253, 253, 253, 253, 253, 253, 253, 255, 255, 255, 255, 255, 255, 255, 255, 255, 255, 255, 255, 255, 255, 255, 255, 255, 255, 255, 255, 255, 255, 255, 255, 255, 255, 253, 253, 253], 253) := by decide +kernel
theorem d_M_isAtom_268 : decode c_M_isAtom 268 = .ok (.iconst 0, 1) := by decide +kernel
theorem d_M_isAtom_269 : decode c_M_isAtom 269 = .ok (.ireturn, 1) := by decide +kernel
theorem d_M_isAtom_270 : decode c_M_isAtom 270 = .ok (.iconst 1, 1) := by decide +kernel
theorem d_M_isAtom_271 : decode c_M_isAtom 271 = .ok (.ireturn, 1) := by decide +kernel
theorem d_M_kind_0 : decode c_M_kind 0 = .ok (.aload_n 0, 1) := by decide +kernel
theorem d_M_kind_1 : decode c_M_kind 1 = .ok (.iload_n 1, 1) := by decide +kernel
theorem d_M_kind_2 : decode c_M_kind 2 = .ok (.ldc2_w 123, 3) := by decide +kernel
theorem d_M_kind_5 : decode c_M_kind 5 = .ok (.ldc2_w 158, 3) := by decide +kernel
theorem d_M_kind_8 : decode c_M_kind 8 = .ok (.lconst 0, 1) := by decide +kernel
theorem d_M_kind_9 : decode c_M_kind 9 = .ok (.invokevirtual 129, 3) := by decide +kernel
theorem d_M_kind_12 : decode c_M_kind 12 = .ok (.istore_n 2, 1) := by decide +kernel
theorem d_M_kind_13 : decode c_M_kind 13 = .ok (.iload_n 2, 1) := by decide +kernel
theorem d_M_kind_14 : decode c_M_kind 14 = .ok (.ifCond .lt 13, 3) := by decide +kernel
theorem d_M_kind_17 : decode c_M_kind 17 = .ok (.aload_n 0, 1) := by decide +kernel
theorem d_M_kind_18 : decode c_M_kind 18 = .ok (.iload_n 1, 1) := by decide +kernel
theorem d_M_kind_19 : decode c_M_kind 19 = .ok (.iconst 1, 1) := by decide +kernel
theorem d_M_kind_20 : decode c_M_kind 20 = .ok (.invokevirtual 59, 3) := by decide +kernel
theorem d_M_kind_23 : decode c_M_kind 23 = .ok (.iconst 4, 1) := by decide +kernel
theorem d_M_kind_24 : decode c_M_kind 24 = .ok (.if_icmp .ne 5, 3) := by decide +kernel
theorem d_M_kind_27 : decode c_M_kind 27 = .ok (.iconst 0, 1) := by decide +kernel
theorem d_M_kind_28 : decode c_M_kind 28 = .ok (.ireturn, 1) := by decide +kernel
theorem d_M_kind_29 : decode c_M_kind 29 = .ok (.aload_n 0, 1) := by decide +kernel
theorem d_M_kind_30 : decode c_M_kind 30 = .ok (.iload_n 1, 1) := by decide +kernel
theorem d_M_kind_31 : decode c_M_kind 31 = .ok (.iload_n 2, 1) := by decide +kernel
theorem d_M_kind_32 : decode c_M_kind 32 = .ok (.invokevirtual 133, 3) := by decide +kernel
theorem d_M_kind_35 : decode c_M_kind 35 = .ok (.aload_n 0, 1) := by decide +kernel
theorem d_M_kind_36 : decode c_M_kind 36 = .ok (.invokevirtual 137, 3) := by decide +kernel
theorem d_M_kind_39 : decode c_M_kind 39 = .ok (.aload_n 0, 1) := by decide +kernel
theorem d_M_kind_40 : decode c_M_kind 40 = .ok (.invokevirtual 140, 3) := by decide +kernel
theorem d_M_kind_43 : decode c_M_kind 43 = .ok (.ifCond .ne 5, 3) := by decide +kernel
theorem d_M_kind_46 : decode c_M_kind 46 = .ok (.iconst 0, 1) := by decide +kernel
theorem d_M_kind_47 : decode c_M_kind 47 = .ok (.ireturn, 1) := by decide +kernel
theorem d_M_kind_48 : decode c_M_kind 48 = .ok (.aload_n 0, 1) := by decide +kernel
theorem d_M_kind_49 : decode c_M_kind 49 = .ok (.getfield 106, 3) := by decide +kernel
theorem d_M_kind_52 : decode c_M_kind 52 = .ok (.istore_n 3, 1) := by decide +kernel
theorem d_M_kind_53 : decode c_M_kind 53 = .ok (.aload_n 0, 1) := by decide +kernel
theorem d_M_kind_54 : decode c_M_kind 54 = .ok (.getfield 112, 3) := by decide +kernel
theorem d_M_kind_57 : decode c_M_kind 57 = .ok (.istore 4, 2) := by decide +kernel
theorem d_M_kind_59 : decode c_M_kind 59 = .ok (.aload_n 0, 1) := by decide +kernel
theorem d_M_kind_60 : decode c_M_kind 60 = .ok (.invokevirtual 137, 3) := by decide +kernel
theorem d_M_kind_63 : decode c_M_kind 63 = .ok (.aload_n 0, 1) := by decide +kernel
theorem d_M_kind_64 : decode c_M_kind 64 = .ok (.bipush 47, 2) := by decide +kernel
theorem d_M_kind_66 : decode c_M_kind 66 = .ok (.invokevirtual 150, 3) := by decide +kernel
theorem d_M_kind_69 : decode c_M_kind 69 = .ok (.ifCond .ne 5, 3) := by decide +kernel
theorem d_M_kind_72 : decode c_M_kind 72 = .ok (.iconst 0, 1) := by decide +kernel
theorem d_M_kind_73 : decode c_M_kind 73 = .ok (.ireturn, 1) := by decide +kernel
theorem d_M_kind_74 : decode c_M_kind 74 = .ok (.aload_n 0, 1) := by decide +kernel
theorem d_M_kind_75 : decode c_M_kind 75 = .ok (.invokevirtual 137, 3) := by decide +kernel
theorem d_M_kind_78 : decode c_M_kind 78 = .ok (.aload_n 0, 1) := by decide +kernel
theorem d_M_kind_79 : decode c_M_kind 79 = .ok (.invokevirtual 140, 3) := by decide +kernel
theorem d_M_kind_82 : decode c_M_kind 82 = .ok (.ifCond .ne 5, 3) := by decide +kernel
theorem d_M_kind_85 : decode c_M_kind 85 = .ok (.iconst 0, 1) := by decide +kernel
theorem d_M_kind_86 : decode c_M_kind 86 = .ok (.ireturn, 1) := by decide +kernel
theorem d_M_kind_87 : decode c_M_kind 87 = .ok (.aload_n 0, 1) := by decide +kernel
theorem d_M_kind_88 : decode c_M_kind 88 = .ok (.iload_n 3, 1) := by decide +kernel
theorem d_M_kind_89 : decode c_M_kind 89 = .ok (.iload 4, 2) := by decide +kernel
theorem d_M_kind_91 : decode c_M_kind 91 = .ok (.ldc2_w 160, 3) := by decide +kernel
theorem d_M_kind_94 : decode c_M_kind 94 = .ok (.lconst 0, 1) := by decide +kernel
theorem d_M_kind_95 : decode c_M_kind 95 = .ok (.lconst 0, 1) := by decide +kernel
theorem d_M_kind_96 : decode c_M_kind 96 = .ok (.invokevirtual 119, 3) := by decide +kernel
theorem d_M_kind_99 : decode c_M_kind 99 = .ok (.ifCond .eq 25, 3) := by decide +kernel
theorem d_M_kind_102 : decode c_M_kind 102 = .ok (.aload_n 0, 1) := by decide +kernel
theorem d_M_kind_103 : decode c_M_kind 103 = .ok (.aload_n 0, 1) := by decide +kernel
theorem d_M_kind_104 : decode c_M_kind 104 = .ok (.getfield 106, 3) := by decide +kernel
theorem d_M_kind_107 : decode c_M_kind 107 = .ok (.aload_n 0, 1) := by decide +kernel
theorem d_M_kind_108 : decode c_M_kind 108 = .ok (.getfield 112, 3) := by decide +kernel
theorem d_M_kind_111 : decode c_M_kind 111 = .ok (.ldc2_w 162, 3) := by decide +kernel
theorem d_M_kind_114 : decode c_M_kind 114 = .ok (.lconst 0, 1) := by decide +kernel
theorem d_M_kind_115 : decode c_M_kind 115 = .ok (.lconst 0, 1) := by decide +kernel
theorem d_M_kind_116 : decode c_M_kind 116 = .ok (.invokevirtual 119, 3) := by decide +kernel
theorem d_M_kind_119 : decode c_M_kind 119 = .ok (.ifCond .eq 5, 3) := by decide +kernel
theorem d_M_kind_122 : decode c_M_kind 122 = .ok (.iconst 2, 1) := by decide +kernel
theorem d_M_kind_123 : decode c_M_kind 123 = .ok (.ireturn, 1) := by decide +kernel
theorem d_M_kind_124 : decode c_M_kind 124 = .ok (.aload_n 0, 1) := by decide +kernel
theorem d_M_kind_125 : decode c_M_kind 125 = .ok (.iload_n 3, 1) := by decide +kernel
theorem d_M_kind_126 : decode c_M_kind 126 = .ok (.iload 4, 2) := by decide +kernel
theorem d_M_kind_128 : decode c_M_kind 128 = .ok (.ldc2_w 164, 3) := by decide +kernel
theorem d_M_kind_131 : decode c_M_kind 131 = .ok (.lconst 0, 1) := by decide +kernel
theorem d_M_kind_132 : decode c_M_kind 132 = .ok (.lconst 0, 1) := by decide +kernel
theorem d_M_kind_133 : decode c_M_kind 133 = .ok (.invokevirtual 119, 3) := by decide +kernel
theorem d_M_kind_136 : decode c_M_kind 136 = .ok (.ifCond .ne 5, 3) := by decide +kernel
theorem d_M_kind_139 : decode c_M_kind 139 = .ok (.iconst 0, 1) := by decide +kernel
theorem d_M_kind_140 : decode c_M_kind 140 = .ok (.ireturn, 1) := by decide +kernel
theorem d_M_kind_141 : decode c_M_kind 141 = .ok (.aload_n 0, 1) := by decide +kernel
theorem d_M_kind_142 : decode c_M_kind 142 = .ok (.invokevirtual 137, 3) := by decide +kernel
theorem d_M_kind_145 : decode c_M_kind 145 = .ok (.iconst 1, 1) := by decide +kernel
theorem d_M_kind_146 : decode c_M_kind 146 = .ok (.istore 5, 2) := by decide +kernel
theorem d_M_kind_148 : decode c_M_kind 148 = .ok (.iload 5, 2) := by decide +kernel
theorem d_M_kind_150 : decode c_M_kind 150 = .ok (.iconst 1, 1) := by decide +kernel
theorem d_M_kind_151 : decode c_M_kind 151 = .ok (.if_icmp .ne 12, 3) := by decide +kernel
theorem d_M_kind_154 : decode c_M_kind 154 = .ok (.aload_n 0, 1) := by decide +kernel
theorem d_M_kind_155 : decode c_M_kind 155 = .ok (.invokevirtual 166, 3) := by decide +kernel
theorem d_M_kind_158 : decode c_M_kind 158 = .ok (.istore 5, 2) := by decide +kernel
theorem d_M_kind_160 : decode c_M_kind 160 = .ok (.goto (-12), 3) := by decide +kernel
theorem d_M_kind_163 : decode c_M_kind 163 = .ok (.iload 5, 2) := by decide +kernel
theorem d_M_kind_165 : decode c_M_kind 165 = .ok (.iconst 2, 1) := by decide +kernel
theorem d_M_kind_166 : decode c_M_kind 166 = .ok (.if_icmp .ne 10, 3) := by decide +kernel
theorem d_M_kind_169 : decode c_M_kind 169 = .ok (.aload_n 0, 1) := by decide +kernel
theorem d_M_kind_170 : decode c_M_kind 170 = .ok (.invokevirtual 169, 3) := by decide +kernel
theorem d_M_kind_173 : decode c_M_kind 173 = .ok (.ifCond .ne 5, 3) := by decide +kernel
theorem d_M_kind_176 : decode c_M_kind 176 = .ok (.iconst 0, 1) := by decide +kernel
theorem d_M_kind_177 : decode c_M_kind 177 = .ok (.ireturn, 1) := by decide +kernel
theorem d_M_kind_178 : decode c_M_kind 178 = .ok (.aload_n 0, 1) := by decide +kernel
theorem d_M_kind_179 : decode c_M_kind 179 = .ok (.getfield 106, 3) := by decide +kernel
theorem d_M_kind_182 : decode c_M_kind 182 = .ok (.istore 6, 2) := by decide +kernel
theorem d_M_kind_184 : decode c_M_kind 184 = .ok (.aload_n 0, 1) := by decide +kernel
theorem d_M_kind_185 : decode c_M_kind 185 = .ok (.iload_n 1, 1) := by decide +kernel
theorem d_M_kind_186 : decode c_M_kind 186 = .ok (.bipush 11, 2) := by decide +kernel
theorem d_M_kind_188 : decode c_M_kind 188 = .ok (.aload_n 0, 1) := by decide +kernel
theorem d_M_kind_189 : decode c_M_kind 189 = .ok (.getfield 56, 3) := by decide +kernel
theorem d_M_kind_192 : decode c_M_kind 192 = .ok (.invokevirtual 70, 3) := by decide +kernel
theorem d_M_kind_195 : decode c_M_kind 195 = .ok (.aload_n 0, 1) := by decide +kernel
theorem d_M_kind_196 : decode c_M_kind 196 = .ok (.iload_n 1, 1) := by decide +kernel
theorem d_M_kind_197 : decode c_M_kind 197 = .ok (.bipush 12, 2) := by decide +kernel
theorem d_M_kind_199 : decode c_M_kind 199 = .ok (.aload_n 0, 1) := by decide +kernel
theorem d_M_kind_200 : decode c_M_kind 200 = .ok (.getfield 112, 3) := by decide +kernel
theorem d_M_kind_203 : decode c_M_kind 203 = .ok (.invokevirtual 70, 3) := by decide +kernel
theorem d_M_kind_206 : decode c_M_kind 206 = .ok (.iconst 0, 1) := by decide +kernel
theorem d_M_kind_207 : decode c_M_kind 207 = .ok (.istore 7, 2) := by decide +kernel
theorem d_M_kind_209 : decode c_M_kind 209 = .ok (.iload 7, 2) := by decide +kernel
theorem d_M_kind_211 : decode c_M_kind 211 = .ok (.aload_n 0, 1) := by decide +kernel
theorem d_M_kind_212 : decode c_M_kind 212 = .ok (.getfield 112, 3) := by decide +kernel
theorem d_M_kind_215 : decode c_M_kind 215 = .ok (.if_icmp .ge 23, 3) := by decide +kernel
theorem d_M_kind_218 : decode c_M_kind 218 = .ok (.aload_n 0, 1) := by decide +kernel
theorem d_M_kind_219 : decode c_M_kind 219 = .ok (.aload_n 0, 1) := by decide +kernel
theorem d_M_kind_220 : decode c_M_kind 220 = .ok (.getfield 22, 3) := by decide +kernel
theorem d_M_kind_223 : decode c_M_kind 223 = .ok (.iload 6, 2) := by decide +kernel
theorem d_M_kind_225 : decode c_M_kind 225 = .ok (.iload 7, 2) := by decide +kernel
theorem d_M_kind_227 : decode c_M_kind 227 = .ok (.iadd, 1) := by decide +kernel
theorem d_M_kind_228 : decode c_M_kind 228 = .ok (.iaload, 1) := by decide +kernel
theorem d_M_kind_229 : decode c_M_kind 229 = .ok (.invokevirtual 66, 3) := by decide +kernel
theorem d_M_kind_232 : decode c_M_kind 232 = .ok (.iinc 7 1, 3) := by decide +kernel
theorem d_M_kind_235 : decode c_M_kind 235 = .ok (.goto (-26), 3) := by decide +kernel
theorem d_M_kind_238 : decode c_M_kind 238 = .ok (.iconst 1, 1) := by decide +kernel
theorem d_M_kind_239 : decode c_M_kind 239 = .ok (.ireturn, 1) := by decide +kernel
theorem d_M_takes_0 : decode c_M_takes 0 = .ok (.aload_n 0, 1) := by decide +kernel
theorem d_M_takes_1 : decode c_M_takes 1 = .ok (.invokevirtual 99, 3) := by decide +kernel
theorem d_M_takes_4 : decode c_M_takes 4 = .ok (.iload_n 1, 1) := by decide +kernel
theorem d_M_takes_5 : decode c_M_takes 5 = .ok (.if_icmp .eq 5, 3) := by decide +kernel
theorem d_M_takes_8 : decode c_M_takes 8 = .ok (.iconst 0, 1) := by decide +kernel
theorem d_M_takes_9 : decode c_M_takes 9 = .ok (.ireturn, 1) := by decide +kernel
theorem d_M_takes_10 : decode c_M_takes 10 = .ok (.aload_n 0, 1) := by decide +kernel
theorem d_M_takes_11 : decode c_M_takes 11 = .ok (.dup, 1) := by decide +kernel
theorem d_M_takes_12 : decode c_M_takes 12 = .ok (.getfield 93, 3) := by decide +kernel
theorem d_M_takes_15 : decode c_M_takes 15 = .ok (.iconst 1, 1) := by decide +kernel
theorem d_M_takes_16 : decode c_M_takes 16 = .ok (.iadd, 1) := by decide +kernel
theorem d_M_takes_17 : decode c_M_takes 17 = .ok (.putfield 93, 3) := by decide +kernel
theorem d_M_takes_20 : decode c_M_takes 20 = .ok (.iconst 1, 1) := by decide +kernel
theorem d_M_takes_21 : decode c_M_takes 21 = .ok (.ireturn, 1) := by decide +kernel
theorem d_M_parameter_0 : decode c_M_parameter 0 = .ok (.aload_n 0, 1) := by decide +kernel
theorem d_M_parameter_1 : decode c_M_parameter 1 = .ok (.bipush 59, 2) := by decide +kernel
theorem d_M_parameter_3 : decode c_M_parameter 3 = .ok (.invokevirtual 150, 3) := by decide +kernel
theorem d_M_parameter_6 : decode c_M_parameter 6 = .ok (.ifCond .ne 5, 3) := by decide +kernel
theorem d_M_parameter_9 : decode c_M_parameter 9 = .ok (.iconst 0, 1) := by decide +kernel
theorem d_M_parameter_10 : decode c_M_parameter 10 = .ok (.ireturn, 1) := by decide +kernel
theorem d_M_parameter_11 : decode c_M_parameter 11 = .ok (.aload_n 0, 1) := by decide +kernel
theorem d_M_parameter_12 : decode c_M_parameter 12 = .ok (.invokevirtual 137, 3) := by decide +kernel
theorem d_M_parameter_15 : decode c_M_parameter 15 = .ok (.aload_n 0, 1) := by decide +kernel
theorem d_M_parameter_16 : decode c_M_parameter 16 = .ok (.invokevirtual 140, 3) := by decide +kernel
theorem d_M_parameter_19 : decode c_M_parameter 19 = .ok (.ifCond .ne 5, 3) := by decide +kernel
theorem d_M_parameter_22 : decode c_M_parameter 22 = .ok (.iconst 0, 1) := by decide +kernel
theorem d_M_parameter_23 : decode c_M_parameter 23 = .ok (.ireturn, 1) := by decide +kernel
theorem d_M_parameter_24 : decode c_M_parameter 24 = .ok (.aload_n 0, 1) := by decide +kernel
theorem d_M_parameter_25 : decode c_M_parameter 25 = .ok (.aload_n 0, 1) := by decide +kernel
theorem d_M_parameter_26 : decode c_M_parameter 26 = .ok (.getfield 106, 3) := by decide +kernel
theorem d_M_parameter_29 : decode c_M_parameter 29 = .ok (.aload_n 0, 1) := by decide +kernel
theorem d_M_parameter_30 : decode c_M_parameter 30 = .ok (.getfield 112, 3) := by decide +kernel
theorem d_M_parameter_33 : decode c_M_parameter 33 = .ok (.ldc2_w 153, 3) := by decide +kernel
theorem d_M_parameter_36 : decode c_M_parameter 36 = .ok (.lconst 0, 1) := by decide +kernel
theorem d_M_parameter_37 : decode c_M_parameter 37 = .ok (.lconst 0, 1) := by decide +kernel
theorem d_M_parameter_38 : decode c_M_parameter 38 = .ok (.invokevirtual 119, 3) := by decide +kernel
theorem d_M_parameter_41 : decode c_M_parameter 41 = .ok (.istore_n 1, 1) := by decide +kernel
theorem d_M_parameter_42 : decode c_M_parameter 42 = .ok (.aload_n 0, 1) := by decide +kernel
theorem d_M_parameter_43 : decode c_M_parameter 43 = .ok (.invokevirtual 137, 3) := by decide +kernel
theorem d_M_parameter_46 : decode c_M_parameter 46 = .ok (.aload_n 0, 1) := by decide +kernel
theorem d_M_parameter_47 : decode c_M_parameter 47 = .ok (.bipush 61, 2) := by decide +kernel
theorem d_M_parameter_49 : decode c_M_parameter 49 = .ok (.invokevirtual 150, 3) := by decide +kernel
theorem d_M_parameter_52 : decode c_M_parameter 52 = .ok (.ifCond .ne 5, 3) := by decide +kernel
theorem d_M_parameter_55 : decode c_M_parameter 55 = .ok (.iconst 0, 1) := by decide +kernel
theorem d_M_parameter_56 : decode c_M_parameter 56 = .ok (.ireturn, 1) := by decide +kernel
theorem d_M_parameter_57 : decode c_M_parameter 57 = .ok (.aload_n 0, 1) := by decide +kernel
theorem d_M_parameter_58 : decode c_M_parameter 58 = .ok (.invokevirtual 137, 3) := by decide +kernel
theorem d_M_parameter_61 : decode c_M_parameter 61 = .ok (.aload_n 0, 1) := by decide +kernel
theorem d_M_parameter_62 : decode c_M_parameter 62 = .ok (.invokevirtual 99, 3) := by decide +kernel
theorem d_M_parameter_65 : decode c_M_parameter 65 = .ok (.bipush 34, 2) := by decide +kernel
theorem d_M_parameter_67 : decode c_M_parameter 67 = .ok (.if_icmp .ne 13, 3) := by decide +kernel
theorem d_M_parameter_70 : decode c_M_parameter 70 = .ok (.aload_n 0, 1) := by decide +kernel
theorem d_M_parameter_71 : decode c_M_parameter 71 = .ok (.invokevirtual 155, 3) := by decide +kernel
theorem d_M_parameter_74 : decode c_M_parameter 74 = .ok (.ifCond .ne 15, 3) := by decide +kernel
theorem d_M_parameter_77 : decode c_M_parameter 77 = .ok (.goto 10, 3) := by decide +kernel
theorem d_M_parameter_80 : decode c_M_parameter 80 = .ok (.aload_n 0, 1) := by decide +kernel
theorem d_M_parameter_81 : decode c_M_parameter 81 = .ok (.invokevirtual 140, 3) := by decide +kernel
theorem d_M_parameter_84 : decode c_M_parameter 84 = .ok (.ifCond .ne 5, 3) := by decide +kernel
theorem d_M_parameter_87 : decode c_M_parameter 87 = .ok (.iconst 0, 1) := by decide +kernel
theorem d_M_parameter_88 : decode c_M_parameter 88 = .ok (.ireturn, 1) := by decide +kernel
theorem d_M_parameter_89 : decode c_M_parameter 89 = .ok (.aload_n 0, 1) := by decide +kernel
theorem d_M_parameter_90 : decode c_M_parameter 90 = .ok (.getfield 106, 3) := by decide +kernel
theorem d_M_parameter_93 : decode c_M_parameter 93 = .ok (.istore_n 2, 1) := by decide +kernel
theorem d_M_parameter_94 : decode c_M_parameter 94 = .ok (.aload_n 0, 1) := by decide +kernel
theorem d_M_parameter_95 : decode c_M_parameter 95 = .ok (.getfield 112, 3) := by decide +kernel
theorem d_M_parameter_98 : decode c_M_parameter 98 = .ok (.istore_n 3, 1) := by decide +kernel
theorem d_M_parameter_99 : decode c_M_parameter 99 = .ok (.aload_n 0, 1) := by decide +kernel
theorem d_M_parameter_100 : decode c_M_parameter 100 = .ok (.invokevirtual 137, 3) := by decide +kernel
theorem d_M_parameter_103 : decode c_M_parameter 103 = .ok (.aload_n 0, 1) := by decide +kernel
theorem d_M_parameter_104 : decode c_M_parameter 104 = .ok (.iload_n 2, 1) := by decide +kernel
theorem d_M_parameter_105 : decode c_M_parameter 105 = .ok (.putfield 106, 3) := by decide +kernel
theorem d_M_parameter_108 : decode c_M_parameter 108 = .ok (.aload_n 0, 1) := by decide +kernel
theorem d_M_parameter_109 : decode c_M_parameter 109 = .ok (.iload_n 3, 1) := by decide +kernel
theorem d_M_parameter_110 : decode c_M_parameter 110 = .ok (.putfield 112, 3) := by decide +kernel
theorem d_M_parameter_113 : decode c_M_parameter 113 = .ok (.iload_n 1, 1) := by decide +kernel
theorem d_M_parameter_114 : decode c_M_parameter 114 = .ok (.ifCond .eq 7, 3) := by decide +kernel
theorem d_M_parameter_117 : decode c_M_parameter 117 = .ok (.iconst 2, 1) := by decide +kernel
theorem d_M_parameter_118 : decode c_M_parameter 118 = .ok (.goto 4, 3) := by decide +kernel
theorem d_M_parameter_121 : decode c_M_parameter 121 = .ok (.iconst 1, 1) := by decide +kernel
theorem d_M_parameter_122 : decode c_M_parameter 122 = .ok (.ireturn, 1) := by decide +kernel
theorem d_M_quoted_0 : decode c_M_quoted 0 = .ok (.aload_n 0, 1) := by decide +kernel
theorem d_M_quoted_1 : decode c_M_quoted 1 = .ok (.invokevirtual 99, 3) := by decide +kernel
theorem d_M_quoted_4 : decode c_M_quoted 4 = .ok (.bipush 34, 2) := by decide +kernel
theorem d_M_quoted_6 : decode c_M_quoted 6 = .ok (.if_icmp .eq 5, 3) := by decide +kernel
theorem d_M_quoted_9 : decode c_M_quoted 9 = .ok (.iconst 0, 1) := by decide +kernel
theorem d_M_quoted_10 : decode c_M_quoted 10 = .ok (.ireturn, 1) := by decide +kernel
theorem d_M_quoted_11 : decode c_M_quoted 11 = .ok (.aload_n 0, 1) := by decide +kernel
theorem d_M_quoted_12 : decode c_M_quoted 12 = .ok (.aload_n 0, 1) := by decide +kernel
theorem d_M_quoted_13 : decode c_M_quoted 13 = .ok (.getfield 56, 3) := by decide +kernel
theorem d_M_quoted_16 : decode c_M_quoted 16 = .ok (.putfield 106, 3) := by decide +kernel
theorem d_M_quoted_19 : decode c_M_quoted 19 = .ok (.aload_n 0, 1) := by decide +kernel
theorem d_M_quoted_20 : decode c_M_quoted 20 = .ok (.dup, 1) := by decide +kernel
theorem d_M_quoted_21 : decode c_M_quoted 21 = .ok (.getfield 93, 3) := by decide +kernel
theorem d_M_quoted_24 : decode c_M_quoted 24 = .ok (.iconst 1, 1) := by decide +kernel
theorem d_M_quoted_25 : decode c_M_quoted 25 = .ok (.iadd, 1) := by decide +kernel
theorem d_M_quoted_26 : decode c_M_quoted 26 = .ok (.putfield 93, 3) := by decide +kernel
theorem d_M_quoted_29 : decode c_M_quoted 29 = .ok (.aload_n 0, 1) := by decide +kernel
theorem d_M_quoted_30 : decode c_M_quoted 30 = .ok (.getfield 93, 3) := by decide +kernel
theorem d_M_quoted_33 : decode c_M_quoted 33 = .ok (.aload_n 0, 1) := by decide +kernel
theorem d_M_quoted_34 : decode c_M_quoted 34 = .ok (.getfield 96, 3) := by decide +kernel
theorem d_M_quoted_37 : decode c_M_quoted 37 = .ok (.if_icmp .ge 78, 3) := by decide +kernel
theorem d_M_quoted_40 : decode c_M_quoted 40 = .ok (.aload_n 0, 1) := by decide +kernel
theorem d_M_quoted_41 : decode c_M_quoted 41 = .ok (.getfield 22, 3) := by decide +kernel
theorem d_M_quoted_44 : decode c_M_quoted 44 = .ok (.aload_n 0, 1) := by decide +kernel
theorem d_M_quoted_45 : decode c_M_quoted 45 = .ok (.getfield 93, 3) := by decide +kernel
theorem d_M_quoted_48 : decode c_M_quoted 48 = .ok (.iaload, 1) := by decide +kernel
theorem d_M_quoted_49 : decode c_M_quoted 49 = .ok (.bipush 34, 2) := by decide +kernel
theorem d_M_quoted_51 : decode c_M_quoted 51 = .ok (.if_icmp .eq 64, 3) := by decide +kernel
theorem d_M_quoted_54 : decode c_M_quoted 54 = .ok (.aload_n 0, 1) := by decide +kernel
theorem d_M_quoted_55 : decode c_M_quoted 55 = .ok (.getfield 22, 3) := by decide +kernel
theorem d_M_quoted_58 : decode c_M_quoted 58 = .ok (.aload_n 0, 1) := by decide +kernel
theorem d_M_quoted_59 : decode c_M_quoted 59 = .ok (.getfield 93, 3) := by decide +kernel
theorem d_M_quoted_62 : decode c_M_quoted 62 = .ok (.iaload, 1) := by decide +kernel
theorem d_M_quoted_63 : decode c_M_quoted 63 = .ok (.bipush 92, 2) := by decide +kernel
theorem d_M_quoted_65 : decode c_M_quoted 65 = .ok (.if_icmp .ne 13, 3) := by decide +kernel
theorem d_M_quoted_68 : decode c_M_quoted 68 = .ok (.aload_n 0, 1) := by decide +kernel
theorem d_M_quoted_69 : decode c_M_quoted 69 = .ok (.dup, 1) := by decide +kernel
theorem d_M_quoted_70 : decode c_M_quoted 70 = .ok (.getfield 93, 3) := by decide +kernel
theorem d_M_quoted_73 : decode c_M_quoted 73 = .ok (.iconst 1, 1) := by decide +kernel
theorem d_M_quoted_74 : decode c_M_quoted 74 = .ok (.iadd, 1) := by decide +kernel
theorem d_M_quoted_75 : decode c_M_quoted 75 = .ok (.putfield 93, 3) := by decide +kernel
theorem d_M_quoted_78 : decode c_M_quoted 78 = .ok (.aload_n 0, 1) := by decide +kernel
theorem d_M_quoted_79 : decode c_M_quoted 79 = .ok (.getfield 93, 3) := by decide +kernel
theorem d_M_quoted_82 : decode c_M_quoted 82 = .ok (.aload_n 0, 1) := by decide +kernel
theorem d_M_quoted_83 : decode c_M_quoted 83 = .ok (.getfield 96, 3) := by decide +kernel
theorem d_M_quoted_86 : decode c_M_quoted 86 = .ok (.if_icmp .ge (-57), 3) := by decide +kernel
theorem d_M_quoted_89 : decode c_M_quoted 89 = .ok (.aload_n 0, 1) := by decide +kernel
theorem d_M_quoted_90 : decode c_M_quoted 90 = .ok (.aload_n 0, 1) := by decide +kernel
theorem d_M_quoted_91 : decode c_M_quoted 91 = .ok (.getfield 22, 3) := by decide +kernel
theorem d_M_quoted_94 : decode c_M_quoted 94 = .ok (.aload_n 0, 1) := by decide +kernel
theorem d_M_quoted_95 : decode c_M_quoted 95 = .ok (.getfield 93, 3) := by decide +kernel
theorem d_M_quoted_98 : decode c_M_quoted 98 = .ok (.iaload, 1) := by decide +kernel
theorem d_M_quoted_99 : decode c_M_quoted 99 = .ok (.invokevirtual 66, 3) := by decide +kernel
theorem d_M_quoted_102 : decode c_M_quoted 102 = .ok (.aload_n 0, 1) := by decide +kernel
theorem d_M_quoted_103 : decode c_M_quoted 103 = .ok (.dup, 1) := by decide +kernel
theorem d_M_quoted_104 : decode c_M_quoted 104 = .ok (.getfield 93, 3) := by decide +kernel
theorem d_M_quoted_107 : decode c_M_quoted 107 = .ok (.iconst 1, 1) := by decide +kernel
theorem d_M_quoted_108 : decode c_M_quoted 108 = .ok (.iadd, 1) := by decide +kernel
theorem d_M_quoted_109 : decode c_M_quoted 109 = .ok (.putfield 93, 3) := by decide +kernel
theorem d_M_quoted_112 : decode c_M_quoted 112 = .ok (.goto (-83), 3) := by decide +kernel
theorem d_M_quoted_115 : decode c_M_quoted 115 = .ok (.aload_n 0, 1) := by decide +kernel
theorem d_M_quoted_116 : decode c_M_quoted 116 = .ok (.aload_n 0, 1) := by decide +kernel
theorem d_M_quoted_117 : decode c_M_quoted 117 = .ok (.getfield 56, 3) := by decide +kernel
theorem d_M_quoted_120 : decode c_M_quoted 120 = .ok (.aload_n 0, 1) := by decide +kernel
theorem d_M_quoted_121 : decode c_M_quoted 121 = .ok (.getfield 106, 3) := by decide +kernel
theorem d_M_quoted_124 : decode c_M_quoted 124 = .ok (.isub, 1) := by decide +kernel
theorem d_M_quoted_125 : decode c_M_quoted 125 = .ok (.putfield 112, 3) := by decide +kernel
theorem d_M_quoted_128 : decode c_M_quoted 128 = .ok (.aload_n 0, 1) := by decide +kernel
theorem d_M_quoted_129 : decode c_M_quoted 129 = .ok (.getfield 93, 3) := by decide +kernel
theorem d_M_quoted_132 : decode c_M_quoted 132 = .ok (.aload_n 0, 1) := by decide +kernel
theorem d_M_quoted_133 : decode c_M_quoted 133 = .ok (.getfield 96, 3) := by decide +kernel
theorem d_M_quoted_136 : decode c_M_quoted 136 = .ok (.if_icmp .lt 5, 3) := by decide +kernel
theorem d_M_quoted_139 : decode c_M_quoted 139 = .ok (.iconst 0, 1) := by decide +kernel
theorem d_M_quoted_140 : decode c_M_quoted 140 = .ok (.ireturn, 1) := by decide +kernel
theorem d_M_quoted_141 : decode c_M_quoted 141 = .ok (.aload_n 0, 1) := by decide +kernel
theorem d_M_quoted_142 : decode c_M_quoted 142 = .ok (.dup, 1) := by decide +kernel
theorem d_M_quoted_143 : decode c_M_quoted 143 = .ok (.getfield 93, 3) := by decide +kernel
theorem d_M_quoted_146 : decode c_M_quoted 146 = .ok (.iconst 1, 1) := by decide +kernel
theorem d_M_quoted_147 : decode c_M_quoted 147 = .ok (.iadd, 1) := by decide +kernel
theorem d_M_quoted_148 : decode c_M_quoted 148 = .ok (.putfield 93, 3) := by decide +kernel
theorem d_M_quoted_151 : decode c_M_quoted 151 = .ok (.iconst 1, 1) := by decide +kernel
theorem d_M_quoted_152 : decode c_M_quoted 152 = .ok (.ireturn, 1) := by decide +kernel
theorem d_M_isBoundary_0 : decode c_M_isBoundary 0 = .ok (.aload_n 0, 1) := by decide +kernel
theorem d_M_isBoundary_1 : decode c_M_isBoundary 1 = .ok (.getfield 112, 3) := by decide +kernel
theorem d_M_isBoundary_4 : decode c_M_isBoundary 4 = .ok (.ifCond .le 16, 3) := by decide +kernel
theorem d_M_isBoundary_7 : decode c_M_isBoundary 7 = .ok (.aload_n 0, 1) := by decide +kernel
theorem d_M_isBoundary_8 : decode c_M_isBoundary 8 = .ok (.getfield 112, 3) := by decide +kernel
theorem d_M_isBoundary_11 : decode c_M_isBoundary 11 = .ok (.bipush 21, 2) := by decide +kernel
theorem d_M_isBoundary_13 : decode c_M_isBoundary 13 = .ok (.if_icmp .ge 7, 3) := by decide +kernel
theorem d_M_isBoundary_16 : decode c_M_isBoundary 16 = .ok (.iconst 1, 1) := by decide +kernel
theorem d_M_isBoundary_17 : decode c_M_isBoundary 17 = .ok (.goto 4, 3) := by decide +kernel
theorem d_M_isBoundary_20 : decode c_M_isBoundary 20 = .ok (.iconst 0, 1) := by decide +kernel
theorem d_M_isBoundary_21 : decode c_M_isBoundary 21 = .ok (.istore_n 1, 1) := by decide +kernel
theorem d_M_isBoundary_22 : decode c_M_isBoundary 22 = .ok (.iconst 0, 1) := by decide +kernel
theorem d_M_isBoundary_23 : decode c_M_isBoundary 23 = .ok (.istore_n 2, 1) := by decide +kernel
theorem d_M_isBoundary_24 : decode c_M_isBoundary 24 = .ok (.iload_n 2, 1) := by decide +kernel
theorem d_M_isBoundary_25 : decode c_M_isBoundary 25 = .ok (.aload_n 0, 1) := by decide +kernel
theorem d_M_isBoundary_26 : decode c_M_isBoundary 26 = .ok (.getfield 112, 3) := by decide +kernel
theorem d_M_isBoundary_29 : decode c_M_isBoundary 29 = .ok (.if_icmp .ge 51, 3) := by decide +kernel
theorem d_M_isBoundary_32 : decode c_M_isBoundary 32 = .ok (.iload_n 1, 1) := by decide +kernel
theorem d_M_isBoundary_33 : decode c_M_isBoundary 33 = .ok (.ifCond .eq 47, 3) := by decide +kernel
theorem d_M_isBoundary_36 : decode c_M_isBoundary 36 = .ok (.aload_n 0, 1) := by decide +kernel
theorem d_M_isBoundary_37 : decode c_M_isBoundary 37 = .ok (.getfield 22, 3) := by decide +kernel
theorem d_M_isBoundary_40 : decode c_M_isBoundary 40 = .ok (.aload_n 0, 1) := by decide +kernel
theorem d_M_isBoundary_41 : decode c_M_isBoundary 41 = .ok (.getfield 106, 3) := by decide +kernel
theorem d_M_isBoundary_44 : decode c_M_isBoundary 44 = .ok (.iload_n 2, 1) := by decide +kernel
theorem d_M_isBoundary_45 : decode c_M_isBoundary 45 = .ok (.iadd, 1) := by decide +kernel
theorem d_M_isBoundary_46 : decode c_M_isBoundary 46 = .ok (.iaload, 1) := by decide +kernel
theorem d_M_isBoundary_47 : decode c_M_isBoundary 47 = .ok (.bipush 31, 2) := by decide +kernel
theorem d_M_isBoundary_49 : decode c_M_isBoundary 49 = .ok (.if_icmp .le 23, 3) := by decide +kernel
theorem d_M_isBoundary_52 : decode c_M_isBoundary 52 = .ok (.aload_n 0, 1) := by decide +kernel
theorem d_M_isBoundary_53 : decode c_M_isBoundary 53 = .ok (.getfield 22, 3) := by decide +kernel
theorem d_M_isBoundary_56 : decode c_M_isBoundary 56 = .ok (.aload_n 0, 1) := by decide +kernel
theorem d_M_isBoundary_57 : decode c_M_isBoundary 57 = .ok (.getfield 106, 3) := by decide +kernel
theorem d_M_isBoundary_60 : decode c_M_isBoundary 60 = .ok (.iload_n 2, 1) := by decide +kernel
theorem d_M_isBoundary_61 : decode c_M_isBoundary 61 = .ok (.iadd, 1) := by decide +kernel
theorem d_M_isBoundary_62 : decode c_M_isBoundary 62 = .ok (.iaload, 1) := by decide +kernel
theorem d_M_isBoundary_63 : decode c_M_isBoundary 63 = .ok (.bipush 127, 2) := by decide +kernel
theorem d_M_isBoundary_65 : decode c_M_isBoundary 65 = .ok (.if_icmp .ge 7, 3) := by decide +kernel
theorem d_M_isBoundary_68 : decode c_M_isBoundary 68 = .ok (.iconst 1, 1) := by decide +kernel
theorem d_M_isBoundary_69 : decode c_M_isBoundary 69 = .ok (.goto 4, 3) := by decide +kernel
theorem d_M_isBoundary_72 : decode c_M_isBoundary 72 = .ok (.iconst 0, 1) := by decide +kernel
theorem d_M_isBoundary_73 : decode c_M_isBoundary 73 = .ok (.istore_n 1, 1) := by decide +kernel
theorem d_M_isBoundary_74 : decode c_M_isBoundary 74 = .ok (.iinc 2 1, 3) := by decide +kernel
theorem d_M_isBoundary_77 : decode c_M_isBoundary 77 = .ok (.goto (-53), 3) := by decide +kernel
theorem d_M_isBoundary_80 : decode c_M_isBoundary 80 = .ok (.iload_n 1, 1) := by decide +kernel
theorem d_M_isBoundary_81 : decode c_M_isBoundary 81 = .ok (.ifCond .eq 28, 3) := by decide +kernel
theorem d_M_isBoundary_84 : decode c_M_isBoundary 84 = .ok (.aload_n 0, 1) := by decide +kernel
theorem d_M_isBoundary_85 : decode c_M_isBoundary 85 = .ok (.getfield 22, 3) := by decide +kernel
theorem d_M_isBoundary_88 : decode c_M_isBoundary 88 = .ok (.aload_n 0, 1) := by decide +kernel
theorem d_M_isBoundary_89 : decode c_M_isBoundary 89 = .ok (.getfield 106, 3) := by decide +kernel
theorem d_M_isBoundary_92 : decode c_M_isBoundary 92 = .ok (.aload_n 0, 1) := by decide +kernel
theorem d_M_isBoundary_93 : decode c_M_isBoundary 93 = .ok (.getfield 112, 3) := by decide +kernel
theorem d_M_isBoundary_96 : decode c_M_isBoundary 96 = .ok (.iadd, 1) := by decide +kernel
theorem d_M_isBoundary_97 : decode c_M_isBoundary 97 = .ok (.iconst 1, 1) := by decide +kernel
theorem d_M_isBoundary_98 : decode c_M_isBoundary 98 = .ok (.isub, 1) := by decide +kernel
theorem d_M_isBoundary_99 : decode c_M_isBoundary 99 = .ok (.iaload, 1) := by decide +kernel
theorem d_M_isBoundary_100 : decode c_M_isBoundary 100 = .ok (.bipush 32, 2) := by decide +kernel
theorem d_M_isBoundary_102 : decode c_M_isBoundary 102 = .ok (.if_icmp .eq 7, 3) := by decide +kernel
theorem d_M_isBoundary_105 : decode c_M_isBoundary 105 = .ok (.iconst 1, 1) := by decide +kernel
theorem d_M_isBoundary_106 : decode c_M_isBoundary 106 = .ok (.goto 4, 3) := by decide +kernel
theorem d_M_isBoundary_109 : decode c_M_isBoundary 109 = .ok (.iconst 0, 1) := by decide +kernel
theorem d_M_isBoundary_110 : decode c_M_isBoundary 110 = .ok (.ireturn, 1) := by decide +kernel
theorem d_M_contents_0 : decode c_M_contents 0 = .ok (.aload_n 0, 1) := by decide +kernel
theorem d_M_contents_1 : decode c_M_contents 1 = .ok (.iload_n 1, 1) := by decide +kernel
theorem d_M_contents_2 : decode c_M_contents 2 = .ok (.bipush 10, 2) := by decide +kernel
theorem d_M_contents_4 : decode c_M_contents 4 = .ok (.aload_n 0, 1) := by decide +kernel
theorem d_M_contents_5 : decode c_M_contents 5 = .ok (.getfield 56, 3) := by decide +kernel
theorem d_M_contents_8 : decode c_M_contents 8 = .ok (.invokevirtual 70, 3) := by decide +kernel
theorem d_M_contents_11 : decode c_M_contents 11 = .ok (.aload_n 0, 1) := by decide +kernel
theorem d_M_contents_12 : decode c_M_contents 12 = .ok (.iload_n 1, 1) := by decide +kernel
theorem d_M_contents_13 : decode c_M_contents 13 = .ok (.bipush 8, 2) := by decide +kernel
theorem d_M_contents_15 : decode c_M_contents 15 = .ok (.invokevirtual 59, 3) := by decide +kernel
theorem d_M_contents_18 : decode c_M_contents 18 = .ok (.istore_n 2, 1) := by decide +kernel
theorem d_M_contents_19 : decode c_M_contents 19 = .ok (.aload_n 0, 1) := by decide +kernel
theorem d_M_contents_20 : decode c_M_contents 20 = .ok (.iload_n 1, 1) := by decide +kernel
theorem d_M_contents_21 : decode c_M_contents 21 = .ok (.bipush 9, 2) := by decide +kernel
theorem d_M_contents_23 : decode c_M_contents 23 = .ok (.invokevirtual 59, 3) := by decide +kernel
theorem d_M_contents_26 : decode c_M_contents 26 = .ok (.istore_n 3, 1) := by decide +kernel
theorem d_M_contents_27 : decode c_M_contents 27 = .ok (.aload_n 0, 1) := by decide +kernel
theorem d_M_contents_28 : decode c_M_contents 28 = .ok (.iload_n 1, 1) := by decide +kernel
theorem d_M_contents_29 : decode c_M_contents 29 = .ok (.iconst 4, 1) := by decide +kernel
theorem d_M_contents_30 : decode c_M_contents 30 = .ok (.invokevirtual 59, 3) := by decide +kernel
theorem d_M_contents_33 : decode c_M_contents 33 = .ok (.iconst 1, 1) := by decide +kernel
theorem d_M_contents_34 : decode c_M_contents 34 = .ok (.if_icmp .ne 12, 3) := by decide +kernel
theorem d_M_contents_37 : decode c_M_contents 37 = .ok (.aload_n 0, 1) := by decide +kernel
theorem d_M_contents_38 : decode c_M_contents 38 = .ok (.iload_n 2, 1) := by decide +kernel
theorem d_M_contents_39 : decode c_M_contents 39 = .ok (.iload_n 3, 1) := by decide +kernel
theorem d_M_contents_40 : decode c_M_contents 40 = .ok (.invokevirtual 190, 3) := by decide +kernel
theorem d_M_contents_43 : decode c_M_contents 43 = .ok (.goto 48, 3) := by decide +kernel
theorem d_M_contents_46 : decode c_M_contents 46 = .ok (.aload_n 0, 1) := by decide +kernel
theorem d_M_contents_47 : decode c_M_contents 47 = .ok (.iload_n 1, 1) := by decide +kernel
theorem d_M_contents_48 : decode c_M_contents 48 = .ok (.iconst 4, 1) := by decide +kernel
theorem d_M_contents_49 : decode c_M_contents 49 = .ok (.invokevirtual 59, 3) := by decide +kernel
theorem d_M_contents_52 : decode c_M_contents 52 = .ok (.iconst 2, 1) := by decide +kernel
theorem d_M_contents_53 : decode c_M_contents 53 = .ok (.if_icmp .ne 12, 3) := by decide +kernel
theorem d_M_contents_56 : decode c_M_contents 56 = .ok (.aload_n 0, 1) := by decide +kernel
theorem d_M_contents_57 : decode c_M_contents 57 = .ok (.iload_n 2, 1) := by decide +kernel
theorem d_M_contents_58 : decode c_M_contents 58 = .ok (.iload_n 3, 1) := by decide +kernel
theorem d_M_contents_59 : decode c_M_contents 59 = .ok (.invokevirtual 193, 3) := by decide +kernel
theorem d_M_contents_62 : decode c_M_contents 62 = .ok (.goto 29, 3) := by decide +kernel
theorem d_M_contents_65 : decode c_M_contents 65 = .ok (.iload_n 2, 1) := by decide +kernel
theorem d_M_contents_66 : decode c_M_contents 66 = .ok (.istore 4, 2) := by decide +kernel
theorem d_M_contents_68 : decode c_M_contents 68 = .ok (.iload 4, 2) := by decide +kernel
theorem d_M_contents_70 : decode c_M_contents 70 = .ok (.iload_n 3, 1) := by decide +kernel
theorem d_M_contents_71 : decode c_M_contents 71 = .ok (.if_icmp .ge 20, 3) := by decide +kernel
theorem d_M_contents_74 : decode c_M_contents 74 = .ok (.aload_n 0, 1) := by decide +kernel
theorem d_M_contents_75 : decode c_M_contents 75 = .ok (.aload_n 0, 1) := by decide +kernel
theorem d_M_contents_76 : decode c_M_contents 76 = .ok (.getfield 13, 3) := by decide +kernel
theorem d_M_contents_79 : decode c_M_contents 79 = .ok (.iload 4, 2) := by decide +kernel
theorem d_M_contents_81 : decode c_M_contents 81 = .ok (.iaload, 1) := by decide +kernel
theorem d_M_contents_82 : decode c_M_contents 82 = .ok (.invokevirtual 66, 3) := by decide +kernel
theorem d_M_contents_85 : decode c_M_contents 85 = .ok (.iinc 4 1, 3) := by decide +kernel
theorem d_M_contents_88 : decode c_M_contents 88 = .ok (.goto (-20), 3) := by decide +kernel
theorem d_M_contents_91 : decode c_M_contents 91 = .ok (.aload_n 0, 1) := by decide +kernel
theorem d_M_contents_92 : decode c_M_contents 92 = .ok (.iload_n 1, 1) := by decide +kernel
theorem d_M_contents_93 : decode c_M_contents 93 = .ok (.iconst 5, 1) := by decide +kernel
theorem d_M_contents_94 : decode c_M_contents 94 = .ok (.aload_n 0, 1) := by decide +kernel
theorem d_M_contents_95 : decode c_M_contents 95 = .ok (.getfield 56, 3) := by decide +kernel
theorem d_M_contents_98 : decode c_M_contents 98 = .ok (.aload_n 0, 1) := by decide +kernel
theorem d_M_contents_99 : decode c_M_contents 99 = .ok (.iload_n 1, 1) := by decide +kernel
theorem d_M_contents_100 : decode c_M_contents 100 = .ok (.bipush 10, 2) := by decide +kernel
theorem d_M_contents_102 : decode c_M_contents 102 = .ok (.invokevirtual 59, 3) := by decide +kernel
theorem d_M_contents_105 : decode c_M_contents 105 = .ok (.isub, 1) := by decide +kernel
theorem d_M_contents_106 : decode c_M_contents 106 = .ok (.invokevirtual 70, 3) := by decide +kernel
theorem d_M_contents_109 : decode c_M_contents 109 = .ok (.return_, 1) := by decide +kernel
theorem d_M_fromLetters_0 : decode c_M_fromLetters 0 = .ok (.iconst 0, 1) := by decide +kernel
theorem d_M_fromLetters_1 : decode c_M_fromLetters 1 = .ok (.istore_n 3, 1) := by decide +kernel
theorem d_M_fromLetters_2 : decode c_M_fromLetters 2 = .ok (.iconst 0, 1) := by decide +kernel
theorem d_M_fromLetters_3 : decode c_M_fromLetters 3 = .ok (.istore 4, 2) := by decide +kernel
theorem d_M_fromLetters_5 : decode c_M_fromLetters 5 = .ok (.iload_n 1, 1) := by decide +kernel
theorem d_M_fromLetters_6 : decode c_M_fromLetters 6 = .ok (.istore 5, 2) := by decide +kernel
theorem d_M_fromLetters_8 : decode c_M_fromLetters 8 = .ok (.iload 5, 2) := by decide +kernel
theorem d_M_fromLetters_10 : decode c_M_fromLetters 10 = .ok (.iload_n 2, 1) := by decide +kernel
theorem d_M_fromLetters_11 : decode c_M_fromLetters 11 = .ok (.if_icmp .ge 93, 3) := by decide +kernel
theorem d_M_fromLetters_14 : decode c_M_fromLetters 14 = .ok (.aload_n 0, 1) := by decide +kernel
theorem d_M_fromLetters_15 : decode c_M_fromLetters 15 = .ok (.getfield 13, 3) := by decide +kernel
theorem d_M_fromLetters_18 : decode c_M_fromLetters 18 = .ok (.iload 5, 2) := by decide +kernel
theorem d_M_fromLetters_20 : decode c_M_fromLetters 20 = .ok (.iaload, 1) := by decide +kernel
theorem d_M_fromLetters_21 : decode c_M_fromLetters 21 = .ok (.bipush 61, 2) := by decide +kernel
theorem d_M_fromLetters_23 : decode c_M_fromLetters 23 = .ok (.if_icmp .eq 81, 3) := by decide +kernel
theorem d_M_fromLetters_26 : decode c_M_fromLetters 26 = .ok (.aload_n 0, 1) := by decide +kernel
theorem d_M_fromLetters_27 : decode c_M_fromLetters 27 = .ok (.getfield 13, 3) := by decide +kernel
theorem d_M_fromLetters_30 : decode c_M_fromLetters 30 = .ok (.iload 5, 2) := by decide +kernel
theorem d_M_fromLetters_32 : decode c_M_fromLetters 32 = .ok (.iaload, 1) := by decide +kernel
theorem d_M_fromLetters_33 : decode c_M_fromLetters 33 = .ok (.invokestatic 178, 3) := by decide +kernel
theorem d_M_fromLetters_36 : decode c_M_fromLetters 36 = .ok (.istore 6, 2) := by decide +kernel
theorem d_M_fromLetters_38 : decode c_M_fromLetters 38 = .ok (.iload 6, 2) := by decide +kernel
theorem d_M_fromLetters_40 : decode c_M_fromLetters 40 = .ok (.ifCond .lt 58, 3) := by decide +kernel
theorem d_M_fromLetters_43 : decode c_M_fromLetters 43 = .ok (.iload_n 3, 1) := by decide +kernel
theorem d_M_fromLetters_44 : decode c_M_fromLetters 44 = .ok (.bipush 6, 2) := by decide +kernel
theorem d_M_fromLetters_46 : decode c_M_fromLetters 46 = .ok (.ishl, 1) := by decide +kernel
theorem d_M_fromLetters_47 : decode c_M_fromLetters 47 = .ok (.iload 6, 2) := by decide +kernel
theorem d_M_fromLetters_49 : decode c_M_fromLetters 49 = .ok (.ior, 1) := by decide +kernel
theorem d_M_fromLetters_50 : decode c_M_fromLetters 50 = .ok (.istore_n 3, 1) := by decide +kernel
theorem d_M_fromLetters_51 : decode c_M_fromLetters 51 = .ok (.iinc 4 1, 3) := by decide +kernel
theorem d_M_fromLetters_54 : decode c_M_fromLetters 54 = .ok (.iload 4, 2) := by decide +kernel
theorem d_M_fromLetters_56 : decode c_M_fromLetters 56 = .ok (.iconst 4, 1) := by decide +kernel
theorem d_M_fromLetters_57 : decode c_M_fromLetters 57 = .ok (.if_icmp .ne 41, 3) := by decide +kernel
theorem d_M_fromLetters_60 : decode c_M_fromLetters 60 = .ok (.aload_n 0, 1) := by decide +kernel
theorem d_M_fromLetters_61 : decode c_M_fromLetters 61 = .ok (.iload_n 3, 1) := by decide +kernel
theorem d_M_fromLetters_62 : decode c_M_fromLetters 62 = .ok (.bipush 16, 2) := by decide +kernel
theorem d_M_fromLetters_64 : decode c_M_fromLetters 64 = .ok (.ishr, 1) := by decide +kernel
theorem d_M_fromLetters_65 : decode c_M_fromLetters 65 = .ok (.sipush 255, 3) := by decide +kernel
theorem d_M_fromLetters_68 : decode c_M_fromLetters 68 = .ok (.iand, 1) := by decide +kernel
theorem d_M_fromLetters_69 : decode c_M_fromLetters 69 = .ok (.invokevirtual 66, 3) := by decide +kernel
theorem d_M_fromLetters_72 : decode c_M_fromLetters 72 = .ok (.aload_n 0, 1) := by decide +kernel
theorem d_M_fromLetters_73 : decode c_M_fromLetters 73 = .ok (.iload_n 3, 1) := by decide +kernel
theorem d_M_fromLetters_74 : decode c_M_fromLetters 74 = .ok (.bipush 8, 2) := by decide +kernel
theorem d_M_fromLetters_76 : decode c_M_fromLetters 76 = .ok (.ishr, 1) := by decide +kernel
theorem d_M_fromLetters_77 : decode c_M_fromLetters 77 = .ok (.sipush 255, 3) := by decide +kernel
theorem d_M_fromLetters_80 : decode c_M_fromLetters 80 = .ok (.iand, 1) := by decide +kernel
theorem d_M_fromLetters_81 : decode c_M_fromLetters 81 = .ok (.invokevirtual 66, 3) := by decide +kernel
theorem d_M_fromLetters_84 : decode c_M_fromLetters 84 = .ok (.aload_n 0, 1) := by decide +kernel
theorem d_M_fromLetters_85 : decode c_M_fromLetters 85 = .ok (.iload_n 3, 1) := by decide +kernel
theorem d_M_fromLetters_86 : decode c_M_fromLetters 86 = .ok (.sipush 255, 3) := by decide +kernel
theorem d_M_fromLetters_89 : decode c_M_fromLetters 89 = .ok (.iand, 1) := by decide +kernel
theorem d_M_fromLetters_90 : decode c_M_fromLetters 90 = .ok (.invokevirtual 66, 3) := by decide +kernel
theorem d_M_fromLetters_93 : decode c_M_fromLetters 93 = .ok (.iconst 0, 1) := by decide +kernel
theorem d_M_fromLetters_94 : decode c_M_fromLetters 94 = .ok (.istore_n 3, 1) := by decide +kernel
theorem d_M_fromLetters_95 : decode c_M_fromLetters 95 = .ok (.iconst 0, 1) := by decide +kernel
theorem d_M_fromLetters_96 : decode c_M_fromLetters 96 = .ok (.istore 4, 2) := by decide +kernel
theorem d_M_fromLetters_98 : decode c_M_fromLetters 98 = .ok (.iinc 5 1, 3) := by decide +kernel
theorem d_M_fromLetters_101 : decode c_M_fromLetters 101 = .ok (.goto (-93), 3) := by decide +kernel
theorem d_M_fromLetters_104 : decode c_M_fromLetters 104 = .ok (.iload 4, 2) := by decide +kernel
theorem d_M_fromLetters_106 : decode c_M_fromLetters 106 = .ok (.iconst 3, 1) := by decide +kernel
theorem d_M_fromLetters_107 : decode c_M_fromLetters 107 = .ok (.if_icmp .ne 26, 3) := by decide +kernel
theorem d_M_fromLetters_110 : decode c_M_fromLetters 110 = .ok (.aload_n 0, 1) := by decide +kernel
theorem d_M_fromLetters_111 : decode c_M_fromLetters 111 = .ok (.iload_n 3, 1) := by decide +kernel
theorem d_M_fromLetters_112 : decode c_M_fromLetters 112 = .ok (.bipush 10, 2) := by decide +kernel
theorem d_M_fromLetters_114 : decode c_M_fromLetters 114 = .ok (.ishr, 1) := by decide +kernel
theorem d_M_fromLetters_115 : decode c_M_fromLetters 115 = .ok (.sipush 255, 3) := by decide +kernel
theorem d_M_fromLetters_118 : decode c_M_fromLetters 118 = .ok (.iand, 1) := by decide +kernel
theorem d_M_fromLetters_119 : decode c_M_fromLetters 119 = .ok (.invokevirtual 66, 3) := by decide +kernel
theorem d_M_fromLetters_122 : decode c_M_fromLetters 122 = .ok (.aload_n 0, 1) := by decide +kernel
theorem d_M_fromLetters_123 : decode c_M_fromLetters 123 = .ok (.iload_n 3, 1) := by decide +kernel
theorem d_M_fromLetters_124 : decode c_M_fromLetters 124 = .ok (.iconst 2, 1) := by decide +kernel
theorem d_M_fromLetters_125 : decode c_M_fromLetters 125 = .ok (.ishr, 1) := by decide +kernel
theorem d_M_fromLetters_126 : decode c_M_fromLetters 126 = .ok (.sipush 255, 3) := by decide +kernel
theorem d_M_fromLetters_129 : decode c_M_fromLetters 129 = .ok (.iand, 1) := by decide +kernel
theorem d_M_fromLetters_130 : decode c_M_fromLetters 130 = .ok (.invokevirtual 66, 3) := by decide +kernel
theorem d_M_fromLetters_133 : decode c_M_fromLetters 133 = .ok (.iload 4, 2) := by decide +kernel
theorem d_M_fromLetters_135 : decode c_M_fromLetters 135 = .ok (.iconst 2, 1) := by decide +kernel
theorem d_M_fromLetters_136 : decode c_M_fromLetters 136 = .ok (.if_icmp .ne 14, 3) := by decide +kernel
theorem d_M_fromLetters_139 : decode c_M_fromLetters 139 = .ok (.aload_n 0, 1) := by decide +kernel
theorem d_M_fromLetters_140 : decode c_M_fromLetters 140 = .ok (.iload_n 3, 1) := by decide +kernel
theorem d_M_fromLetters_141 : decode c_M_fromLetters 141 = .ok (.iconst 4, 1) := by decide +kernel
theorem d_M_fromLetters_142 : decode c_M_fromLetters 142 = .ok (.ishr, 1) := by decide +kernel
theorem d_M_fromLetters_143 : decode c_M_fromLetters 143 = .ok (.sipush 255, 3) := by decide +kernel
theorem d_M_fromLetters_146 : decode c_M_fromLetters 146 = .ok (.iand, 1) := by decide +kernel
theorem d_M_fromLetters_147 : decode c_M_fromLetters 147 = .ok (.invokevirtual 66, 3) := by decide +kernel
theorem d_M_fromLetters_150 : decode c_M_fromLetters 150 = .ok (.return_, 1) := by decide +kernel
theorem d_M_letter1_0 : decode c_M_letter1 0 = .ok (.iload_n 0, 1) := by decide +kernel
theorem d_M_letter1_1 : decode c_M_letter1 1 = .ok (.bipush 65, 2) := by decide +kernel
theorem d_M_letter1_3 : decode c_M_letter1 3 = .ok (.if_icmp .lt 14, 3) := by decide +kernel
theorem d_M_letter1_6 : decode c_M_letter1 6 = .ok (.iload_n 0, 1) := by decide +kernel
theorem d_M_letter1_7 : decode c_M_letter1 7 = .ok (.bipush 90, 2) := by decide +kernel
theorem d_M_letter1_9 : decode c_M_letter1 9 = .ok (.if_icmp .gt 8, 3) := by decide +kernel
theorem d_M_letter1_12 : decode c_M_letter1 12 = .ok (.iload_n 0, 1) := by decide +kernel
theorem d_M_letter1_13 : decode c_M_letter1 13 = .ok (.bipush 65, 2) := by decide +kernel
theorem d_M_letter1_15 : decode c_M_letter1 15 = .ok (.isub, 1) := by decide +kernel
theorem d_M_letter1_16 : decode c_M_letter1 16 = .ok (.ireturn, 1) := by decide +kernel
theorem d_M_letter1_17 : decode c_M_letter1 17 = .ok (.iload_n 0, 1) := by decide +kernel
theorem d_M_letter1_18 : decode c_M_letter1 18 = .ok (.bipush 97, 2) := by decide +kernel
theorem d_M_letter1_20 : decode c_M_letter1 20 = .ok (.if_icmp .lt 14, 3) := by decide +kernel
theorem d_M_letter1_23 : decode c_M_letter1 23 = .ok (.iload_n 0, 1) := by decide +kernel
theorem d_M_letter1_24 : decode c_M_letter1 24 = .ok (.bipush 122, 2) := by decide +kernel
end
section
theorem d_M_letter1_26 : decode c_M_letter1 26 = .ok (.if_icmp .gt 8, 3) := by decide +kernel
theorem d_M_letter1_29 : decode c_M_letter1 29 = .ok (.iload_n 0, 1) := by decide +kernel
theorem d_M_letter1_30 : decode c_M_letter1 30 = .ok (.bipush 71, 2) := by decide +kernel
theorem d_M_letter1_32 : decode c_M_letter1 32 = .ok (.isub, 1) := by decide +kernel
theorem d_M_letter1_33 : decode c_M_letter1 33 = .ok (.ireturn, 1) := by decide +kernel
theorem d_M_letter1_34 : decode c_M_letter1 34 = .ok (.iload_n 0, 1) := by decide +kernel
theorem d_M_letter1_35 : decode c_M_letter1 35 = .ok (.bipush 48, 2) := by decide +kernel
theorem d_M_letter1_37 : decode c_M_letter1 37 = .ok (.if_icmp .lt 13, 3) := by decide +kernel
theorem d_M_letter1_40 : decode c_M_letter1 40 = .ok (.iload_n 0, 1) := by decide +kernel
theorem d_M_letter1_41 : decode c_M_letter1 41 = .ok (.bipush 57, 2) := by decide +kernel
theorem d_M_letter1_43 : decode c_M_letter1 43 = .ok (.if_icmp .gt 7, 3) := by decide +kernel
theorem d_M_letter1_46 : decode c_M_letter1 46 = .ok (.iload_n 0, 1) := by decide +kernel
theorem d_M_letter1_47 : decode c_M_letter1 47 = .ok (.iconst 4, 1) := by decide +kernel
theorem d_M_letter1_48 : decode c_M_letter1 48 = .ok (.iadd, 1) := by decide +kernel
theorem d_M_letter1_49 : decode c_M_letter1 49 = .ok (.ireturn, 1) := by decide +kernel
theorem d_M_letter1_50 : decode c_M_letter1 50 = .ok (.iload_n 0, 1) := by decide +kernel
theorem d_M_letter1_51 : decode c_M_letter1 51 = .ok (.bipush 43, 2) := by decide +kernel
theorem d_M_letter1_53 : decode c_M_letter1 53 = .ok (.if_icmp .ne 8, 3) := by decide +kernel
theorem d_M_letter1_56 : decode c_M_letter1 56 = .ok (.bipush 62, 2) := by decide +kernel
theorem d_M_letter1_58 : decode c_M_letter1 58 = .ok (.goto 15, 3) := by decide +kernel
theorem d_M_letter1_61 : decode c_M_letter1 61 = .ok (.iload_n 0, 1) := by decide +kernel
theorem d_M_letter1_62 : decode c_M_letter1 62 = .ok (.bipush 47, 2) := by decide +kernel
theorem d_M_letter1_64 : decode c_M_letter1 64 = .ok (.if_icmp .ne 8, 3) := by decide +kernel
theorem d_M_letter1_67 : decode c_M_letter1 67 = .ok (.bipush 63, 2) := by decide +kernel
theorem d_M_letter1_69 : decode c_M_letter1 69 = .ok (.goto 4, 3) := by decide +kernel
theorem d_M_letter1_72 : decode c_M_letter1 72 = .ok (.iconst (-1), 1) := by decide +kernel
theorem d_M_letter1_73 : decode c_M_letter1 73 = .ok (.ireturn, 1) := by decide +kernel
theorem d_M_fromQuoted_0 : decode c_M_fromQuoted 0 = .ok (.iload_n 1, 1) := by decide +kernel
theorem d_M_fromQuoted_1 : decode c_M_fromQuoted 1 = .ok (.istore_n 3, 1) := by decide +kernel
theorem d_M_fromQuoted_2 : decode c_M_fromQuoted 2 = .ok (.iload_n 3, 1) := by decide +kernel
theorem d_M_fromQuoted_3 : decode c_M_fromQuoted 3 = .ok (.iload_n 2, 1) := by decide +kernel
theorem d_M_fromQuoted_4 : decode c_M_fromQuoted 4 = .ok (.if_icmp .ge 177, 3) := by decide +kernel
theorem d_M_fromQuoted_7 : decode c_M_fromQuoted 7 = .ok (.aload_n 0, 1) := by decide +kernel
theorem d_M_fromQuoted_8 : decode c_M_fromQuoted 8 = .ok (.getfield 13, 3) := by decide +kernel
theorem d_M_fromQuoted_11 : decode c_M_fromQuoted 11 = .ok (.iload_n 3, 1) := by decide +kernel
theorem d_M_fromQuoted_12 : decode c_M_fromQuoted 12 = .ok (.iaload, 1) := by decide +kernel
theorem d_M_fromQuoted_13 : decode c_M_fromQuoted 13 = .ok (.istore 4, 2) := by decide +kernel
theorem d_M_fromQuoted_15 : decode c_M_fromQuoted 15 = .ok (.aload_n 0, 1) := by decide +kernel
theorem d_M_fromQuoted_16 : decode c_M_fromQuoted 16 = .ok (.iload 4, 2) := by decide +kernel
theorem d_M_fromQuoted_18 : decode c_M_fromQuoted 18 = .ok (.bipush 61, 2) := by decide +kernel
theorem d_M_fromQuoted_20 : decode c_M_fromQuoted 20 = .ok (.if_icmp .ne 9, 3) := by decide +kernel
theorem d_M_fromQuoted_23 : decode c_M_fromQuoted 23 = .ok (.iload_n 3, 1) := by decide +kernel
theorem d_M_fromQuoted_24 : decode c_M_fromQuoted 24 = .ok (.iconst 1, 1) := by decide +kernel
theorem d_M_fromQuoted_25 : decode c_M_fromQuoted 25 = .ok (.iadd, 1) := by decide +kernel
theorem d_M_fromQuoted_26 : decode c_M_fromQuoted 26 = .ok (.goto 4, 3) := by decide +kernel
theorem d_M_fromQuoted_29 : decode c_M_fromQuoted 29 = .ok (.iload_n 3, 1) := by decide +kernel
theorem d_M_fromQuoted_30 : decode c_M_fromQuoted 30 = .ok (.iload_n 2, 1) := by decide +kernel
theorem d_M_fromQuoted_31 : decode c_M_fromQuoted 31 = .ok (.invokevirtual 181, 3) := by decide +kernel
theorem d_M_fromQuoted_34 : decode c_M_fromQuoted 34 = .ok (.istore 5, 2) := by decide +kernel
theorem d_M_fromQuoted_36 : decode c_M_fromQuoted 36 = .ok (.aload_n 0, 1) := by decide +kernel
theorem d_M_fromQuoted_37 : decode c_M_fromQuoted 37 = .ok (.iload 5, 2) := by decide +kernel
theorem d_M_fromQuoted_39 : decode c_M_fromQuoted 39 = .ok (.iload_n 2, 1) := by decide +kernel
theorem d_M_fromQuoted_40 : decode c_M_fromQuoted 40 = .ok (.invokevirtual 184, 3) := by decide +kernel
theorem d_M_fromQuoted_43 : decode c_M_fromQuoted 43 = .ok (.istore 6, 2) := by decide +kernel
theorem d_M_fromQuoted_45 : decode c_M_fromQuoted 45 = .ok (.iload 4, 2) := by decide +kernel
theorem d_M_fromQuoted_47 : decode c_M_fromQuoted 47 = .ok (.bipush 61, 2) := by decide +kernel
theorem d_M_fromQuoted_49 : decode c_M_fromQuoted 49 = .ok (.if_icmp .ne 74, 3) := by decide +kernel
theorem d_M_fromQuoted_52 : decode c_M_fromQuoted 52 = .ok (.iload_n 3, 1) := by decide +kernel
theorem d_M_fromQuoted_53 : decode c_M_fromQuoted 53 = .ok (.iconst 2, 1) := by decide +kernel
theorem d_M_fromQuoted_54 : decode c_M_fromQuoted 54 = .ok (.iadd, 1) := by decide +kernel
theorem d_M_fromQuoted_55 : decode c_M_fromQuoted 55 = .ok (.iload_n 2, 1) := by decide +kernel
theorem d_M_fromQuoted_56 : decode c_M_fromQuoted 56 = .ok (.if_icmp .ge 67, 3) := by decide +kernel
theorem d_M_fromQuoted_59 : decode c_M_fromQuoted 59 = .ok (.aload_n 0, 1) := by decide +kernel
theorem d_M_fromQuoted_60 : decode c_M_fromQuoted 60 = .ok (.getfield 13, 3) := by decide +kernel
theorem d_M_fromQuoted_63 : decode c_M_fromQuoted 63 = .ok (.iload_n 3, 1) := by decide +kernel
theorem d_M_fromQuoted_64 : decode c_M_fromQuoted 64 = .ok (.iconst 1, 1) := by decide +kernel
theorem d_M_fromQuoted_65 : decode c_M_fromQuoted 65 = .ok (.iadd, 1) := by decide +kernel
theorem d_M_fromQuoted_66 : decode c_M_fromQuoted 66 = .ok (.iaload, 1) := by decide +kernel
theorem d_M_fromQuoted_67 : decode c_M_fromQuoted 67 = .ok (.invokestatic 187, 3) := by decide +kernel
theorem d_M_fromQuoted_70 : decode c_M_fromQuoted 70 = .ok (.ifCond .lt 53, 3) := by decide +kernel
theorem d_M_fromQuoted_73 : decode c_M_fromQuoted 73 = .ok (.aload_n 0, 1) := by decide +kernel
theorem d_M_fromQuoted_74 : decode c_M_fromQuoted 74 = .ok (.getfield 13, 3) := by decide +kernel
theorem d_M_fromQuoted_77 : decode c_M_fromQuoted 77 = .ok (.iload_n 3, 1) := by decide +kernel
theorem d_M_fromQuoted_78 : decode c_M_fromQuoted 78 = .ok (.iconst 2, 1) := by decide +kernel
theorem d_M_fromQuoted_79 : decode c_M_fromQuoted 79 = .ok (.iadd, 1) := by decide +kernel
theorem d_M_fromQuoted_80 : decode c_M_fromQuoted 80 = .ok (.iaload, 1) := by decide +kernel
theorem d_M_fromQuoted_81 : decode c_M_fromQuoted 81 = .ok (.invokestatic 187, 3) := by decide +kernel
theorem d_M_fromQuoted_84 : decode c_M_fromQuoted 84 = .ok (.ifCond .lt 39, 3) := by decide +kernel
theorem d_M_fromQuoted_87 : decode c_M_fromQuoted 87 = .ok (.aload_n 0, 1) := by decide +kernel
theorem d_M_fromQuoted_88 : decode c_M_fromQuoted 88 = .ok (.bipush 16, 2) := by decide +kernel
theorem d_M_fromQuoted_90 : decode c_M_fromQuoted 90 = .ok (.aload_n 0, 1) := by decide +kernel
theorem d_M_fromQuoted_91 : decode c_M_fromQuoted 91 = .ok (.getfield 13, 3) := by decide +kernel
theorem d_M_fromQuoted_94 : decode c_M_fromQuoted 94 = .ok (.iload_n 3, 1) := by decide +kernel
theorem d_M_fromQuoted_95 : decode c_M_fromQuoted 95 = .ok (.iconst 1, 1) := by decide +kernel
theorem d_M_fromQuoted_96 : decode c_M_fromQuoted 96 = .ok (.iadd, 1) := by decide +kernel
theorem d_M_fromQuoted_97 : decode c_M_fromQuoted 97 = .ok (.iaload, 1) := by decide +kernel
theorem d_M_fromQuoted_98 : decode c_M_fromQuoted 98 = .ok (.invokestatic 187, 3) := by decide +kernel
theorem d_M_fromQuoted_101 : decode c_M_fromQuoted 101 = .ok (.imul, 1) := by decide +kernel
theorem d_M_fromQuoted_102 : decode c_M_fromQuoted 102 = .ok (.aload_n 0, 1) := by decide +kernel
theorem d_M_fromQuoted_103 : decode c_M_fromQuoted 103 = .ok (.getfield 13, 3) := by decide +kernel
theorem d_M_fromQuoted_106 : decode c_M_fromQuoted 106 = .ok (.iload_n 3, 1) := by decide +kernel
theorem d_M_fromQuoted_107 : decode c_M_fromQuoted 107 = .ok (.iconst 2, 1) := by decide +kernel
theorem d_M_fromQuoted_108 : decode c_M_fromQuoted 108 = .ok (.iadd, 1) := by decide +kernel
theorem d_M_fromQuoted_109 : decode c_M_fromQuoted 109 = .ok (.iaload, 1) := by decide +kernel
theorem d_M_fromQuoted_110 : decode c_M_fromQuoted 110 = .ok (.invokestatic 187, 3) := by decide +kernel
theorem d_M_fromQuoted_113 : decode c_M_fromQuoted 113 = .ok (.iadd, 1) := by decide +kernel
theorem d_M_fromQuoted_114 : decode c_M_fromQuoted 114 = .ok (.invokevirtual 66, 3) := by decide +kernel
theorem d_M_fromQuoted_117 : decode c_M_fromQuoted 117 = .ok (.iinc 3 3, 3) := by decide +kernel
theorem d_M_fromQuoted_120 : decode c_M_fromQuoted 120 = .ok (.goto 58, 3) := by decide +kernel
theorem d_M_fromQuoted_123 : decode c_M_fromQuoted 123 = .ok (.iload 4, 2) := by decide +kernel
theorem d_M_fromQuoted_125 : decode c_M_fromQuoted 125 = .ok (.bipush 61, 2) := by decide +kernel
theorem d_M_fromQuoted_127 : decode c_M_fromQuoted 127 = .ok (.if_icmp .ne 17, 3) := by decide +kernel
theorem d_M_fromQuoted_130 : decode c_M_fromQuoted 130 = .ok (.iload 6, 2) := by decide +kernel
theorem d_M_fromQuoted_132 : decode c_M_fromQuoted 132 = .ok (.ifCond .le 12, 3) := by decide +kernel
theorem d_M_fromQuoted_135 : decode c_M_fromQuoted 135 = .ok (.iload 5, 2) := by decide +kernel
theorem d_M_fromQuoted_137 : decode c_M_fromQuoted 137 = .ok (.iload 6, 2) := by decide +kernel
theorem d_M_fromQuoted_139 : decode c_M_fromQuoted 139 = .ok (.iadd, 1) := by decide +kernel
theorem d_M_fromQuoted_140 : decode c_M_fromQuoted 140 = .ok (.istore_n 3, 1) := by decide +kernel
theorem d_M_fromQuoted_141 : decode c_M_fromQuoted 141 = .ok (.goto 37, 3) := by decide +kernel
theorem d_M_fromQuoted_144 : decode c_M_fromQuoted 144 = .ok (.iload 4, 2) := by decide +kernel
theorem d_M_fromQuoted_146 : decode c_M_fromQuoted 146 = .ok (.invokestatic 62, 3) := by decide +kernel
theorem d_M_fromQuoted_149 : decode c_M_fromQuoted 149 = .ok (.ifCond .eq 20, 3) := by decide +kernel
theorem d_M_fromQuoted_152 : decode c_M_fromQuoted 152 = .ok (.iload 6, 2) := by decide +kernel
theorem d_M_fromQuoted_154 : decode c_M_fromQuoted 154 = .ok (.ifCond .gt 9, 3) := by decide +kernel
theorem d_M_fromQuoted_157 : decode c_M_fromQuoted 157 = .ok (.iload 5, 2) := by decide +kernel
theorem d_M_fromQuoted_159 : decode c_M_fromQuoted 159 = .ok (.iload_n 2, 1) := by decide +kernel
theorem d_M_fromQuoted_160 : decode c_M_fromQuoted 160 = .ok (.if_icmp .ne 9, 3) := by decide +kernel
theorem d_M_fromQuoted_163 : decode c_M_fromQuoted 163 = .ok (.iload 5, 2) := by decide +kernel
theorem d_M_fromQuoted_165 : decode c_M_fromQuoted 165 = .ok (.istore_n 3, 1) := by decide +kernel
theorem d_M_fromQuoted_166 : decode c_M_fromQuoted 166 = .ok (.goto 12, 3) := by decide +kernel
theorem d_M_fromQuoted_169 : decode c_M_fromQuoted 169 = .ok (.aload_n 0, 1) := by decide +kernel
theorem d_M_fromQuoted_170 : decode c_M_fromQuoted 170 = .ok (.iload 4, 2) := by decide +kernel
theorem d_M_fromQuoted_172 : decode c_M_fromQuoted 172 = .ok (.invokevirtual 66, 3) := by decide +kernel
theorem d_M_fromQuoted_175 : decode c_M_fromQuoted 175 = .ok (.iinc 3 1, 3) := by decide +kernel
theorem d_M_fromQuoted_178 : decode c_M_fromQuoted 178 = .ok (.goto (-176), 3) := by decide +kernel
theorem d_M_fromQuoted_181 : decode c_M_fromQuoted 181 = .ok (.return_, 1) := by decide +kernel
theorem d_M_behindBlanks_0 : decode c_M_behindBlanks 0 = .ok (.iload_n 1, 1) := by decide +kernel
theorem d_M_behindBlanks_1 : decode c_M_behindBlanks 1 = .ok (.istore_n 3, 1) := by decide +kernel
theorem d_M_behindBlanks_2 : decode c_M_behindBlanks 2 = .ok (.iload_n 3, 1) := by decide +kernel
theorem d_M_behindBlanks_3 : decode c_M_behindBlanks 3 = .ok (.iload_n 2, 1) := by decide +kernel
theorem d_M_behindBlanks_4 : decode c_M_behindBlanks 4 = .ok (.if_icmp .ge 21, 3) := by decide +kernel
theorem d_M_behindBlanks_7 : decode c_M_behindBlanks 7 = .ok (.aload_n 0, 1) := by decide +kernel
theorem d_M_behindBlanks_8 : decode c_M_behindBlanks 8 = .ok (.getfield 13, 3) := by decide +kernel
theorem d_M_behindBlanks_11 : decode c_M_behindBlanks 11 = .ok (.iload_n 3, 1) := by decide +kernel
theorem d_M_behindBlanks_12 : decode c_M_behindBlanks 12 = .ok (.iaload, 1) := by decide +kernel
theorem d_M_behindBlanks_13 : decode c_M_behindBlanks 13 = .ok (.invokestatic 62, 3) := by decide +kernel
theorem d_M_behindBlanks_16 : decode c_M_behindBlanks 16 = .ok (.ifCond .eq 9, 3) := by decide +kernel
theorem d_M_behindBlanks_19 : decode c_M_behindBlanks 19 = .ok (.iinc 3 1, 3) := by decide +kernel
theorem d_M_behindBlanks_22 : decode c_M_behindBlanks 22 = .ok (.goto (-20), 3) := by decide +kernel
theorem d_M_behindBlanks_25 : decode c_M_behindBlanks 25 = .ok (.iload_n 3, 1) := by decide +kernel
theorem d_M_behindBlanks_26 : decode c_M_behindBlanks 26 = .ok (.ireturn, 1) := by decide +kernel
theorem d_M_lineBreak_0 : decode c_M_lineBreak 0 = .ok (.iload_n 1, 1) := by decide +kernel
theorem d_M_lineBreak_1 : decode c_M_lineBreak 1 = .ok (.iload_n 2, 1) := by decide +kernel
theorem d_M_lineBreak_2 : decode c_M_lineBreak 2 = .ok (.if_icmp .ge 16, 3) := by decide +kernel
theorem d_M_lineBreak_5 : decode c_M_lineBreak 5 = .ok (.aload_n 0, 1) := by decide +kernel
theorem d_M_lineBreak_6 : decode c_M_lineBreak 6 = .ok (.getfield 13, 3) := by decide +kernel
theorem d_M_lineBreak_9 : decode c_M_lineBreak 9 = .ok (.iload_n 1, 1) := by decide +kernel
theorem d_M_lineBreak_10 : decode c_M_lineBreak 10 = .ok (.iaload, 1) := by decide +kernel
theorem d_M_lineBreak_11 : decode c_M_lineBreak 11 = .ok (.bipush 10, 2) := by decide +kernel
theorem d_M_lineBreak_13 : decode c_M_lineBreak 13 = .ok (.if_icmp .ne 5, 3) := by decide +kernel
theorem d_M_lineBreak_16 : decode c_M_lineBreak 16 = .ok (.iconst 1, 1) := by decide +kernel
theorem d_M_lineBreak_17 : decode c_M_lineBreak 17 = .ok (.ireturn, 1) := by decide +kernel
theorem d_M_lineBreak_18 : decode c_M_lineBreak 18 = .ok (.iload_n 1, 1) := by decide +kernel
theorem d_M_lineBreak_19 : decode c_M_lineBreak 19 = .ok (.iconst 1, 1) := by decide +kernel
theorem d_M_lineBreak_20 : decode c_M_lineBreak 20 = .ok (.iadd, 1) := by decide +kernel
theorem d_M_lineBreak_21 : decode c_M_lineBreak 21 = .ok (.iload_n 2, 1) := by decide +kernel
theorem d_M_lineBreak_22 : decode c_M_lineBreak 22 = .ok (.if_icmp .ge 31, 3) := by decide +kernel
theorem d_M_lineBreak_25 : decode c_M_lineBreak 25 = .ok (.aload_n 0, 1) := by decide +kernel
theorem d_M_lineBreak_26 : decode c_M_lineBreak 26 = .ok (.getfield 13, 3) := by decide +kernel
theorem d_M_lineBreak_29 : decode c_M_lineBreak 29 = .ok (.iload_n 1, 1) := by decide +kernel
theorem d_M_lineBreak_30 : decode c_M_lineBreak 30 = .ok (.iaload, 1) := by decide +kernel
theorem d_M_lineBreak_31 : decode c_M_lineBreak 31 = .ok (.bipush 13, 2) := by decide +kernel
theorem d_M_lineBreak_33 : decode c_M_lineBreak 33 = .ok (.if_icmp .ne 20, 3) := by decide +kernel
theorem d_M_lineBreak_36 : decode c_M_lineBreak 36 = .ok (.aload_n 0, 1) := by decide +kernel
theorem d_M_lineBreak_37 : decode c_M_lineBreak 37 = .ok (.getfield 13, 3) := by decide +kernel
theorem d_M_lineBreak_40 : decode c_M_lineBreak 40 = .ok (.iload_n 1, 1) := by decide +kernel
theorem d_M_lineBreak_41 : decode c_M_lineBreak 41 = .ok (.iconst 1, 1) := by decide +kernel
theorem d_M_lineBreak_42 : decode c_M_lineBreak 42 = .ok (.iadd, 1) := by decide +kernel
theorem d_M_lineBreak_43 : decode c_M_lineBreak 43 = .ok (.iaload, 1) := by decide +kernel
theorem d_M_lineBreak_44 : decode c_M_lineBreak 44 = .ok (.bipush 10, 2) := by decide +kernel
theorem d_M_lineBreak_46 : decode c_M_lineBreak 46 = .ok (.if_icmp .ne 7, 3) := by decide +kernel
theorem d_M_lineBreak_49 : decode c_M_lineBreak 49 = .ok (.iconst 2, 1) := by decide +kernel
theorem d_M_lineBreak_50 : decode c_M_lineBreak 50 = .ok (.goto 4, 3) := by decide +kernel
theorem d_M_lineBreak_53 : decode c_M_lineBreak 53 = .ok (.iconst 0, 1) := by decide +kernel
theorem d_M_lineBreak_54 : decode c_M_lineBreak 54 = .ok (.ireturn, 1) := by decide +kernel
theorem d_M_hex_0 : decode c_M_hex 0 = .ok (.iload_n 0, 1) := by decide +kernel
theorem d_M_hex_1 : decode c_M_hex 1 = .ok (.bipush 48, 2) := by decide +kernel
theorem d_M_hex_3 : decode c_M_hex 3 = .ok (.if_icmp .lt 14, 3) := by decide +kernel
theorem d_M_hex_6 : decode c_M_hex 6 = .ok (.iload_n 0, 1) := by decide +kernel
theorem d_M_hex_7 : decode c_M_hex 7 = .ok (.bipush 57, 2) := by decide +kernel
theorem d_M_hex_9 : decode c_M_hex 9 = .ok (.if_icmp .gt 8, 3) := by decide +kernel
theorem d_M_hex_12 : decode c_M_hex 12 = .ok (.iload_n 0, 1) := by decide +kernel
theorem d_M_hex_13 : decode c_M_hex 13 = .ok (.bipush 48, 2) := by decide +kernel
theorem d_M_hex_15 : decode c_M_hex 15 = .ok (.isub, 1) := by decide +kernel
theorem d_M_hex_16 : decode c_M_hex 16 = .ok (.ireturn, 1) := by decide +kernel
theorem d_M_hex_17 : decode c_M_hex 17 = .ok (.iload_n 0, 1) := by decide +kernel
theorem d_M_hex_18 : decode c_M_hex 18 = .ok (.bipush 65, 2) := by decide +kernel
theorem d_M_hex_20 : decode c_M_hex 20 = .ok (.if_icmp .lt 14, 3) := by decide +kernel
theorem d_M_hex_23 : decode c_M_hex 23 = .ok (.iload_n 0, 1) := by decide +kernel
theorem d_M_hex_24 : decode c_M_hex 24 = .ok (.bipush 70, 2) := by decide +kernel
theorem d_M_hex_26 : decode c_M_hex 26 = .ok (.if_icmp .gt 8, 3) := by decide +kernel
theorem d_M_hex_29 : decode c_M_hex 29 = .ok (.iload_n 0, 1) := by decide +kernel
theorem d_M_hex_30 : decode c_M_hex 30 = .ok (.bipush 55, 2) := by decide +kernel
theorem d_M_hex_32 : decode c_M_hex 32 = .ok (.isub, 1) := by decide +kernel
theorem d_M_hex_33 : decode c_M_hex 33 = .ok (.ireturn, 1) := by decide +kernel
theorem d_M_hex_34 : decode c_M_hex 34 = .ok (.iload_n 0, 1) := by decide +kernel
theorem d_M_hex_35 : decode c_M_hex 35 = .ok (.bipush 97, 2) := by decide +kernel
theorem d_M_hex_37 : decode c_M_hex 37 = .ok (.if_icmp .lt 16, 3) := by decide +kernel
theorem d_M_hex_40 : decode c_M_hex 40 = .ok (.iload_n 0, 1) := by decide +kernel
theorem d_M_hex_41 : decode c_M_hex 41 = .ok (.bipush 102, 2) := by decide +kernel
theorem d_M_hex_43 : decode c_M_hex 43 = .ok (.if_icmp .gt 10, 3) := by decide +kernel
theorem d_M_hex_46 : decode c_M_hex 46 = .ok (.iload_n 0, 1) := by decide +kernel
theorem d_M_hex_47 : decode c_M_hex 47 = .ok (.bipush 87, 2) := by decide +kernel
theorem d_M_hex_49 : decode c_M_hex 49 = .ok (.isub, 1) := by decide +kernel
theorem d_M_hex_50 : decode c_M_hex 50 = .ok (.goto 4, 3) := by decide +kernel
theorem d_M_hex_53 : decode c_M_hex 53 = .ok (.iconst (-1), 1) := by decide +kernel
theorem d_M_hex_54 : decode c_M_hex 54 = .ok (.ireturn, 1) := by decide +kernel
theorem d_M_parts_0 : decode c_M_parts 0 = .ok (.iconst 0, 1) := by decide +kernel
theorem d_M_parts_1 : decode c_M_parts 1 = .ok (.istore_n 2, 1) := by decide +kernel
theorem d_M_parts_2 : decode c_M_parts 2 = .ok (.aload_n 0, 1) := by decide +kernel
theorem d_M_parts_3 : decode c_M_parts 3 = .ok (.iload_n 1, 1) := by decide +kernel
theorem d_M_parts_4 : decode c_M_parts 4 = .ok (.bipush 8, 2) := by decide +kernel
theorem d_M_parts_6 : decode c_M_parts 6 = .ok (.invokevirtual 59, 3) := by decide +kernel
theorem d_M_parts_9 : decode c_M_parts 9 = .ok (.istore_n 3, 1) := by decide +kernel
theorem d_M_parts_10 : decode c_M_parts 10 = .ok (.aload_n 0, 1) := by decide +kernel
theorem d_M_parts_11 : decode c_M_parts 11 = .ok (.iload_n 1, 1) := by decide +kernel
theorem d_M_parts_12 : decode c_M_parts 12 = .ok (.bipush 9, 2) := by decide +kernel
theorem d_M_parts_14 : decode c_M_parts 14 = .ok (.invokevirtual 59, 3) := by decide +kernel
theorem d_M_parts_17 : decode c_M_parts 17 = .ok (.istore 4, 2) := by decide +kernel
theorem d_M_parts_19 : decode c_M_parts 19 = .ok (.iconst 0, 1) := by decide +kernel
theorem d_M_parts_20 : decode c_M_parts 20 = .ok (.istore 5, 2) := by decide +kernel
theorem d_M_parts_22 : decode c_M_parts 22 = .ok (.iload_n 3, 1) := by decide +kernel
theorem d_M_parts_23 : decode c_M_parts 23 = .ok (.istore 6, 2) := by decide +kernel
theorem d_M_parts_25 : decode c_M_parts 25 = .ok (.iload_n 3, 1) := by decide +kernel
theorem d_M_parts_26 : decode c_M_parts 26 = .ok (.iload 4, 2) := by decide +kernel
theorem d_M_parts_28 : decode c_M_parts 28 = .ok (.if_icmp .ge 115, 3) := by decide +kernel
theorem d_M_parts_31 : decode c_M_parts 31 = .ok (.aload_n 0, 1) := by decide +kernel
theorem d_M_parts_32 : decode c_M_parts 32 = .ok (.iload_n 3, 1) := by decide +kernel
theorem d_M_parts_33 : decode c_M_parts 33 = .ok (.iload 4, 2) := by decide +kernel
theorem d_M_parts_35 : decode c_M_parts 35 = .ok (.invokevirtual 74, 3) := by decide +kernel
theorem d_M_parts_38 : decode c_M_parts 38 = .ok (.istore 7, 2) := by decide +kernel
theorem d_M_parts_40 : decode c_M_parts 40 = .ok (.aload_n 0, 1) := by decide +kernel
theorem d_M_parts_41 : decode c_M_parts 41 = .ok (.iload_n 1, 1) := by decide +kernel
theorem d_M_parts_42 : decode c_M_parts 42 = .ok (.iload_n 3, 1) := by decide +kernel
theorem d_M_parts_43 : decode c_M_parts 43 = .ok (.iload 7, 2) := by decide +kernel
theorem d_M_parts_45 : decode c_M_parts 45 = .ok (.invokevirtual 172, 3) := by decide +kernel
theorem d_M_parts_48 : decode c_M_parts 48 = .ok (.istore 8, 2) := by decide +kernel
theorem d_M_parts_50 : decode c_M_parts 50 = .ok (.iload 8, 2) := by decide +kernel
theorem d_M_parts_52 : decode c_M_parts 52 = .ok (.ifCond .le 23, 3) := by decide +kernel
theorem d_M_parts_55 : decode c_M_parts 55 = .ok (.iload 5, 2) := by decide +kernel
theorem d_M_parts_57 : decode c_M_parts 57 = .ok (.ifCond .eq 18, 3) := by decide +kernel
theorem d_M_parts_60 : decode c_M_parts 60 = .ok (.aload_n 0, 1) := by decide +kernel
theorem d_M_parts_61 : decode c_M_parts 61 = .ok (.getfield 28, 3) := by decide +kernel
theorem d_M_parts_64 : decode c_M_parts 64 = .ok (.iconst 2, 1) := by decide +kernel
theorem d_M_parts_65 : decode c_M_parts 65 = .ok (.iload_n 2, 1) := by decide +kernel
theorem d_M_parts_66 : decode c_M_parts 66 = .ok (.imul, 1) := by decide +kernel
theorem d_M_parts_67 : decode c_M_parts 67 = .ok (.iconst 1, 1) := by decide +kernel
theorem d_M_parts_68 : decode c_M_parts 68 = .ok (.isub, 1) := by decide +kernel
theorem d_M_parts_69 : decode c_M_parts 69 = .ok (.iload 6, 2) := by decide +kernel
theorem d_M_parts_71 : decode c_M_parts 71 = .ok (.iastore, 1) := by decide +kernel
theorem d_M_parts_72 : decode c_M_parts 72 = .ok (.iconst 0, 1) := by decide +kernel
theorem d_M_parts_73 : decode c_M_parts 73 = .ok (.istore 5, 2) := by decide +kernel
theorem d_M_parts_75 : decode c_M_parts 75 = .ok (.iload 8, 2) := by decide +kernel
theorem d_M_parts_77 : decode c_M_parts 77 = .ok (.iconst 2, 1) := by decide +kernel
theorem d_M_parts_78 : decode c_M_parts 78 = .ok (.if_icmp .ne 5, 3) := by decide +kernel
theorem d_M_parts_81 : decode c_M_parts 81 = .ok (.iload_n 2, 1) := by decide +kernel
theorem d_M_parts_82 : decode c_M_parts 82 = .ok (.ireturn, 1) := by decide +kernel
theorem d_M_parts_83 : decode c_M_parts 83 = .ok (.aload_n 0, 1) := by decide +kernel
theorem d_M_parts_84 : decode c_M_parts 84 = .ok (.iload_n 3, 1) := by decide +kernel
theorem d_M_parts_85 : decode c_M_parts 85 = .ok (.iload 4, 2) := by decide +kernel
theorem d_M_parts_87 : decode c_M_parts 87 = .ok (.invokevirtual 52, 3) := by decide +kernel
theorem d_M_parts_90 : decode c_M_parts 90 = .ok (.istore 9, 2) := by decide +kernel
theorem d_M_parts_92 : decode c_M_parts 92 = .ok (.iload 8, 2) := by decide +kernel
theorem d_M_parts_94 : decode c_M_parts 94 = .ok (.iconst 1, 1) := by decide +kernel
theorem d_M_parts_95 : decode c_M_parts 95 = .ok (.if_icmp .ne 38, 3) := by decide +kernel
theorem d_M_parts_98 : decode c_M_parts 98 = .ok (.aload_n 0, 1) := by decide +kernel
theorem d_M_parts_99 : decode c_M_parts 99 = .ok (.getfield 28, 3) := by decide +kernel
theorem d_M_parts_102 : decode c_M_parts 102 = .ok (.iconst 2, 1) := by decide +kernel
theorem d_M_parts_103 : decode c_M_parts 103 = .ok (.iload_n 2, 1) := by decide +kernel
theorem d_M_parts_104 : decode c_M_parts 104 = .ok (.imul, 1) := by decide +kernel
theorem d_M_parts_105 : decode c_M_parts 105 = .ok (.iload 9, 2) := by decide +kernel
theorem d_M_parts_107 : decode c_M_parts 107 = .ok (.iastore, 1) := by decide +kernel
theorem d_M_parts_108 : decode c_M_parts 108 = .ok (.aload_n 0, 1) := by decide +kernel
theorem d_M_parts_109 : decode c_M_parts 109 = .ok (.getfield 28, 3) := by decide +kernel
theorem d_M_parts_112 : decode c_M_parts 112 = .ok (.iconst 2, 1) := by decide +kernel
theorem d_M_parts_113 : decode c_M_parts 113 = .ok (.iload_n 2, 1) := by decide +kernel
theorem d_M_parts_114 : decode c_M_parts 114 = .ok (.imul, 1) := by decide +kernel
theorem d_M_parts_115 : decode c_M_parts 115 = .ok (.iconst 1, 1) := by decide +kernel
theorem d_M_parts_116 : decode c_M_parts 116 = .ok (.iadd, 1) := by decide +kernel
theorem d_M_parts_117 : decode c_M_parts 117 = .ok (.iload 4, 2) := by decide +kernel
theorem d_M_parts_119 : decode c_M_parts 119 = .ok (.iastore, 1) := by decide +kernel
theorem d_M_parts_120 : decode c_M_parts 120 = .ok (.iinc 2 1, 3) := by decide +kernel
theorem d_M_parts_123 : decode c_M_parts 123 = .ok (.iconst 1, 1) := by decide +kernel
theorem d_M_parts_124 : decode c_M_parts 124 = .ok (.istore 5, 2) := by decide +kernel
theorem d_M_parts_126 : decode c_M_parts 126 = .ok (.iload 9, 2) := by decide +kernel
theorem d_M_parts_128 : decode c_M_parts 128 = .ok (.istore 6, 2) := by decide +kernel
theorem d_M_parts_130 : decode c_M_parts 130 = .ok (.goto 7, 3) := by decide +kernel
theorem d_M_parts_133 : decode c_M_parts 133 = .ok (.iload 7, 2) := by decide +kernel
theorem d_M_parts_135 : decode c_M_parts 135 = .ok (.istore 6, 2) := by decide +kernel
theorem d_M_parts_137 : decode c_M_parts 137 = .ok (.iload 9, 2) := by decide +kernel
theorem d_M_parts_139 : decode c_M_parts 139 = .ok (.istore_n 3, 1) := by decide +kernel
theorem d_M_parts_140 : decode c_M_parts 140 = .ok (.goto (-115), 3) := by decide +kernel
theorem d_M_parts_143 : decode c_M_parts 143 = .ok (.iload_n 2, 1) := by decide +kernel
theorem d_M_parts_144 : decode c_M_parts 144 = .ok (.ireturn, 1) := by decide +kernel
theorem d_M_delimiter_0 : decode c_M_delimiter 0 = .ok (.aload_n 0, 1) := by decide +kernel
theorem d_M_delimiter_1 : decode c_M_delimiter 1 = .ok (.iload_n 1, 1) := by decide +kernel
theorem d_M_delimiter_2 : decode c_M_delimiter 2 = .ok (.bipush 12, 2) := by decide +kernel
theorem d_M_delimiter_4 : decode c_M_delimiter 4 = .ok (.invokevirtual 59, 3) := by decide +kernel
theorem d_M_delimiter_7 : decode c_M_delimiter 7 = .ok (.istore 4, 2) := by decide +kernel
theorem d_M_delimiter_9 : decode c_M_delimiter 9 = .ok (.iload_n 3, 1) := by decide +kernel
theorem d_M_delimiter_10 : decode c_M_delimiter 10 = .ok (.iload_n 2, 1) := by decide +kernel
theorem d_M_delimiter_11 : decode c_M_delimiter 11 = .ok (.isub, 1) := by decide +kernel
theorem d_M_delimiter_12 : decode c_M_delimiter 12 = .ok (.iload 4, 2) := by decide +kernel
theorem d_M_delimiter_14 : decode c_M_delimiter 14 = .ok (.iconst 2, 1) := by decide +kernel
theorem d_M_delimiter_15 : decode c_M_delimiter 15 = .ok (.iadd, 1) := by decide +kernel
theorem d_M_delimiter_16 : decode c_M_delimiter 16 = .ok (.if_icmp .lt 27, 3) := by decide +kernel
theorem d_M_delimiter_19 : decode c_M_delimiter 19 = .ok (.aload_n 0, 1) := by decide +kernel
theorem d_M_delimiter_20 : decode c_M_delimiter 20 = .ok (.getfield 13, 3) := by decide +kernel
theorem d_M_delimiter_23 : decode c_M_delimiter 23 = .ok (.iload_n 2, 1) := by decide +kernel
theorem d_M_delimiter_24 : decode c_M_delimiter 24 = .ok (.iaload, 1) := by decide +kernel
theorem d_M_delimiter_25 : decode c_M_delimiter 25 = .ok (.bipush 45, 2) := by decide +kernel
theorem d_M_delimiter_27 : decode c_M_delimiter 27 = .ok (.if_icmp .ne 16, 3) := by decide +kernel
theorem d_M_delimiter_30 : decode c_M_delimiter 30 = .ok (.aload_n 0, 1) := by decide +kernel
theorem d_M_delimiter_31 : decode c_M_delimiter 31 = .ok (.getfield 13, 3) := by decide +kernel
theorem d_M_delimiter_34 : decode c_M_delimiter 34 = .ok (.iload_n 2, 1) := by decide +kernel
theorem d_M_delimiter_35 : decode c_M_delimiter 35 = .ok (.iconst 1, 1) := by decide +kernel
theorem d_M_delimiter_36 : decode c_M_delimiter 36 = .ok (.iadd, 1) := by decide +kernel
theorem d_M_delimiter_37 : decode c_M_delimiter 37 = .ok (.iaload, 1) := by decide +kernel
theorem d_M_delimiter_38 : decode c_M_delimiter 38 = .ok (.bipush 45, 2) := by decide +kernel
theorem d_M_delimiter_40 : decode c_M_delimiter 40 = .ok (.if_icmp .eq 5, 3) := by decide +kernel
theorem d_M_delimiter_43 : decode c_M_delimiter 43 = .ok (.iconst 0, 1) := by decide +kernel
theorem d_M_delimiter_44 : decode c_M_delimiter 44 = .ok (.ireturn, 1) := by decide +kernel
theorem d_M_delimiter_45 : decode c_M_delimiter 45 = .ok (.iconst 0, 1) := by decide +kernel
theorem d_M_delimiter_46 : decode c_M_delimiter 46 = .ok (.istore 5, 2) := by decide +kernel
theorem d_M_delimiter_48 : decode c_M_delimiter 48 = .ok (.iload 5, 2) := by decide +kernel
theorem d_M_delimiter_50 : decode c_M_delimiter 50 = .ok (.iload 4, 2) := by decide +kernel
theorem d_M_delimiter_52 : decode c_M_delimiter 52 = .ok (.if_icmp .ge 40, 3) := by decide +kernel
theorem d_M_delimiter_55 : decode c_M_delimiter 55 = .ok (.aload_n 0, 1) := by decide +kernel
theorem d_M_delimiter_56 : decode c_M_delimiter 56 = .ok (.getfield 13, 3) := by decide +kernel
theorem d_M_delimiter_59 : decode c_M_delimiter 59 = .ok (.iload_n 2, 1) := by decide +kernel
theorem d_M_delimiter_60 : decode c_M_delimiter 60 = .ok (.iconst 2, 1) := by decide +kernel
theorem d_M_delimiter_61 : decode c_M_delimiter 61 = .ok (.iadd, 1) := by decide +kernel
theorem d_M_delimiter_62 : decode c_M_delimiter 62 = .ok (.iload 5, 2) := by decide +kernel
theorem d_M_delimiter_64 : decode c_M_delimiter 64 = .ok (.iadd, 1) := by decide +kernel
theorem d_M_delimiter_65 : decode c_M_delimiter 65 = .ok (.iaload, 1) := by decide +kernel
theorem d_M_delimiter_66 : decode c_M_delimiter 66 = .ok (.aload_n 0, 1) := by decide +kernel
theorem d_M_delimiter_67 : decode c_M_delimiter 67 = .ok (.getfield 22, 3) := by decide +kernel
theorem d_M_delimiter_70 : decode c_M_delimiter 70 = .ok (.aload_n 0, 1) := by decide +kernel
theorem d_M_delimiter_71 : decode c_M_delimiter 71 = .ok (.iload_n 1, 1) := by decide +kernel
theorem d_M_delimiter_72 : decode c_M_delimiter 72 = .ok (.bipush 11, 2) := by decide +kernel
theorem d_M_delimiter_74 : decode c_M_delimiter 74 = .ok (.invokevirtual 59, 3) := by decide +kernel
theorem d_M_delimiter_77 : decode c_M_delimiter 77 = .ok (.iload 5, 2) := by decide +kernel
theorem d_M_delimiter_79 : decode c_M_delimiter 79 = .ok (.iadd, 1) := by decide +kernel
theorem d_M_delimiter_80 : decode c_M_delimiter 80 = .ok (.iaload, 1) := by decide +kernel
theorem d_M_delimiter_81 : decode c_M_delimiter 81 = .ok (.if_icmp .eq 5, 3) := by decide +kernel
theorem d_M_delimiter_84 : decode c_M_delimiter 84 = .ok (.iconst 0, 1) := by decide +kernel
theorem d_M_delimiter_85 : decode c_M_delimiter 85 = .ok (.ireturn, 1) := by decide +kernel
theorem d_M_delimiter_86 : decode c_M_delimiter 86 = .ok (.iinc 5 1, 3) := by decide +kernel
theorem d_M_delimiter_89 : decode c_M_delimiter 89 = .ok (.goto (-41), 3) := by decide +kernel
theorem d_M_delimiter_92 : decode c_M_delimiter 92 = .ok (.iload_n 2, 1) := by decide +kernel
theorem d_M_delimiter_93 : decode c_M_delimiter 93 = .ok (.iconst 2, 1) := by decide +kernel
theorem d_M_delimiter_94 : decode c_M_delimiter 94 = .ok (.iadd, 1) := by decide +kernel
theorem d_M_delimiter_95 : decode c_M_delimiter 95 = .ok (.iload 4, 2) := by decide +kernel
theorem d_M_delimiter_97 : decode c_M_delimiter 97 = .ok (.iadd, 1) := by decide +kernel
theorem d_M_delimiter_98 : decode c_M_delimiter 98 = .ok (.istore 5, 2) := by decide +kernel
theorem d_M_delimiter_100 : decode c_M_delimiter 100 = .ok (.iload_n 3, 1) := by decide +kernel
theorem d_M_delimiter_101 : decode c_M_delimiter 101 = .ok (.iload 5, 2) := by decide +kernel
theorem d_M_delimiter_103 : decode c_M_delimiter 103 = .ok (.isub, 1) := by decide +kernel
theorem d_M_delimiter_104 : decode c_M_delimiter 104 = .ok (.iconst 2, 1) := by decide +kernel
theorem d_M_delimiter_105 : decode c_M_delimiter 105 = .ok (.if_icmp .lt 33, 3) := by decide +kernel
theorem d_M_delimiter_108 : decode c_M_delimiter 108 = .ok (.aload_n 0, 1) := by decide +kernel
theorem d_M_delimiter_109 : decode c_M_delimiter 109 = .ok (.getfield 13, 3) := by decide +kernel
theorem d_M_delimiter_112 : decode c_M_delimiter 112 = .ok (.iload 5, 2) := by decide +kernel
theorem d_M_delimiter_114 : decode c_M_delimiter 114 = .ok (.iaload, 1) := by decide +kernel
theorem d_M_delimiter_115 : decode c_M_delimiter 115 = .ok (.bipush 45, 2) := by decide +kernel
theorem d_M_delimiter_117 : decode c_M_delimiter 117 = .ok (.if_icmp .ne 21, 3) := by decide +kernel
theorem d_M_delimiter_120 : decode c_M_delimiter 120 = .ok (.aload_n 0, 1) := by decide +kernel
theorem d_M_delimiter_121 : decode c_M_delimiter 121 = .ok (.getfield 13, 3) := by decide +kernel
theorem d_M_delimiter_124 : decode c_M_delimiter 124 = .ok (.iload 5, 2) := by decide +kernel
theorem d_M_delimiter_126 : decode c_M_delimiter 126 = .ok (.iconst 1, 1) := by decide +kernel
theorem d_M_delimiter_127 : decode c_M_delimiter 127 = .ok (.iadd, 1) := by decide +kernel
theorem d_M_delimiter_128 : decode c_M_delimiter 128 = .ok (.iaload, 1) := by decide +kernel
theorem d_M_delimiter_129 : decode c_M_delimiter 129 = .ok (.bipush 45, 2) := by decide +kernel
theorem d_M_delimiter_131 : decode c_M_delimiter 131 = .ok (.if_icmp .ne 7, 3) := by decide +kernel
theorem d_M_delimiter_134 : decode c_M_delimiter 134 = .ok (.iconst 1, 1) := by decide +kernel
theorem d_M_delimiter_135 : decode c_M_delimiter 135 = .ok (.goto 4, 3) := by decide +kernel
theorem d_M_delimiter_138 : decode c_M_delimiter 138 = .ok (.iconst 0, 1) := by decide +kernel
theorem d_M_delimiter_139 : decode c_M_delimiter 139 = .ok (.istore 6, 2) := by decide +kernel
theorem d_M_delimiter_141 : decode c_M_delimiter 141 = .ok (.iload 6, 2) := by decide +kernel
theorem d_M_delimiter_143 : decode c_M_delimiter 143 = .ok (.ifCond .eq 6, 3) := by decide +kernel
theorem d_M_delimiter_146 : decode c_M_delimiter 146 = .ok (.iinc 5 2, 3) := by decide +kernel
theorem d_M_delimiter_149 : decode c_M_delimiter 149 = .ok (.iload 5, 2) := by decide +kernel
theorem d_M_delimiter_151 : decode c_M_delimiter 151 = .ok (.iload_n 3, 1) := by decide +kernel
theorem d_M_delimiter_152 : decode c_M_delimiter 152 = .ok (.if_icmp .ge 22, 3) := by decide +kernel
theorem d_M_delimiter_155 : decode c_M_delimiter 155 = .ok (.aload_n 0, 1) := by decide +kernel
theorem d_M_delimiter_156 : decode c_M_delimiter 156 = .ok (.getfield 13, 3) := by decide +kernel
theorem d_M_delimiter_159 : decode c_M_delimiter 159 = .ok (.iload 5, 2) := by decide +kernel
theorem d_M_delimiter_161 : decode c_M_delimiter 161 = .ok (.iaload, 1) := by decide +kernel
theorem d_M_delimiter_162 : decode c_M_delimiter 162 = .ok (.invokestatic 62, 3) := by decide +kernel
theorem d_M_delimiter_165 : decode c_M_delimiter 165 = .ok (.ifCond .eq 9, 3) := by decide +kernel
theorem d_M_delimiter_168 : decode c_M_delimiter 168 = .ok (.iinc 5 1, 3) := by decide +kernel
theorem d_M_delimiter_171 : decode c_M_delimiter 171 = .ok (.goto (-22), 3) := by decide +kernel
theorem d_M_delimiter_174 : decode c_M_delimiter 174 = .ok (.iload 5, 2) := by decide +kernel
theorem d_M_delimiter_176 : decode c_M_delimiter 176 = .ok (.iload_n 3, 1) := by decide +kernel
theorem d_M_delimiter_177 : decode c_M_delimiter 177 = .ok (.if_icmp .ge 7, 3) := by decide +kernel
theorem d_M_delimiter_180 : decode c_M_delimiter 180 = .ok (.iconst 0, 1) := by decide +kernel
theorem d_M_delimiter_181 : decode c_M_delimiter 181 = .ok (.goto 13, 3) := by decide +kernel
theorem d_M_delimiter_184 : decode c_M_delimiter 184 = .ok (.iload 6, 2) := by decide +kernel
theorem d_M_delimiter_186 : decode c_M_delimiter 186 = .ok (.ifCond .eq 7, 3) := by decide +kernel
theorem d_M_delimiter_189 : decode c_M_delimiter 189 = .ok (.iconst 2, 1) := by decide +kernel
theorem d_M_delimiter_190 : decode c_M_delimiter 190 = .ok (.goto 4, 3) := by decide +kernel
theorem d_M_delimiter_193 : decode c_M_delimiter 193 = .ok (.iconst 1, 1) := by decide +kernel
theorem d_M_delimiter_194 : decode c_M_delimiter 194 = .ok (.ireturn, 1) := by decide +kernel
theorem d_M_entities_0 : decode c_M_entities 0 = .ok (.aload_n 0, 1) := by decide +kernel
theorem d_M_entities_1 : decode c_M_entities 1 = .ok (.iconst 0, 1) := by decide +kernel
theorem d_M_entities_2 : decode c_M_entities 2 = .ok (.putfield 43, 3) := by decide +kernel
theorem d_M_entities_5 : decode c_M_entities 5 = .ok (.aload_n 0, 1) := by decide +kernel
theorem d_M_entities_6 : decode c_M_entities 6 = .ok (.getfield 196, 3) := by decide +kernel
theorem d_M_entities_9 : decode c_M_entities 9 = .ok (.ireturn, 1) := by decide +kernel
theorem d_M_look_0 : decode c_M_look 0 = .ok (.aload_n 0, 1) := by decide +kernel
theorem d_M_look_1 : decode c_M_look 1 = .ok (.iload_n 1, 1) := by decide +kernel
theorem d_M_look_2 : decode c_M_look 2 = .ok (.invokevirtual 224, 3) := by decide +kernel
theorem d_M_look_5 : decode c_M_look 5 = .ok (.ifCond .ne 7, 3) := by decide +kernel
theorem d_M_look_8 : decode c_M_look 8 = .ok (.iconst 1, 1) := by decide +kernel
theorem d_M_look_9 : decode c_M_look 9 = .ok (.goto 4, 3) := by decide +kernel
theorem d_M_look_12 : decode c_M_look 12 = .ok (.iconst 0, 1) := by decide +kernel
theorem d_M_look_13 : decode c_M_look 13 = .ok (.istore_n 3, 1) := by decide +kernel
theorem d_M_look_14 : decode c_M_look 14 = .ok (.aload_n 0, 1) := by decide +kernel
theorem d_M_look_15 : decode c_M_look 15 = .ok (.iload_n 3, 1) := by decide +kernel
theorem d_M_look_16 : decode c_M_look 16 = .ok (.iload_n 3, 1) := by decide +kernel
theorem d_M_look_17 : decode c_M_look 17 = .ok (.ifCond .ne 17, 3) := by decide +kernel
theorem d_M_look_20 : decode c_M_look 20 = .ok (.iload_n 2, 1) := by decide +kernel
theorem d_M_look_21 : decode c_M_look 21 = .ok (.ifCond .lt 9, 3) := by decide +kernel
theorem d_M_look_24 : decode c_M_look 24 = .ok (.iload_n 2, 1) := by decide +kernel
theorem d_M_look_25 : decode c_M_look 25 = .ok (.bipush 9, 2) := by decide +kernel
theorem d_M_look_27 : decode c_M_look 27 = .ok (.if_icmp .le 7, 3) := by decide +kernel
theorem d_M_look_30 : decode c_M_look 30 = .ok (.iconst 1, 1) := by decide +kernel
theorem d_M_look_31 : decode c_M_look 31 = .ok (.goto 4, 3) := by decide +kernel
theorem d_M_look_34 : decode c_M_look 34 = .ok (.iconst 0, 1) := by decide +kernel
theorem d_M_look_35 : decode c_M_look 35 = .ok (.invokevirtual 227, 3) := by decide +kernel
theorem d_M_look_38 : decode c_M_look 38 = .ok (.ifCond .eq 7, 3) := by decide +kernel
theorem d_M_look_41 : decode c_M_look 41 = .ok (.iconst 0, 1) := by decide +kernel
theorem d_M_look_42 : decode c_M_look 42 = .ok (.goto 9, 3) := by decide +kernel
theorem d_M_look_45 : decode c_M_look 45 = .ok (.aload_n 0, 1) := by decide +kernel
theorem d_M_look_46 : decode c_M_look 46 = .ok (.iload_n 1, 1) := by decide +kernel
theorem d_M_look_47 : decode c_M_look 47 = .ok (.iload_n 2, 1) := by decide +kernel
theorem d_M_look_48 : decode c_M_look 48 = .ok (.invokevirtual 59, 3) := by decide +kernel
theorem d_M_look_51 : decode c_M_look 51 = .ok (.ireturn, 1) := by decide +kernel
theorem d_M_isEntity_0 : decode c_M_isEntity 0 = .ok (.iload_n 1, 1) := by decide +kernel
theorem d_M_isEntity_1 : decode c_M_isEntity 1 = .ok (.ifCond .lt 15, 3) := by decide +kernel
theorem d_M_isEntity_4 : decode c_M_isEntity 4 = .ok (.iload_n 1, 1) := by decide +kernel
theorem d_M_isEntity_5 : decode c_M_isEntity 5 = .ok (.aload_n 0, 1) := by decide +kernel
theorem d_M_isEntity_6 : decode c_M_isEntity 6 = .ok (.getfield 196, 3) := by decide +kernel
theorem d_M_isEntity_9 : decode c_M_isEntity 9 = .ok (.if_icmp .ge 7, 3) := by decide +kernel
theorem d_M_isEntity_12 : decode c_M_isEntity 12 = .ok (.iconst 1, 1) := by decide +kernel
theorem d_M_isEntity_13 : decode c_M_isEntity 13 = .ok (.goto 4, 3) := by decide +kernel
theorem d_M_isEntity_16 : decode c_M_isEntity 16 = .ok (.iconst 0, 1) := by decide +kernel
theorem d_M_isEntity_17 : decode c_M_isEntity 17 = .ok (.ireturn, 1) := by decide +kernel
theorem d_M_fails_0 : decode c_M_fails 0 = .ok (.aload_n 0, 1) := by decide +kernel
theorem d_M_fails_1 : decode c_M_fails 1 = .ok (.iload_n 1, 1) := by decide +kernel
theorem d_M_fails_2 : decode c_M_fails 2 = .ok (.ifCond .eq 7, 3) := by decide +kernel
theorem d_M_fails_5 : decode c_M_fails 5 = .ok (.iconst 1, 1) := by decide +kernel
theorem d_M_fails_6 : decode c_M_fails 6 = .ok (.goto 12, 3) := by decide +kernel
theorem d_M_fails_9 : decode c_M_fails 9 = .ok (.iload_n 2, 1) := by decide +kernel
theorem d_M_fails_10 : decode c_M_fails 10 = .ok (.ifCond .eq 7, 3) := by decide +kernel
theorem d_M_fails_13 : decode c_M_fails 13 = .ok (.iconst 2, 1) := by decide +kernel
theorem d_M_fails_14 : decode c_M_fails 14 = .ok (.goto 4, 3) := by decide +kernel
theorem d_M_fails_17 : decode c_M_fails 17 = .ok (.iconst 0, 1) := by decide +kernel
theorem d_M_fails_18 : decode c_M_fails 18 = .ok (.putfield 43, 3) := by decide +kernel
theorem d_M_fails_21 : decode c_M_fails 21 = .ok (.aload_n 0, 1) := by decide +kernel
theorem d_M_fails_22 : decode c_M_fails 22 = .ok (.getfield 43, 3) := by decide +kernel
theorem d_M_fails_25 : decode c_M_fails 25 = .ok (.ifCond .le 7, 3) := by decide +kernel
theorem d_M_fails_28 : decode c_M_fails 28 = .ok (.iconst 1, 1) := by decide +kernel
theorem d_M_fails_29 : decode c_M_fails 29 = .ok (.goto 4, 3) := by decide +kernel
theorem d_M_fails_32 : decode c_M_fails 32 = .ok (.iconst 0, 1) := by decide +kernel
theorem d_M_fails_33 : decode c_M_fails 33 = .ok (.ireturn, 1) := by decide +kernel
theorem d_M_length_0 : decode c_M_length 0 = .ok (.aload_n 0, 1) := by decide +kernel
theorem d_M_length_1 : decode c_M_length 1 = .ok (.iload_n 1, 1) := by decide +kernel
theorem d_M_length_2 : decode c_M_length 2 = .ok (.iload_n 2, 1) := by decide +kernel
theorem d_M_length_3 : decode c_M_length 3 = .ok (.invokevirtual 231, 3) := by decide +kernel
theorem d_M_length_6 : decode c_M_length 6 = .ok (.ifCond .ne 7, 3) := by decide +kernel
theorem d_M_length_9 : decode c_M_length 9 = .ok (.iconst 1, 1) := by decide +kernel
theorem d_M_length_10 : decode c_M_length 10 = .ok (.goto 4, 3) := by decide +kernel
theorem d_M_length_13 : decode c_M_length 13 = .ok (.iconst 0, 1) := by decide +kernel
theorem d_M_length_14 : decode c_M_length 14 = .ok (.istore 4, 2) := by decide +kernel
theorem d_M_length_16 : decode c_M_length 16 = .ok (.aload_n 0, 1) := by decide +kernel
theorem d_M_length_17 : decode c_M_length 17 = .ok (.iload 4, 2) := by decide +kernel
theorem d_M_length_19 : decode c_M_length 19 = .ok (.iload 4, 2) := by decide +kernel
theorem d_M_length_21 : decode c_M_length 21 = .ok (.ifCond .ne 16, 3) := by decide +kernel
theorem d_M_length_24 : decode c_M_length 24 = .ok (.iload_n 3, 1) := by decide +kernel
theorem d_M_length_25 : decode c_M_length 25 = .ok (.ifCond .eq 12, 3) := by decide +kernel
theorem d_M_length_28 : decode c_M_length 28 = .ok (.iload_n 3, 1) := by decide +kernel
theorem d_M_length_29 : decode c_M_length 29 = .ok (.iconst 1, 1) := by decide +kernel
theorem d_M_length_30 : decode c_M_length 30 = .ok (.if_icmp .eq 7, 3) := by decide +kernel
theorem d_M_length_33 : decode c_M_length 33 = .ok (.iconst 1, 1) := by decide +kernel
theorem d_M_length_34 : decode c_M_length 34 = .ok (.goto 4, 3) := by decide +kernel
theorem d_M_length_37 : decode c_M_length 37 = .ok (.iconst 0, 1) := by decide +kernel
theorem d_M_length_38 : decode c_M_length 38 = .ok (.invokevirtual 227, 3) := by decide +kernel
theorem d_M_length_41 : decode c_M_length 41 = .ok (.ifCond .eq 7, 3) := by decide +kernel
theorem d_M_length_44 : decode c_M_length 44 = .ok (.iconst 0, 1) := by decide +kernel
theorem d_M_length_45 : decode c_M_length 45 = .ok (.goto 14, 3) := by decide +kernel
theorem d_M_length_48 : decode c_M_length 48 = .ok (.aload_n 0, 1) := by decide +kernel
theorem d_M_length_49 : decode c_M_length 49 = .ok (.iload_n 1, 1) := by decide +kernel
theorem d_M_length_50 : decode c_M_length 50 = .ok (.iload_n 2, 1) := by decide +kernel
theorem d_M_length_51 : decode c_M_length 51 = .ok (.iconst 1, 1) := by decide +kernel
theorem d_M_length_52 : decode c_M_length 52 = .ok (.iconst 2, 1) := by decide +kernel
theorem d_M_length_53 : decode c_M_length 53 = .ok (.iload_n 3, 1) := by decide +kernel
theorem d_M_length_54 : decode c_M_length 54 = .ok (.imul, 1) := by decide +kernel
theorem d_M_length_55 : decode c_M_length 55 = .ok (.iadd, 1) := by decide +kernel
theorem d_M_length_56 : decode c_M_length 56 = .ok (.invokevirtual 115, 3) := by decide +kernel
theorem d_M_length_59 : decode c_M_length 59 = .ok (.ireturn, 1) := by decide +kernel
theorem d_M_isField_0 : decode c_M_isField 0 = .ok (.aload_n 0, 1) := by decide +kernel
theorem d_M_isField_1 : decode c_M_isField 1 = .ok (.iload_n 1, 1) := by decide +kernel
theorem d_M_isField_2 : decode c_M_isField 2 = .ok (.invokevirtual 224, 3) := by decide +kernel
theorem d_M_isField_5 : decode c_M_isField 5 = .ok (.ifCond .eq 21, 3) := by decide +kernel
theorem d_M_isField_8 : decode c_M_isField 8 = .ok (.iload_n 2, 1) := by decide +kernel
theorem d_M_isField_9 : decode c_M_isField 9 = .ok (.ifCond .lt 17, 3) := by decide +kernel
theorem d_M_isField_12 : decode c_M_isField 12 = .ok (.iload_n 2, 1) := by decide +kernel
theorem d_M_isField_13 : decode c_M_isField 13 = .ok (.aload_n 0, 1) := by decide +kernel
theorem d_M_isField_14 : decode c_M_isField 14 = .ok (.iload_n 1, 1) := by decide +kernel
theorem d_M_isField_15 : decode c_M_isField 15 = .ok (.iconst 3, 1) := by decide +kernel
theorem d_M_isField_16 : decode c_M_isField 16 = .ok (.invokevirtual 59, 3) := by decide +kernel
theorem d_M_isField_19 : decode c_M_isField 19 = .ok (.if_icmp .ge 7, 3) := by decide +kernel
theorem d_M_isField_22 : decode c_M_isField 22 = .ok (.iconst 1, 1) := by decide +kernel
theorem d_M_isField_23 : decode c_M_isField 23 = .ok (.goto 4, 3) := by decide +kernel
theorem d_M_isField_26 : decode c_M_isField 26 = .ok (.iconst 0, 1) := by decide +kernel
theorem d_M_isField_27 : decode c_M_isField 27 = .ok (.ireturn, 1) := by decide +kernel
theorem d_M_letter_0 : decode c_M_letter 0 = .ok (.aload_n 0, 1) := by decide +kernel
theorem d_M_letter_1 : decode c_M_letter 1 = .ok (.iload_n 1, 1) := by decide +kernel
theorem d_M_letter_2 : decode c_M_letter 2 = .ok (.iload_n 2, 1) := by decide +kernel
theorem d_M_letter_3 : decode c_M_letter 3 = .ok (.invokevirtual 231, 3) := by decide +kernel
theorem d_M_letter_6 : decode c_M_letter 6 = .ok (.ifCond .ne 7, 3) := by decide +kernel
theorem d_M_letter_9 : decode c_M_letter 9 = .ok (.iconst 1, 1) := by decide +kernel
theorem d_M_letter_10 : decode c_M_letter 10 = .ok (.goto 4, 3) := by decide +kernel
theorem d_M_letter_13 : decode c_M_letter 13 = .ok (.iconst 0, 1) := by decide +kernel
theorem d_M_letter_14 : decode c_M_letter 14 = .ok (.istore 5, 2) := by decide +kernel
theorem d_M_letter_16 : decode c_M_letter 16 = .ok (.aload_n 0, 1) := by decide +kernel
theorem d_M_letter_17 : decode c_M_letter 17 = .ok (.iload 5, 2) := by decide +kernel
theorem d_M_letter_19 : decode c_M_letter 19 = .ok (.iload 5, 2) := by decide +kernel
theorem d_M_letter_21 : decode c_M_letter 21 = .ok (.ifCond .ne 16, 3) := by decide +kernel
theorem d_M_letter_24 : decode c_M_letter 24 = .ok (.iload_n 3, 1) := by decide +kernel
theorem d_M_letter_25 : decode c_M_letter 25 = .ok (.ifCond .eq 12, 3) := by decide +kernel
theorem d_M_letter_28 : decode c_M_letter 28 = .ok (.iload_n 3, 1) := by decide +kernel
theorem d_M_letter_29 : decode c_M_letter 29 = .ok (.iconst 1, 1) := by decide +kernel
theorem d_M_letter_30 : decode c_M_letter 30 = .ok (.if_icmp .eq 7, 3) := by decide +kernel
theorem d_M_letter_33 : decode c_M_letter 33 = .ok (.iconst 1, 1) := by decide +kernel
theorem d_M_letter_34 : decode c_M_letter 34 = .ok (.goto 4, 3) := by decide +kernel
theorem d_M_letter_37 : decode c_M_letter 37 = .ok (.iconst 0, 1) := by decide +kernel
theorem d_M_letter_38 : decode c_M_letter 38 = .ok (.invokevirtual 227, 3) := by decide +kernel
theorem d_M_letter_41 : decode c_M_letter 41 = .ok (.ifCond .eq 5, 3) := by decide +kernel
theorem d_M_letter_44 : decode c_M_letter 44 = .ok (.iconst 0, 1) := by decide +kernel
theorem d_M_letter_45 : decode c_M_letter 45 = .ok (.ireturn, 1) := by decide +kernel
theorem d_M_letter_46 : decode c_M_letter 46 = .ok (.aload_n 0, 1) := by decide +kernel
theorem d_M_letter_47 : decode c_M_letter 47 = .ok (.iload 4, 2) := by decide +kernel
theorem d_M_letter_49 : decode c_M_letter 49 = .ok (.ifCond .lt 19, 3) := by decide +kernel
theorem d_M_letter_52 : decode c_M_letter 52 = .ok (.iload 4, 2) := by decide +kernel
theorem d_M_letter_54 : decode c_M_letter 54 = .ok (.aload_n 0, 1) := by decide +kernel
theorem d_M_letter_55 : decode c_M_letter 55 = .ok (.iload_n 1, 1) := by decide +kernel
theorem d_M_letter_56 : decode c_M_letter 56 = .ok (.iload_n 2, 1) := by decide +kernel
theorem d_M_letter_57 : decode c_M_letter 57 = .ok (.iconst 1, 1) := by decide +kernel
theorem d_M_letter_58 : decode c_M_letter 58 = .ok (.iconst 2, 1) := by decide +kernel
theorem d_M_letter_59 : decode c_M_letter 59 = .ok (.iload_n 3, 1) := by decide +kernel
theorem d_M_letter_60 : decode c_M_letter 60 = .ok (.imul, 1) := by decide +kernel
theorem d_M_letter_61 : decode c_M_letter 61 = .ok (.iadd, 1) := by decide +kernel
theorem d_M_letter_62 : decode c_M_letter 62 = .ok (.invokevirtual 115, 3) := by decide +kernel
theorem d_M_letter_65 : decode c_M_letter 65 = .ok (.if_icmp .lt 7, 3) := by decide +kernel
theorem d_M_letter_68 : decode c_M_letter 68 = .ok (.iconst 1, 1) := by decide +kernel
theorem d_M_letter_69 : decode c_M_letter 69 = .ok (.goto 4, 3) := by decide +kernel
theorem d_M_letter_72 : decode c_M_letter 72 = .ok (.iconst 0, 1) := by decide +kernel
theorem d_M_letter_73 : decode c_M_letter 73 = .ok (.iconst 0, 1) := by decide +kernel
theorem d_M_letter_74 : decode c_M_letter 74 = .ok (.invokevirtual 227, 3) := by decide +kernel
theorem d_M_letter_77 : decode c_M_letter 77 = .ok (.ifCond .eq 5, 3) := by decide +kernel
theorem d_M_letter_80 : decode c_M_letter 80 = .ok (.iconst 0, 1) := by decide +kernel
theorem d_M_letter_81 : decode c_M_letter 81 = .ok (.ireturn, 1) := by decide +kernel
theorem d_M_letter_82 : decode c_M_letter 82 = .ok (.aload_n 0, 1) := by decide +kernel
theorem d_M_letter_83 : decode c_M_letter 83 = .ok (.getfield 22, 3) := by decide +kernel
theorem d_M_letter_86 : decode c_M_letter 86 = .ok (.aload_n 0, 1) := by decide +kernel
theorem d_M_letter_87 : decode c_M_letter 87 = .ok (.iload_n 1, 1) := by decide +kernel
theorem d_M_letter_88 : decode c_M_letter 88 = .ok (.iload_n 2, 1) := by decide +kernel
theorem d_M_letter_89 : decode c_M_letter 89 = .ok (.iconst 2, 1) := by decide +kernel
theorem d_M_letter_90 : decode c_M_letter 90 = .ok (.iload_n 3, 1) := by decide +kernel
theorem d_M_letter_91 : decode c_M_letter 91 = .ok (.imul, 1) := by decide +kernel
theorem d_M_letter_92 : decode c_M_letter 92 = .ok (.invokevirtual 115, 3) := by decide +kernel
theorem d_M_letter_95 : decode c_M_letter 95 = .ok (.iload 4, 2) := by decide +kernel
theorem d_M_letter_97 : decode c_M_letter 97 = .ok (.iadd, 1) := by decide +kernel
theorem d_M_letter_98 : decode c_M_letter 98 = .ok (.iaload, 1) := by decide +kernel
theorem d_M_letter_99 : decode c_M_letter 99 = .ok (.ireturn, 1) := by decide +kernel
theorem d_M_content_0 : decode c_M_content 0 = .ok (.aload_n 0, 1) := by decide +kernel
theorem d_M_content_1 : decode c_M_content 1 = .ok (.iload_n 1, 1) := by decide +kernel
theorem d_M_content_2 : decode c_M_content 2 = .ok (.invokevirtual 224, 3) := by decide +kernel
theorem d_M_content_5 : decode c_M_content 5 = .ok (.ifCond .eq 21, 3) := by decide +kernel
theorem d_M_content_8 : decode c_M_content 8 = .ok (.iload_n 2, 1) := by decide +kernel
theorem d_M_content_9 : decode c_M_content 9 = .ok (.ifCond .lt 17, 3) := by decide +kernel
theorem d_M_content_12 : decode c_M_content 12 = .ok (.iload_n 2, 1) := by decide +kernel
theorem d_M_content_13 : decode c_M_content 13 = .ok (.aload_n 0, 1) := by decide +kernel
theorem d_M_content_14 : decode c_M_content 14 = .ok (.iload_n 1, 1) := by decide +kernel
theorem d_M_content_15 : decode c_M_content 15 = .ok (.iconst 5, 1) := by decide +kernel
theorem d_M_content_16 : decode c_M_content 16 = .ok (.invokevirtual 59, 3) := by decide +kernel
theorem d_M_content_19 : decode c_M_content 19 = .ok (.if_icmp .ge 7, 3) := by decide +kernel
theorem d_M_content_22 : decode c_M_content 22 = .ok (.iconst 1, 1) := by decide +kernel
theorem d_M_content_23 : decode c_M_content 23 = .ok (.goto 4, 3) := by decide +kernel
theorem d_M_content_26 : decode c_M_content 26 = .ok (.iconst 0, 1) := by decide +kernel
theorem d_M_content_27 : decode c_M_content 27 = .ok (.istore_n 3, 1) := by decide +kernel
theorem d_M_content_28 : decode c_M_content 28 = .ok (.aload_n 0, 1) := by decide +kernel
theorem d_M_content_29 : decode c_M_content 29 = .ok (.iload_n 3, 1) := by decide +kernel
theorem d_M_content_30 : decode c_M_content 30 = .ok (.ifCond .ne 7, 3) := by decide +kernel
theorem d_M_content_33 : decode c_M_content 33 = .ok (.iconst 1, 1) := by decide +kernel
theorem d_M_content_34 : decode c_M_content 34 = .ok (.goto 4, 3) := by decide +kernel
theorem d_M_content_37 : decode c_M_content 37 = .ok (.iconst 0, 1) := by decide +kernel
theorem d_M_content_38 : decode c_M_content 38 = .ok (.iconst 0, 1) := by decide +kernel
theorem d_M_content_39 : decode c_M_content 39 = .ok (.invokevirtual 227, 3) := by decide +kernel
theorem d_M_content_42 : decode c_M_content 42 = .ok (.ifCond .eq 7, 3) := by decide +kernel
theorem d_M_content_45 : decode c_M_content 45 = .ok (.iconst 0, 1) := by decide +kernel
theorem d_M_content_46 : decode c_M_content 46 = .ok (.goto 17, 3) := by decide +kernel
theorem d_M_content_49 : decode c_M_content 49 = .ok (.aload_n 0, 1) := by decide +kernel
theorem d_M_content_50 : decode c_M_content 50 = .ok (.getfield 22, 3) := by decide +kernel
theorem d_M_content_53 : decode c_M_content 53 = .ok (.aload_n 0, 1) := by decide +kernel
theorem d_M_content_54 : decode c_M_content 54 = .ok (.iload_n 1, 1) := by decide +kernel
theorem d_M_content_55 : decode c_M_content 55 = .ok (.bipush 10, 2) := by decide +kernel
theorem d_M_content_57 : decode c_M_content 57 = .ok (.invokevirtual 59, 3) := by decide +kernel
theorem d_M_content_60 : decode c_M_content 60 = .ok (.iload_n 2, 1) := by decide +kernel
theorem d_M_content_61 : decode c_M_content 61 = .ok (.iadd, 1) := by decide +kernel
theorem d_M_content_62 : decode c_M_content 62 = .ok (.iaload, 1) := by decide +kernel
theorem d_M_content_63 : decode c_M_content 63 = .ok (.ireturn, 1) := by decide +kernel
theorem d_M_boundary_0 : decode c_M_boundary 0 = .ok (.aload_n 0, 1) := by decide +kernel
theorem d_M_boundary_1 : decode c_M_boundary 1 = .ok (.aload_n 0, 1) := by decide +kernel
theorem d_M_boundary_2 : decode c_M_boundary 2 = .ok (.iload_n 1, 1) := by decide +kernel
theorem d_M_boundary_3 : decode c_M_boundary 3 = .ok (.invokevirtual 224, 3) := by decide +kernel
theorem d_M_boundary_6 : decode c_M_boundary 6 = .ok (.ifCond .ne 7, 3) := by decide +kernel
theorem d_M_boundary_9 : decode c_M_boundary 9 = .ok (.iconst 1, 1) := by decide +kernel
theorem d_M_boundary_10 : decode c_M_boundary 10 = .ok (.goto 4, 3) := by decide +kernel
theorem d_M_boundary_13 : decode c_M_boundary 13 = .ok (.iconst 0, 1) := by decide +kernel
theorem d_M_boundary_14 : decode c_M_boundary 14 = .ok (.iconst 0, 1) := by decide +kernel
theorem d_M_boundary_15 : decode c_M_boundary 15 = .ok (.invokevirtual 227, 3) := by decide +kernel
theorem d_M_boundary_18 : decode c_M_boundary 18 = .ok (.ifCond .eq 5, 3) := by decide +kernel
theorem d_M_boundary_21 : decode c_M_boundary 21 = .ok (.iconst 0, 1) := by decide +kernel
theorem d_M_boundary_22 : decode c_M_boundary 22 = .ok (.ireturn, 1) := by decide +kernel
theorem d_M_boundary_23 : decode c_M_boundary 23 = .ok (.aload_n 0, 1) := by decide +kernel
theorem d_M_boundary_24 : decode c_M_boundary 24 = .ok (.iload_n 1, 1) := by decide +kernel
theorem d_M_boundary_25 : decode c_M_boundary 25 = .ok (.iconst 0, 1) := by decide +kernel
theorem d_M_boundary_26 : decode c_M_boundary 26 = .ok (.invokevirtual 59, 3) := by decide +kernel
theorem d_M_boundary_29 : decode c_M_boundary 29 = .ok (.iconst 1, 1) := by decide +kernel
theorem d_M_boundary_30 : decode c_M_boundary 30 = .ok (.if_icmp .ne 18, 3) := by decide +kernel
theorem d_M_boundary_33 : decode c_M_boundary 33 = .ok (.iload_n 2, 1) := by decide +kernel
theorem d_M_boundary_34 : decode c_M_boundary 34 = .ok (.ifCond .lt 14, 3) := by decide +kernel
theorem d_M_boundary_37 : decode c_M_boundary 37 = .ok (.iload_n 2, 1) := by decide +kernel
theorem d_M_boundary_38 : decode c_M_boundary 38 = .ok (.aload_n 0, 1) := by decide +kernel
theorem d_M_boundary_39 : decode c_M_boundary 39 = .ok (.iload_n 1, 1) := by decide +kernel
theorem d_M_boundary_40 : decode c_M_boundary 40 = .ok (.bipush 12, 2) := by decide +kernel
theorem d_M_boundary_42 : decode c_M_boundary 42 = .ok (.invokevirtual 59, 3) := by decide +kernel
theorem d_M_boundary_45 : decode c_M_boundary 45 = .ok (.if_icmp .lt 7, 3) := by decide +kernel
theorem d_M_boundary_48 : decode c_M_boundary 48 = .ok (.iconst (-1), 1) := by decide +kernel
theorem d_M_boundary_49 : decode c_M_boundary 49 = .ok (.goto 17, 3) := by decide +kernel
theorem d_M_boundary_52 : decode c_M_boundary 52 = .ok (.aload_n 0, 1) := by decide +kernel
theorem d_M_boundary_53 : decode c_M_boundary 53 = .ok (.getfield 22, 3) := by decide +kernel
theorem d_M_boundary_56 : decode c_M_boundary 56 = .ok (.aload_n 0, 1) := by decide +kernel
theorem d_M_boundary_57 : decode c_M_boundary 57 = .ok (.iload_n 1, 1) := by decide +kernel
theorem d_M_boundary_58 : decode c_M_boundary 58 = .ok (.bipush 11, 2) := by decide +kernel
theorem d_M_boundary_60 : decode c_M_boundary 60 = .ok (.invokevirtual 59, 3) := by decide +kernel
theorem d_M_boundary_63 : decode c_M_boundary 63 = .ok (.iload_n 2, 1) := by decide +kernel
theorem d_M_boundary_64 : decode c_M_boundary 64 = .ok (.iadd, 1) := by decide +kernel
theorem d_M_boundary_65 : decode c_M_boundary 65 = .ok (.iaload, 1) := by decide +kernel
theorem d_M_boundary_66 : decode c_M_boundary 66 = .ok (.ireturn, 1) := by decide +kernel
theorem d_M_write_0 : decode c_M_write 0 = .ok (.aload_n 0, 1) := by decide +kernel
theorem d_M_write_1 : decode c_M_write 1 = .ok (.aload_n 0, 1) := by decide +kernel
theorem d_M_write_2 : decode c_M_write 2 = .ok (.getfield 217, 3) := by decide +kernel
theorem d_M_write_5 : decode c_M_write 5 = .ok (.ifCond .ne 7, 3) := by decide +kernel
theorem d_M_write_8 : decode c_M_write 8 = .ok (.iconst 1, 1) := by decide +kernel
theorem d_M_write_9 : decode c_M_write 9 = .ok (.goto 4, 3) := by decide +kernel
theorem d_M_write_12 : decode c_M_write 12 = .ok (.iconst 0, 1) := by decide +kernel
theorem d_M_write_13 : decode c_M_write 13 = .ok (.iconst 0, 1) := by decide +kernel
theorem d_M_write_14 : decode c_M_write 14 = .ok (.invokevirtual 227, 3) := by decide +kernel
theorem d_M_write_17 : decode c_M_write 17 = .ok (.ifCond .eq 5, 3) := by decide +kernel
theorem d_M_write_20 : decode c_M_write 20 = .ok (.iconst 0, 1) := by decide +kernel
theorem d_M_write_21 : decode c_M_write 21 = .ok (.ireturn, 1) := by decide +kernel
theorem d_M_write_22 : decode c_M_write 22 = .ok (.aload_n 0, 1) := by decide +kernel
theorem d_M_write_23 : decode c_M_write 23 = .ok (.iconst 0, 1) := by decide +kernel
theorem d_M_write_24 : decode c_M_write 24 = .ok (.putfield 235, 3) := by decide +kernel
theorem d_M_write_27 : decode c_M_write 27 = .ok (.aload_n 0, 1) := by decide +kernel
theorem d_M_write_28 : decode c_M_write 28 = .ok (.iconst 0, 1) := by decide +kernel
theorem d_M_write_29 : decode c_M_write 29 = .ok (.putfield 269, 3) := by decide +kernel
theorem d_M_write_32 : decode c_M_write 32 = .ok (.aload_n 0, 1) := by decide +kernel
theorem d_M_write_33 : decode c_M_write 33 = .ok (.iconst 0, 1) := by decide +kernel
theorem d_M_write_34 : decode c_M_write 34 = .ok (.invokevirtual 279, 3) := by decide +kernel
theorem d_M_write_37 : decode c_M_write 37 = .ok (.aload_n 0, 1) := by decide +kernel
theorem d_M_write_38 : decode c_M_write 38 = .ok (.getfield 269, 3) := by decide +kernel
theorem d_M_write_41 : decode c_M_write 41 = .ok (.ifCond .le 10, 3) := by decide +kernel
theorem d_M_write_44 : decode c_M_write 44 = .ok (.aload_n 0, 1) := by decide +kernel
theorem d_M_write_45 : decode c_M_write 45 = .ok (.invokevirtual 282, 3) := by decide +kernel
theorem d_M_write_48 : decode c_M_write 48 = .ok (.goto (-11), 3) := by decide +kernel
theorem d_M_write_51 : decode c_M_write 51 = .ok (.aload_n 0, 1) := by decide +kernel
theorem d_M_write_52 : decode c_M_write 52 = .ok (.iconst 0, 1) := by decide +kernel
theorem d_M_write_53 : decode c_M_write 53 = .ok (.aload_n 0, 1) := by decide +kernel
theorem d_M_write_54 : decode c_M_write 54 = .ok (.getfield 235, 3) := by decide +kernel
theorem d_M_write_57 : decode c_M_write 57 = .ok (.sipush 700, 3) := by decide +kernel
theorem d_M_write_60 : decode c_M_write 60 = .ok (.if_icmp .le 7, 3) := by decide +kernel
theorem d_M_write_63 : decode c_M_write 63 = .ok (.iconst 1, 1) := by decide +kernel
theorem d_M_write_64 : decode c_M_write 64 = .ok (.goto 4, 3) := by decide +kernel
theorem d_M_write_67 : decode c_M_write 67 = .ok (.iconst 0, 1) := by decide +kernel
theorem d_M_write_68 : decode c_M_write 68 = .ok (.invokevirtual 227, 3) := by decide +kernel
theorem d_M_write_71 : decode c_M_write 71 = .ok (.ifCond .eq 5, 3) := by decide +kernel
theorem d_M_write_74 : decode c_M_write 74 = .ok (.iconst 0, 1) := by decide +kernel
theorem d_M_write_75 : decode c_M_write 75 = .ok (.ireturn, 1) := by decide +kernel
theorem d_M_write_76 : decode c_M_write 76 = .ok (.aload_n 0, 1) := by decide +kernel
theorem d_M_write_77 : decode c_M_write 77 = .ok (.aload_n 0, 1) := by decide +kernel
theorem d_M_write_78 : decode c_M_write 78 = .ok (.getfield 235, 3) := by decide +kernel
theorem d_M_write_81 : decode c_M_write 81 = .ok (.putfield 285, 3) := by decide +kernel
theorem d_M_write_84 : decode c_M_write 84 = .ok (.iconst 0, 1) := by decide +kernel
theorem d_M_write_85 : decode c_M_write 85 = .ok (.istore_n 1, 1) := by decide +kernel
theorem d_M_write_86 : decode c_M_write 86 = .ok (.iload_n 1, 1) := by decide +kernel
theorem d_M_write_87 : decode c_M_write 87 = .ok (.aload_n 0, 1) := by decide +kernel
theorem d_M_write_88 : decode c_M_write 88 = .ok (.getfield 235, 3) := by decide +kernel
theorem d_M_write_91 : decode c_M_write 91 = .ok (.if_icmp .ge 21, 3) := by decide +kernel
theorem d_M_write_94 : decode c_M_write 94 = .ok (.aload_n 0, 1) := by decide +kernel
theorem d_M_write_95 : decode c_M_write 95 = .ok (.getfield 34, 3) := by decide +kernel
theorem d_M_write_98 : decode c_M_write 98 = .ok (.iload_n 1, 1) := by decide +kernel
theorem d_M_write_99 : decode c_M_write 99 = .ok (.aload_n 0, 1) := by decide +kernel
theorem d_M_write_100 : decode c_M_write 100 = .ok (.getfield 31, 3) := by decide +kernel
theorem d_M_write_103 : decode c_M_write 103 = .ok (.iload_n 1, 1) := by decide +kernel
theorem d_M_write_104 : decode c_M_write 104 = .ok (.iaload, 1) := by decide +kernel
theorem d_M_write_105 : decode c_M_write 105 = .ok (.iastore, 1) := by decide +kernel
theorem d_M_write_106 : decode c_M_write 106 = .ok (.iinc 1 1, 3) := by decide +kernel
theorem d_M_write_109 : decode c_M_write 109 = .ok (.goto (-23), 3) := by decide +kernel
theorem d_M_write_112 : decode c_M_write 112 = .ok (.aload_n 0, 1) := by decide +kernel
theorem d_M_write_113 : decode c_M_write 113 = .ok (.getfield 235, 3) := by decide +kernel
theorem d_M_write_116 : decode c_M_write 116 = .ok (.ireturn, 1) := by decide +kernel
theorem d_M_opens_0 : decode c_M_opens 0 = .ok (.aload_n 0, 1) := by decide +kernel
theorem d_M_opens_1 : decode c_M_opens 1 = .ok (.iload_n 1, 1) := by decide +kernel
theorem d_M_opens_2 : decode c_M_opens 2 = .ok (.invokevirtual 266, 3) := by decide +kernel
theorem d_M_opens_5 : decode c_M_opens 5 = .ok (.aload_n 0, 1) := by decide +kernel
theorem d_M_opens_6 : decode c_M_opens 6 = .ok (.getfield 37, 3) := by decide +kernel
theorem d_M_opens_9 : decode c_M_opens 9 = .ok (.aload_n 0, 1) := by decide +kernel
theorem d_M_opens_10 : decode c_M_opens 10 = .ok (.getfield 269, 3) := by decide +kernel
theorem d_M_opens_13 : decode c_M_opens 13 = .ok (.iload_n 1, 1) := by decide +kernel
theorem d_M_opens_14 : decode c_M_opens 14 = .ok (.iastore, 1) := by decide +kernel
theorem d_M_opens_15 : decode c_M_opens 15 = .ok (.aload_n 0, 1) := by decide +kernel
theorem d_M_opens_16 : decode c_M_opens 16 = .ok (.getfield 40, 3) := by decide +kernel
theorem d_M_opens_19 : decode c_M_opens 19 = .ok (.aload_n 0, 1) := by decide +kernel
theorem d_M_opens_20 : decode c_M_opens 20 = .ok (.getfield 269, 3) := by decide +kernel
theorem d_M_opens_23 : decode c_M_opens 23 = .ok (.iload_n 1, 1) := by decide +kernel
theorem d_M_opens_24 : decode c_M_opens 24 = .ok (.iconst 1, 1) := by decide +kernel
theorem d_M_opens_25 : decode c_M_opens 25 = .ok (.iadd, 1) := by decide +kernel
theorem d_M_opens_26 : decode c_M_opens 26 = .ok (.iastore, 1) := by decide +kernel
theorem d_M_opens_27 : decode c_M_opens 27 = .ok (.aload_n 0, 1) := by decide +kernel
theorem d_M_opens_28 : decode c_M_opens 28 = .ok (.dup, 1) := by decide +kernel
theorem d_M_opens_29 : decode c_M_opens 29 = .ok (.getfield 269, 3) := by decide +kernel
theorem d_M_opens_32 : decode c_M_opens 32 = .ok (.iconst 1, 1) := by decide +kernel
theorem d_M_opens_33 : decode c_M_opens 33 = .ok (.iadd, 1) := by decide +kernel
theorem d_M_opens_34 : decode c_M_opens 34 = .ok (.putfield 269, 3) := by decide +kernel
theorem d_M_opens_37 : decode c_M_opens 37 = .ok (.return_, 1) := by decide +kernel
theorem d_M_putHead_0 : decode c_M_putHead 0 = .ok (.iconst 0, 1) := by decide +kernel
theorem d_M_putHead_1 : decode c_M_putHead 1 = .ok (.istore_n 2, 1) := by decide +kernel
theorem d_M_putHead_2 : decode c_M_putHead 2 = .ok (.iload_n 2, 1) := by decide +kernel
theorem d_M_putHead_3 : decode c_M_putHead 3 = .ok (.aload_n 0, 1) := by decide +kernel
theorem d_M_putHead_4 : decode c_M_putHead 4 = .ok (.iload_n 1, 1) := by decide +kernel
theorem d_M_putHead_5 : decode c_M_putHead 5 = .ok (.iconst 3, 1) := by decide +kernel
theorem d_M_putHead_6 : decode c_M_putHead 6 = .ok (.invokevirtual 59, 3) := by decide +kernel
theorem d_M_putHead_9 : decode c_M_putHead 9 = .ok (.if_icmp .ge 61, 3) := by decide +kernel
theorem d_M_putHead_12 : decode c_M_putHead 12 = .ok (.aload_n 0, 1) := by decide +kernel
theorem d_M_putHead_13 : decode c_M_putHead 13 = .ok (.aload_n 0, 1) := by decide +kernel
theorem d_M_putHead_14 : decode c_M_putHead 14 = .ok (.iload_n 1, 1) := by decide +kernel
theorem d_M_putHead_15 : decode c_M_putHead 15 = .ok (.iload_n 2, 1) := by decide +kernel
theorem d_M_putHead_16 : decode c_M_putHead 16 = .ok (.iconst 0, 1) := by decide +kernel
theorem d_M_putHead_17 : decode c_M_putHead 17 = .ok (.invokevirtual 115, 3) := by decide +kernel
theorem d_M_putHead_20 : decode c_M_putHead 20 = .ok (.aload_n 0, 1) := by decide +kernel
theorem d_M_putHead_21 : decode c_M_putHead 21 = .ok (.iload_n 1, 1) := by decide +kernel
theorem d_M_putHead_22 : decode c_M_putHead 22 = .ok (.iload_n 2, 1) := by decide +kernel
theorem d_M_putHead_23 : decode c_M_putHead 23 = .ok (.iconst 1, 1) := by decide +kernel
theorem d_M_putHead_24 : decode c_M_putHead 24 = .ok (.invokevirtual 115, 3) := by decide +kernel
theorem d_M_putHead_27 : decode c_M_putHead 27 = .ok (.invokevirtual 257, 3) := by decide +kernel
theorem d_M_putHead_30 : decode c_M_putHead 30 = .ok (.aload_n 0, 1) := by decide +kernel
theorem d_M_putHead_31 : decode c_M_putHead 31 = .ok (.bipush 58, 2) := by decide +kernel
theorem d_M_putHead_33 : decode c_M_putHead 33 = .ok (.invokevirtual 238, 3) := by decide +kernel
theorem d_M_putHead_36 : decode c_M_putHead 36 = .ok (.aload_n 0, 1) := by decide +kernel
theorem d_M_putHead_37 : decode c_M_putHead 37 = .ok (.bipush 32, 2) := by decide +kernel
theorem d_M_putHead_39 : decode c_M_putHead 39 = .ok (.invokevirtual 238, 3) := by decide +kernel
theorem d_M_putHead_42 : decode c_M_putHead 42 = .ok (.aload_n 0, 1) := by decide +kernel
theorem d_M_putHead_43 : decode c_M_putHead 43 = .ok (.aload_n 0, 1) := by decide +kernel
theorem d_M_putHead_44 : decode c_M_putHead 44 = .ok (.iload_n 1, 1) := by decide +kernel
theorem d_M_putHead_45 : decode c_M_putHead 45 = .ok (.iload_n 2, 1) := by decide +kernel
theorem d_M_putHead_46 : decode c_M_putHead 46 = .ok (.iconst 2, 1) := by decide +kernel
theorem d_M_putHead_47 : decode c_M_putHead 47 = .ok (.invokevirtual 115, 3) := by decide +kernel
theorem d_M_putHead_50 : decode c_M_putHead 50 = .ok (.aload_n 0, 1) := by decide +kernel
theorem d_M_putHead_51 : decode c_M_putHead 51 = .ok (.iload_n 1, 1) := by decide +kernel
theorem d_M_putHead_52 : decode c_M_putHead 52 = .ok (.iload_n 2, 1) := by decide +kernel
theorem d_M_putHead_53 : decode c_M_putHead 53 = .ok (.iconst 3, 1) := by decide +kernel
theorem d_M_putHead_54 : decode c_M_putHead 54 = .ok (.invokevirtual 115, 3) := by decide +kernel
theorem d_M_putHead_57 : decode c_M_putHead 57 = .ok (.invokevirtual 257, 3) := by decide +kernel
theorem d_M_putHead_60 : decode c_M_putHead 60 = .ok (.aload_n 0, 1) := by decide +kernel
theorem d_M_putHead_61 : decode c_M_putHead 61 = .ok (.invokevirtual 247, 3) := by decide +kernel
theorem d_M_putHead_64 : decode c_M_putHead 64 = .ok (.iinc 2 1, 3) := by decide +kernel
theorem d_M_putHead_67 : decode c_M_putHead 67 = .ok (.goto (-65), 3) := by decide +kernel
theorem d_M_putHead_70 : decode c_M_putHead 70 = .ok (.aload_n 0, 1) := by decide +kernel
theorem d_M_putHead_71 : decode c_M_putHead 71 = .ok (.invokevirtual 247, 3) := by decide +kernel
theorem d_M_putHead_74 : decode c_M_putHead 74 = .ok (.aload_n 0, 1) := by decide +kernel
theorem d_M_putHead_75 : decode c_M_putHead 75 = .ok (.iload_n 1, 1) := by decide +kernel
theorem d_M_putHead_76 : decode c_M_putHead 76 = .ok (.iconst 0, 1) := by decide +kernel
theorem d_M_putHead_77 : decode c_M_putHead 77 = .ok (.invokevirtual 59, 3) := by decide +kernel
theorem d_M_putHead_80 : decode c_M_putHead 80 = .ok (.ifCond .eq 4, 3) := by decide +kernel
theorem d_M_putHead_83 : decode c_M_putHead 83 = .ok (.return_, 1) := by decide +kernel
theorem d_M_putHead_84 : decode c_M_putHead 84 = .ok (.aload_n 0, 1) := by decide +kernel
theorem d_M_putHead_85 : decode c_M_putHead 85 = .ok (.iload_n 1, 1) := by decide +kernel
theorem d_M_putHead_86 : decode c_M_putHead 86 = .ok (.iconst 4, 1) := by decide +kernel
theorem d_M_putHead_87 : decode c_M_putHead 87 = .ok (.invokevirtual 59, 3) := by decide +kernel
theorem d_M_putHead_90 : decode c_M_putHead 90 = .ok (.iconst 1, 1) := by decide +kernel
theorem d_M_putHead_91 : decode c_M_putHead 91 = .ok (.if_icmp .ne 23, 3) := by decide +kernel
theorem d_M_putHead_94 : decode c_M_putHead 94 = .ok (.aload_n 0, 1) := by decide +kernel
theorem d_M_putHead_95 : decode c_M_putHead 95 = .ok (.aload_n 0, 1) := by decide +kernel
theorem d_M_putHead_96 : decode c_M_putHead 96 = .ok (.iload_n 1, 1) := by decide +kernel
theorem d_M_putHead_97 : decode c_M_putHead 97 = .ok (.bipush 10, 2) := by decide +kernel
end
section
theorem d_M_putHead_99 : decode c_M_putHead 99 = .ok (.invokevirtual 59, 3) := by decide +kernel
theorem d_M_putHead_102 : decode c_M_putHead 102 = .ok (.aload_n 0, 1) := by decide +kernel
theorem d_M_putHead_103 : decode c_M_putHead 103 = .ok (.iload_n 1, 1) := by decide +kernel
theorem d_M_putHead_104 : decode c_M_putHead 104 = .ok (.iconst 5, 1) := by decide +kernel
theorem d_M_putHead_105 : decode c_M_putHead 105 = .ok (.invokevirtual 59, 3) := by decide +kernel
theorem d_M_putHead_108 : decode c_M_putHead 108 = .ok (.invokevirtual 260, 3) := by decide +kernel
theorem d_M_putHead_111 : decode c_M_putHead 111 = .ok (.goto 50, 3) := by decide +kernel
theorem d_M_putHead_114 : decode c_M_putHead 114 = .ok (.aload_n 0, 1) := by decide +kernel
theorem d_M_putHead_115 : decode c_M_putHead 115 = .ok (.iload_n 1, 1) := by decide +kernel
theorem d_M_putHead_116 : decode c_M_putHead 116 = .ok (.iconst 4, 1) := by decide +kernel
theorem d_M_putHead_117 : decode c_M_putHead 117 = .ok (.invokevirtual 59, 3) := by decide +kernel
theorem d_M_putHead_120 : decode c_M_putHead 120 = .ok (.iconst 2, 1) := by decide +kernel
theorem d_M_putHead_121 : decode c_M_putHead 121 = .ok (.if_icmp .ne 23, 3) := by decide +kernel
theorem d_M_putHead_124 : decode c_M_putHead 124 = .ok (.aload_n 0, 1) := by decide +kernel
theorem d_M_putHead_125 : decode c_M_putHead 125 = .ok (.aload_n 0, 1) := by decide +kernel
theorem d_M_putHead_126 : decode c_M_putHead 126 = .ok (.iload_n 1, 1) := by decide +kernel
theorem d_M_putHead_127 : decode c_M_putHead 127 = .ok (.bipush 10, 2) := by decide +kernel
theorem d_M_putHead_129 : decode c_M_putHead 129 = .ok (.invokevirtual 59, 3) := by decide +kernel
theorem d_M_putHead_132 : decode c_M_putHead 132 = .ok (.aload_n 0, 1) := by decide +kernel
theorem d_M_putHead_133 : decode c_M_putHead 133 = .ok (.iload_n 1, 1) := by decide +kernel
theorem d_M_putHead_134 : decode c_M_putHead 134 = .ok (.iconst 5, 1) := by decide +kernel
theorem d_M_putHead_135 : decode c_M_putHead 135 = .ok (.invokevirtual 59, 3) := by decide +kernel
theorem d_M_putHead_138 : decode c_M_putHead 138 = .ok (.invokevirtual 263, 3) := by decide +kernel
theorem d_M_putHead_141 : decode c_M_putHead 141 = .ok (.goto 20, 3) := by decide +kernel
theorem d_M_putHead_144 : decode c_M_putHead 144 = .ok (.aload_n 0, 1) := by decide +kernel
theorem d_M_putHead_145 : decode c_M_putHead 145 = .ok (.aload_n 0, 1) := by decide +kernel
theorem d_M_putHead_146 : decode c_M_putHead 146 = .ok (.iload_n 1, 1) := by decide +kernel
theorem d_M_putHead_147 : decode c_M_putHead 147 = .ok (.bipush 10, 2) := by decide +kernel
theorem d_M_putHead_149 : decode c_M_putHead 149 = .ok (.invokevirtual 59, 3) := by decide +kernel
theorem d_M_putHead_152 : decode c_M_putHead 152 = .ok (.aload_n 0, 1) := by decide +kernel
theorem d_M_putHead_153 : decode c_M_putHead 153 = .ok (.iload_n 1, 1) := by decide +kernel
theorem d_M_putHead_154 : decode c_M_putHead 154 = .ok (.iconst 5, 1) := by decide +kernel
theorem d_M_putHead_155 : decode c_M_putHead 155 = .ok (.invokevirtual 59, 3) := by decide +kernel
theorem d_M_putHead_158 : decode c_M_putHead 158 = .ok (.invokevirtual 257, 3) := by decide +kernel
theorem d_M_putHead_161 : decode c_M_putHead 161 = .ok (.return_, 1) := by decide +kernel
theorem d_M_putText_0 : decode c_M_putText 0 = .ok (.iconst 0, 1) := by decide +kernel
theorem d_M_putText_1 : decode c_M_putText 1 = .ok (.istore_n 3, 1) := by decide +kernel
theorem d_M_putText_2 : decode c_M_putText 2 = .ok (.iload_n 3, 1) := by decide +kernel
theorem d_M_putText_3 : decode c_M_putText 3 = .ok (.iload_n 2, 1) := by decide +kernel
theorem d_M_putText_4 : decode c_M_putText 4 = .ok (.if_icmp .ge 21, 3) := by decide +kernel
theorem d_M_putText_7 : decode c_M_putText 7 = .ok (.aload_n 0, 1) := by decide +kernel
theorem d_M_putText_8 : decode c_M_putText 8 = .ok (.aload_n 0, 1) := by decide +kernel
theorem d_M_putText_9 : decode c_M_putText 9 = .ok (.getfield 22, 3) := by decide +kernel
theorem d_M_putText_12 : decode c_M_putText 12 = .ok (.iload_n 1, 1) := by decide +kernel
theorem d_M_putText_13 : decode c_M_putText 13 = .ok (.iload_n 3, 1) := by decide +kernel
theorem d_M_putText_14 : decode c_M_putText 14 = .ok (.iadd, 1) := by decide +kernel
theorem d_M_putText_15 : decode c_M_putText 15 = .ok (.iaload, 1) := by decide +kernel
theorem d_M_putText_16 : decode c_M_putText 16 = .ok (.invokevirtual 238, 3) := by decide +kernel
theorem d_M_putText_19 : decode c_M_putText 19 = .ok (.iinc 3 1, 3) := by decide +kernel
theorem d_M_putText_22 : decode c_M_putText 22 = .ok (.goto (-20), 3) := by decide +kernel
theorem d_M_putText_25 : decode c_M_putText 25 = .ok (.return_, 1) := by decide +kernel
theorem d_M_put_0 : decode c_M_put 0 = .ok (.aload_n 0, 1) := by decide +kernel
theorem d_M_put_1 : decode c_M_put 1 = .ok (.getfield 235, 3) := by decide +kernel
theorem d_M_put_4 : decode c_M_put 4 = .ok (.sipush 1800, 3) := by decide +kernel
theorem d_M_put_7 : decode c_M_put 7 = .ok (.if_icmp .ge 13, 3) := by decide +kernel
theorem d_M_put_10 : decode c_M_put 10 = .ok (.aload_n 0, 1) := by decide +kernel
theorem d_M_put_11 : decode c_M_put 11 = .ok (.getfield 31, 3) := by decide +kernel
theorem d_M_put_14 : decode c_M_put 14 = .ok (.aload_n 0, 1) := by decide +kernel
theorem d_M_put_15 : decode c_M_put 15 = .ok (.getfield 235, 3) := by decide +kernel
theorem d_M_put_18 : decode c_M_put 18 = .ok (.iload_n 1, 1) := by decide +kernel
theorem d_M_put_19 : decode c_M_put 19 = .ok (.iastore, 1) := by decide +kernel
theorem d_M_put_20 : decode c_M_put 20 = .ok (.aload_n 0, 1) := by decide +kernel
theorem d_M_put_21 : decode c_M_put 21 = .ok (.dup, 1) := by decide +kernel
theorem d_M_put_22 : decode c_M_put 22 = .ok (.getfield 235, 3) := by decide +kernel
theorem d_M_put_25 : decode c_M_put 25 = .ok (.iconst 1, 1) := by decide +kernel
theorem d_M_put_26 : decode c_M_put 26 = .ok (.iadd, 1) := by decide +kernel
theorem d_M_put_27 : decode c_M_put 27 = .ok (.putfield 235, 3) := by decide +kernel
theorem d_M_put_30 : decode c_M_put 30 = .ok (.return_, 1) := by decide +kernel
theorem d_M_putLine_0 : decode c_M_putLine 0 = .ok (.aload_n 0, 1) := by decide +kernel
theorem d_M_putLine_1 : decode c_M_putLine 1 = .ok (.bipush 13, 2) := by decide +kernel
theorem d_M_putLine_3 : decode c_M_putLine 3 = .ok (.invokevirtual 238, 3) := by decide +kernel
theorem d_M_putLine_6 : decode c_M_putLine 6 = .ok (.aload_n 0, 1) := by decide +kernel
theorem d_M_putLine_7 : decode c_M_putLine 7 = .ok (.bipush 10, 2) := by decide +kernel
theorem d_M_putLine_9 : decode c_M_putLine 9 = .ok (.invokevirtual 238, 3) := by decide +kernel
theorem d_M_putLine_12 : decode c_M_putLine 12 = .ok (.aload_n 0, 1) := by decide +kernel
theorem d_M_putLine_13 : decode c_M_putLine 13 = .ok (.iconst 0, 1) := by decide +kernel
theorem d_M_putLine_14 : decode c_M_putLine 14 = .ok (.putfield 241, 3) := by decide +kernel
theorem d_M_putLine_17 : decode c_M_putLine 17 = .ok (.return_, 1) := by decide +kernel
theorem d_M_putLetters_0 : decode c_M_putLetters 0 = .ok (.iconst 0, 1) := by decide +kernel
theorem d_M_putLetters_1 : decode c_M_putLetters 1 = .ok (.istore_n 3, 1) := by decide +kernel
theorem d_M_putLetters_2 : decode c_M_putLetters 2 = .ok (.iconst 0, 1) := by decide +kernel
theorem d_M_putLetters_3 : decode c_M_putLetters 3 = .ok (.istore 4, 2) := by decide +kernel
theorem d_M_putLetters_5 : decode c_M_putLetters 5 = .ok (.iload 4, 2) := by decide +kernel
theorem d_M_putLetters_7 : decode c_M_putLetters 7 = .ok (.iload_n 2, 1) := by decide +kernel
theorem d_M_putLetters_8 : decode c_M_putLetters 8 = .ok (.if_icmp .ge 171, 3) := by decide +kernel
theorem d_M_putLetters_11 : decode c_M_putLetters 11 = .ok (.aload_n 0, 1) := by decide +kernel
theorem d_M_putLetters_12 : decode c_M_putLetters 12 = .ok (.getfield 22, 3) := by decide +kernel
theorem d_M_putLetters_15 : decode c_M_putLetters 15 = .ok (.iload_n 1, 1) := by decide +kernel
theorem d_M_putLetters_16 : decode c_M_putLetters 16 = .ok (.iload 4, 2) := by decide +kernel
theorem d_M_putLetters_18 : decode c_M_putLetters 18 = .ok (.iadd, 1) := by decide +kernel
theorem d_M_putLetters_19 : decode c_M_putLetters 19 = .ok (.iaload, 1) := by decide +kernel
theorem d_M_putLetters_20 : decode c_M_putLetters 20 = .ok (.istore 5, 2) := by decide +kernel
theorem d_M_putLetters_22 : decode c_M_putLetters 22 = .ok (.iload 4, 2) := by decide +kernel
theorem d_M_putLetters_24 : decode c_M_putLetters 24 = .ok (.iconst 1, 1) := by decide +kernel
theorem d_M_putLetters_25 : decode c_M_putLetters 25 = .ok (.iadd, 1) := by decide +kernel
theorem d_M_putLetters_26 : decode c_M_putLetters 26 = .ok (.iload_n 2, 1) := by decide +kernel
theorem d_M_putLetters_27 : decode c_M_putLetters 27 = .ok (.if_icmp .ge 17, 3) := by decide +kernel
theorem d_M_putLetters_30 : decode c_M_putLetters 30 = .ok (.aload_n 0, 1) := by decide +kernel
theorem d_M_putLetters_31 : decode c_M_putLetters 31 = .ok (.getfield 22, 3) := by decide +kernel
theorem d_M_putLetters_34 : decode c_M_putLetters 34 = .ok (.iload_n 1, 1) := by decide +kernel
theorem d_M_putLetters_35 : decode c_M_putLetters 35 = .ok (.iload 4, 2) := by decide +kernel
theorem d_M_putLetters_37 : decode c_M_putLetters 37 = .ok (.iadd, 1) := by decide +kernel
theorem d_M_putLetters_38 : decode c_M_putLetters 38 = .ok (.iconst 1, 1) := by decide +kernel
theorem d_M_putLetters_39 : decode c_M_putLetters 39 = .ok (.iadd, 1) := by decide +kernel
theorem d_M_putLetters_40 : decode c_M_putLetters 40 = .ok (.iaload, 1) := by decide +kernel
theorem d_M_putLetters_41 : decode c_M_putLetters 41 = .ok (.goto 4, 3) := by decide +kernel
theorem d_M_putLetters_44 : decode c_M_putLetters 44 = .ok (.iconst 0, 1) := by decide +kernel
theorem d_M_putLetters_45 : decode c_M_putLetters 45 = .ok (.istore 6, 2) := by decide +kernel
theorem d_M_putLetters_47 : decode c_M_putLetters 47 = .ok (.iload 4, 2) := by decide +kernel
theorem d_M_putLetters_49 : decode c_M_putLetters 49 = .ok (.iconst 2, 1) := by decide +kernel
theorem d_M_putLetters_50 : decode c_M_putLetters 50 = .ok (.iadd, 1) := by decide +kernel
theorem d_M_putLetters_51 : decode c_M_putLetters 51 = .ok (.iload_n 2, 1) := by decide +kernel
theorem d_M_putLetters_52 : decode c_M_putLetters 52 = .ok (.if_icmp .ge 17, 3) := by decide +kernel
theorem d_M_putLetters_55 : decode c_M_putLetters 55 = .ok (.aload_n 0, 1) := by decide +kernel
theorem d_M_putLetters_56 : decode c_M_putLetters 56 = .ok (.getfield 22, 3) := by decide +kernel
theorem d_M_putLetters_59 : decode c_M_putLetters 59 = .ok (.iload_n 1, 1) := by decide +kernel
theorem d_M_putLetters_60 : decode c_M_putLetters 60 = .ok (.iload 4, 2) := by decide +kernel
theorem d_M_putLetters_62 : decode c_M_putLetters 62 = .ok (.iadd, 1) := by decide +kernel
theorem d_M_putLetters_63 : decode c_M_putLetters 63 = .ok (.iconst 2, 1) := by decide +kernel
theorem d_M_putLetters_64 : decode c_M_putLetters 64 = .ok (.iadd, 1) := by decide +kernel
theorem d_M_putLetters_65 : decode c_M_putLetters 65 = .ok (.iaload, 1) := by decide +kernel
theorem d_M_putLetters_66 : decode c_M_putLetters 66 = .ok (.goto 4, 3) := by decide +kernel
theorem d_M_putLetters_69 : decode c_M_putLetters 69 = .ok (.iconst 0, 1) := by decide +kernel
theorem d_M_putLetters_70 : decode c_M_putLetters 70 = .ok (.istore 7, 2) := by decide +kernel
theorem d_M_putLetters_72 : decode c_M_putLetters 72 = .ok (.aload_n 0, 1) := by decide +kernel
theorem d_M_putLetters_73 : decode c_M_putLetters 73 = .ok (.iload 5, 2) := by decide +kernel
theorem d_M_putLetters_75 : decode c_M_putLetters 75 = .ok (.iconst 2, 1) := by decide +kernel
theorem d_M_putLetters_76 : decode c_M_putLetters 76 = .ok (.ishr, 1) := by decide +kernel
theorem d_M_putLetters_77 : decode c_M_putLetters 77 = .ok (.invokestatic 244, 3) := by decide +kernel
theorem d_M_putLetters_80 : decode c_M_putLetters 80 = .ok (.invokevirtual 238, 3) := by decide +kernel
theorem d_M_putLetters_83 : decode c_M_putLetters 83 = .ok (.aload_n 0, 1) := by decide +kernel
theorem d_M_putLetters_84 : decode c_M_putLetters 84 = .ok (.iload 5, 2) := by decide +kernel
theorem d_M_putLetters_86 : decode c_M_putLetters 86 = .ok (.iconst 3, 1) := by decide +kernel
theorem d_M_putLetters_87 : decode c_M_putLetters 87 = .ok (.iand, 1) := by decide +kernel
theorem d_M_putLetters_88 : decode c_M_putLetters 88 = .ok (.iconst 4, 1) := by decide +kernel
theorem d_M_putLetters_89 : decode c_M_putLetters 89 = .ok (.ishl, 1) := by decide +kernel
theorem d_M_putLetters_90 : decode c_M_putLetters 90 = .ok (.iload 6, 2) := by decide +kernel
theorem d_M_putLetters_92 : decode c_M_putLetters 92 = .ok (.iconst 4, 1) := by decide +kernel
theorem d_M_putLetters_93 : decode c_M_putLetters 93 = .ok (.ishr, 1) := by decide +kernel
theorem d_M_putLetters_94 : decode c_M_putLetters 94 = .ok (.ior, 1) := by decide +kernel
theorem d_M_putLetters_95 : decode c_M_putLetters 95 = .ok (.invokestatic 244, 3) := by decide +kernel
theorem d_M_putLetters_98 : decode c_M_putLetters 98 = .ok (.invokevirtual 238, 3) := by decide +kernel
theorem d_M_putLetters_101 : decode c_M_putLetters 101 = .ok (.aload_n 0, 1) := by decide +kernel
theorem d_M_putLetters_102 : decode c_M_putLetters 102 = .ok (.iload 4, 2) := by decide +kernel
theorem d_M_putLetters_104 : decode c_M_putLetters 104 = .ok (.iconst 1, 1) := by decide +kernel
theorem d_M_putLetters_105 : decode c_M_putLetters 105 = .ok (.iadd, 1) := by decide +kernel
theorem d_M_putLetters_106 : decode c_M_putLetters 106 = .ok (.iload_n 2, 1) := by decide +kernel
theorem d_M_putLetters_107 : decode c_M_putLetters 107 = .ok (.if_icmp .ge 22, 3) := by decide +kernel
theorem d_M_putLetters_110 : decode c_M_putLetters 110 = .ok (.iload 6, 2) := by decide +kernel
theorem d_M_putLetters_112 : decode c_M_putLetters 112 = .ok (.bipush 15, 2) := by decide +kernel
theorem d_M_putLetters_114 : decode c_M_putLetters 114 = .ok (.iand, 1) := by decide +kernel
theorem d_M_putLetters_115 : decode c_M_putLetters 115 = .ok (.iconst 2, 1) := by decide +kernel
theorem d_M_putLetters_116 : decode c_M_putLetters 116 = .ok (.ishl, 1) := by decide +kernel
theorem d_M_putLetters_117 : decode c_M_putLetters 117 = .ok (.iload 7, 2) := by decide +kernel
theorem d_M_putLetters_119 : decode c_M_putLetters 119 = .ok (.bipush 6, 2) := by decide +kernel
theorem d_M_putLetters_121 : decode c_M_putLetters 121 = .ok (.ishr, 1) := by decide +kernel
theorem d_M_putLetters_122 : decode c_M_putLetters 122 = .ok (.ior, 1) := by decide +kernel
theorem d_M_putLetters_123 : decode c_M_putLetters 123 = .ok (.invokestatic 244, 3) := by decide +kernel
theorem d_M_putLetters_126 : decode c_M_putLetters 126 = .ok (.goto 5, 3) := by decide +kernel
theorem d_M_putLetters_129 : decode c_M_putLetters 129 = .ok (.bipush 61, 2) := by decide +kernel
theorem d_M_putLetters_131 : decode c_M_putLetters 131 = .ok (.invokevirtual 238, 3) := by decide +kernel
theorem d_M_putLetters_134 : decode c_M_putLetters 134 = .ok (.aload_n 0, 1) := by decide +kernel
theorem d_M_putLetters_135 : decode c_M_putLetters 135 = .ok (.iload 4, 2) := by decide +kernel
theorem d_M_putLetters_137 : decode c_M_putLetters 137 = .ok (.iconst 2, 1) := by decide +kernel
theorem d_M_putLetters_138 : decode c_M_putLetters 138 = .ok (.iadd, 1) := by decide +kernel
theorem d_M_putLetters_139 : decode c_M_putLetters 139 = .ok (.iload_n 2, 1) := by decide +kernel
theorem d_M_putLetters_140 : decode c_M_putLetters 140 = .ok (.if_icmp .ge 14, 3) := by decide +kernel
theorem d_M_putLetters_143 : decode c_M_putLetters 143 = .ok (.iload 7, 2) := by decide +kernel
theorem d_M_putLetters_145 : decode c_M_putLetters 145 = .ok (.bipush 63, 2) := by decide +kernel
theorem d_M_putLetters_147 : decode c_M_putLetters 147 = .ok (.iand, 1) := by decide +kernel
theorem d_M_putLetters_148 : decode c_M_putLetters 148 = .ok (.invokestatic 244, 3) := by decide +kernel
theorem d_M_putLetters_151 : decode c_M_putLetters 151 = .ok (.goto 5, 3) := by decide +kernel
theorem d_M_putLetters_154 : decode c_M_putLetters 154 = .ok (.bipush 61, 2) := by decide +kernel
theorem d_M_putLetters_156 : decode c_M_putLetters 156 = .ok (.invokevirtual 238, 3) := by decide +kernel
theorem d_M_putLetters_159 : decode c_M_putLetters 159 = .ok (.iinc 3 4, 3) := by decide +kernel
theorem d_M_putLetters_162 : decode c_M_putLetters 162 = .ok (.iload_n 3, 1) := by decide +kernel
theorem d_M_putLetters_163 : decode c_M_putLetters 163 = .ok (.bipush 24, 2) := by decide +kernel
theorem d_M_putLetters_165 : decode c_M_putLetters 165 = .ok (.irem, 1) := by decide +kernel
theorem d_M_putLetters_166 : decode c_M_putLetters 166 = .ok (.ifCond .ne 7, 3) := by decide +kernel
theorem d_M_putLetters_169 : decode c_M_putLetters 169 = .ok (.aload_n 0, 1) := by decide +kernel
theorem d_M_putLetters_170 : decode c_M_putLetters 170 = .ok (.invokevirtual 247, 3) := by decide +kernel
theorem d_M_putLetters_173 : decode c_M_putLetters 173 = .ok (.iinc 4 3, 3) := by decide +kernel
theorem d_M_putLetters_176 : decode c_M_putLetters 176 = .ok (.goto (-171), 3) := by decide +kernel
theorem d_M_putLetters_179 : decode c_M_putLetters 179 = .ok (.iload_n 3, 1) := by decide +kernel
theorem d_M_putLetters_180 : decode c_M_putLetters 180 = .ok (.bipush 24, 2) := by decide +kernel
theorem d_M_putLetters_182 : decode c_M_putLetters 182 = .ok (.irem, 1) := by decide +kernel
theorem d_M_putLetters_183 : decode c_M_putLetters 183 = .ok (.ifCond .le 7, 3) := by decide +kernel
theorem d_M_putLetters_186 : decode c_M_putLetters 186 = .ok (.aload_n 0, 1) := by decide +kernel
theorem d_M_putLetters_187 : decode c_M_putLetters 187 = .ok (.invokevirtual 247, 3) := by decide +kernel
theorem d_M_putLetters_190 : decode c_M_putLetters 190 = .ok (.return_, 1) := by decide +kernel
theorem d_M_toLetter_0 : decode c_M_toLetter 0 = .ok (.iload_n 0, 1) := by decide +kernel
theorem d_M_toLetter_1 : decode c_M_toLetter 1 = .ok (.bipush 26, 2) := by decide +kernel
theorem d_M_toLetter_3 : decode c_M_toLetter 3 = .ok (.if_icmp .ge 8, 3) := by decide +kernel
theorem d_M_toLetter_6 : decode c_M_toLetter 6 = .ok (.bipush 65, 2) := by decide +kernel
theorem d_M_toLetter_8 : decode c_M_toLetter 8 = .ok (.iload_n 0, 1) := by decide +kernel
theorem d_M_toLetter_9 : decode c_M_toLetter 9 = .ok (.iadd, 1) := by decide +kernel
theorem d_M_toLetter_10 : decode c_M_toLetter 10 = .ok (.ireturn, 1) := by decide +kernel
theorem d_M_toLetter_11 : decode c_M_toLetter 11 = .ok (.iload_n 0, 1) := by decide +kernel
theorem d_M_toLetter_12 : decode c_M_toLetter 12 = .ok (.bipush 52, 2) := by decide +kernel
theorem d_M_toLetter_14 : decode c_M_toLetter 14 = .ok (.if_icmp .ge 8, 3) := by decide +kernel
theorem d_M_toLetter_17 : decode c_M_toLetter 17 = .ok (.bipush 71, 2) := by decide +kernel
theorem d_M_toLetter_19 : decode c_M_toLetter 19 = .ok (.iload_n 0, 1) := by decide +kernel
theorem d_M_toLetter_20 : decode c_M_toLetter 20 = .ok (.iadd, 1) := by decide +kernel
theorem d_M_toLetter_21 : decode c_M_toLetter 21 = .ok (.ireturn, 1) := by decide +kernel
theorem d_M_toLetter_22 : decode c_M_toLetter 22 = .ok (.iload_n 0, 1) := by decide +kernel
theorem d_M_toLetter_23 : decode c_M_toLetter 23 = .ok (.bipush 62, 2) := by decide +kernel
theorem d_M_toLetter_25 : decode c_M_toLetter 25 = .ok (.if_icmp .ge 9, 3) := by decide +kernel
theorem d_M_toLetter_28 : decode c_M_toLetter 28 = .ok (.iload_n 0, 1) := by decide +kernel
theorem d_M_toLetter_29 : decode c_M_toLetter 29 = .ok (.iconst 4, 1) := by decide +kernel
theorem d_M_toLetter_30 : decode c_M_toLetter 30 = .ok (.isub, 1) := by decide +kernel
theorem d_M_toLetter_31 : decode c_M_toLetter 31 = .ok (.goto 16, 3) := by decide +kernel
theorem d_M_toLetter_34 : decode c_M_toLetter 34 = .ok (.iload_n 0, 1) := by decide +kernel
theorem d_M_toLetter_35 : decode c_M_toLetter 35 = .ok (.bipush 62, 2) := by decide +kernel
theorem d_M_toLetter_37 : decode c_M_toLetter 37 = .ok (.if_icmp .ne 8, 3) := by decide +kernel
theorem d_M_toLetter_40 : decode c_M_toLetter 40 = .ok (.bipush 43, 2) := by decide +kernel
theorem d_M_toLetter_42 : decode c_M_toLetter 42 = .ok (.goto 5, 3) := by decide +kernel
theorem d_M_toLetter_45 : decode c_M_toLetter 45 = .ok (.bipush 47, 2) := by decide +kernel
theorem d_M_toLetter_47 : decode c_M_toLetter 47 = .ok (.ireturn, 1) := by decide +kernel
theorem d_M_putQuoted_0 : decode c_M_putQuoted 0 = .ok (.aload_n 0, 1) := by decide +kernel
theorem d_M_putQuoted_1 : decode c_M_putQuoted 1 = .ok (.iconst 0, 1) := by decide +kernel
theorem d_M_putQuoted_2 : decode c_M_putQuoted 2 = .ok (.putfield 241, 3) := by decide +kernel
theorem d_M_putQuoted_5 : decode c_M_putQuoted 5 = .ok (.iconst 0, 1) := by decide +kernel
theorem d_M_putQuoted_6 : decode c_M_putQuoted 6 = .ok (.istore_n 3, 1) := by decide +kernel
theorem d_M_putQuoted_7 : decode c_M_putQuoted 7 = .ok (.iload_n 3, 1) := by decide +kernel
theorem d_M_putQuoted_8 : decode c_M_putQuoted 8 = .ok (.iload_n 2, 1) := by decide +kernel
theorem d_M_putQuoted_9 : decode c_M_putQuoted 9 = .ok (.if_icmp .ge 169, 3) := by decide +kernel
theorem d_M_putQuoted_12 : decode c_M_putQuoted 12 = .ok (.aload_n 0, 1) := by decide +kernel
theorem d_M_putQuoted_13 : decode c_M_putQuoted 13 = .ok (.getfield 22, 3) := by decide +kernel
theorem d_M_putQuoted_16 : decode c_M_putQuoted 16 = .ok (.iload_n 1, 1) := by decide +kernel
theorem d_M_putQuoted_17 : decode c_M_putQuoted 17 = .ok (.iload_n 3, 1) := by decide +kernel
theorem d_M_putQuoted_18 : decode c_M_putQuoted 18 = .ok (.iadd, 1) := by decide +kernel
theorem d_M_putQuoted_19 : decode c_M_putQuoted 19 = .ok (.iaload, 1) := by decide +kernel
theorem d_M_putQuoted_20 : decode c_M_putQuoted 20 = .ok (.istore 4, 2) := by decide +kernel
theorem d_M_putQuoted_22 : decode c_M_putQuoted 22 = .ok (.iload 4, 2) := by decide +kernel
theorem d_M_putQuoted_24 : decode c_M_putQuoted 24 = .ok (.bipush 13, 2) := by decide +kernel
theorem d_M_putQuoted_26 : decode c_M_putQuoted 26 = .ok (.if_icmp .ne 35, 3) := by decide +kernel
theorem d_M_putQuoted_29 : decode c_M_putQuoted 29 = .ok (.iload_n 3, 1) := by decide +kernel
theorem d_M_putQuoted_30 : decode c_M_putQuoted 30 = .ok (.iconst 1, 1) := by decide +kernel
theorem d_M_putQuoted_31 : decode c_M_putQuoted 31 = .ok (.iadd, 1) := by decide +kernel
theorem d_M_putQuoted_32 : decode c_M_putQuoted 32 = .ok (.iload_n 2, 1) := by decide +kernel
theorem d_M_putQuoted_33 : decode c_M_putQuoted 33 = .ok (.if_icmp .ge 28, 3) := by decide +kernel
theorem d_M_putQuoted_36 : decode c_M_putQuoted 36 = .ok (.aload_n 0, 1) := by decide +kernel
theorem d_M_putQuoted_37 : decode c_M_putQuoted 37 = .ok (.getfield 22, 3) := by decide +kernel
theorem d_M_putQuoted_40 : decode c_M_putQuoted 40 = .ok (.iload_n 1, 1) := by decide +kernel
theorem d_M_putQuoted_41 : decode c_M_putQuoted 41 = .ok (.iload_n 3, 1) := by decide +kernel
theorem d_M_putQuoted_42 : decode c_M_putQuoted 42 = .ok (.iadd, 1) := by decide +kernel
theorem d_M_putQuoted_43 : decode c_M_putQuoted 43 = .ok (.iconst 1, 1) := by decide +kernel
theorem d_M_putQuoted_44 : decode c_M_putQuoted 44 = .ok (.iadd, 1) := by decide +kernel
theorem d_M_putQuoted_45 : decode c_M_putQuoted 45 = .ok (.iaload, 1) := by decide +kernel
theorem d_M_putQuoted_46 : decode c_M_putQuoted 46 = .ok (.bipush 10, 2) := by decide +kernel
theorem d_M_putQuoted_48 : decode c_M_putQuoted 48 = .ok (.if_icmp .ne 13, 3) := by decide +kernel
theorem d_M_putQuoted_51 : decode c_M_putQuoted 51 = .ok (.aload_n 0, 1) := by decide +kernel
theorem d_M_putQuoted_52 : decode c_M_putQuoted 52 = .ok (.invokevirtual 247, 3) := by decide +kernel
theorem d_M_putQuoted_55 : decode c_M_putQuoted 55 = .ok (.iinc 3 1, 3) := by decide +kernel
theorem d_M_putQuoted_58 : decode c_M_putQuoted 58 = .ok (.goto 114, 3) := by decide +kernel
theorem d_M_putQuoted_61 : decode c_M_putQuoted 61 = .ok (.aload_n 0, 1) := by decide +kernel
theorem d_M_putQuoted_62 : decode c_M_putQuoted 62 = .ok (.getfield 241, 3) := by decide +kernel
theorem d_M_putQuoted_65 : decode c_M_putQuoted 65 = .ok (.aload_n 0, 1) := by decide +kernel
theorem d_M_putQuoted_66 : decode c_M_putQuoted 66 = .ok (.iload_n 1, 1) := by decide +kernel
theorem d_M_putQuoted_67 : decode c_M_putQuoted 67 = .ok (.iload_n 3, 1) := by decide +kernel
theorem d_M_putQuoted_68 : decode c_M_putQuoted 68 = .ok (.iload_n 2, 1) := by decide +kernel
theorem d_M_putQuoted_69 : decode c_M_putQuoted 69 = .ok (.aload_n 0, 1) := by decide +kernel
theorem d_M_putQuoted_70 : decode c_M_putQuoted 70 = .ok (.getfield 241, 3) := by decide +kernel
theorem d_M_putQuoted_73 : decode c_M_putQuoted 73 = .ok (.invokevirtual 250, 3) := by decide +kernel
theorem d_M_putQuoted_76 : decode c_M_putQuoted 76 = .ok (.ifCond .eq 7, 3) := by decide +kernel
theorem d_M_putQuoted_79 : decode c_M_putQuoted 79 = .ok (.iconst 1, 1) := by decide +kernel
theorem d_M_putQuoted_80 : decode c_M_putQuoted 80 = .ok (.goto 4, 3) := by decide +kernel
theorem d_M_putQuoted_83 : decode c_M_putQuoted 83 = .ok (.iconst 3, 1) := by decide +kernel
theorem d_M_putQuoted_84 : decode c_M_putQuoted 84 = .ok (.iadd, 1) := by decide +kernel
theorem d_M_putQuoted_85 : decode c_M_putQuoted 85 = .ok (.bipush 30, 2) := by decide +kernel
theorem d_M_putQuoted_87 : decode c_M_putQuoted 87 = .ok (.if_icmp .le 13, 3) := by decide +kernel
theorem d_M_putQuoted_90 : decode c_M_putQuoted 90 = .ok (.aload_n 0, 1) := by decide +kernel
theorem d_M_putQuoted_91 : decode c_M_putQuoted 91 = .ok (.bipush 61, 2) := by decide +kernel
theorem d_M_putQuoted_93 : decode c_M_putQuoted 93 = .ok (.invokevirtual 238, 3) := by decide +kernel
theorem d_M_putQuoted_96 : decode c_M_putQuoted 96 = .ok (.aload_n 0, 1) := by decide +kernel
theorem d_M_putQuoted_97 : decode c_M_putQuoted 97 = .ok (.invokevirtual 247, 3) := by decide +kernel
theorem d_M_putQuoted_100 : decode c_M_putQuoted 100 = .ok (.aload_n 0, 1) := by decide +kernel
theorem d_M_putQuoted_101 : decode c_M_putQuoted 101 = .ok (.iload_n 1, 1) := by decide +kernel
theorem d_M_putQuoted_102 : decode c_M_putQuoted 102 = .ok (.iload_n 3, 1) := by decide +kernel
theorem d_M_putQuoted_103 : decode c_M_putQuoted 103 = .ok (.iload_n 2, 1) := by decide +kernel
theorem d_M_putQuoted_104 : decode c_M_putQuoted 104 = .ok (.aload_n 0, 1) := by decide +kernel
theorem d_M_putQuoted_105 : decode c_M_putQuoted 105 = .ok (.getfield 241, 3) := by decide +kernel
theorem d_M_putQuoted_108 : decode c_M_putQuoted 108 = .ok (.invokevirtual 250, 3) := by decide +kernel
theorem d_M_putQuoted_111 : decode c_M_putQuoted 111 = .ok (.ifCond .eq 22, 3) := by decide +kernel
theorem d_M_putQuoted_114 : decode c_M_putQuoted 114 = .ok (.aload_n 0, 1) := by decide +kernel
theorem d_M_putQuoted_115 : decode c_M_putQuoted 115 = .ok (.iload 4, 2) := by decide +kernel
theorem d_M_putQuoted_117 : decode c_M_putQuoted 117 = .ok (.invokevirtual 238, 3) := by decide +kernel
theorem d_M_putQuoted_120 : decode c_M_putQuoted 120 = .ok (.aload_n 0, 1) := by decide +kernel
theorem d_M_putQuoted_121 : decode c_M_putQuoted 121 = .ok (.dup, 1) := by decide +kernel
theorem d_M_putQuoted_122 : decode c_M_putQuoted 122 = .ok (.getfield 241, 3) := by decide +kernel
theorem d_M_putQuoted_125 : decode c_M_putQuoted 125 = .ok (.iconst 1, 1) := by decide +kernel
theorem d_M_putQuoted_126 : decode c_M_putQuoted 126 = .ok (.iadd, 1) := by decide +kernel
theorem d_M_putQuoted_127 : decode c_M_putQuoted 127 = .ok (.putfield 241, 3) := by decide +kernel
theorem d_M_putQuoted_130 : decode c_M_putQuoted 130 = .ok (.goto 42, 3) := by decide +kernel
theorem d_M_putQuoted_133 : decode c_M_putQuoted 133 = .ok (.aload_n 0, 1) := by decide +kernel
theorem d_M_putQuoted_134 : decode c_M_putQuoted 134 = .ok (.bipush 61, 2) := by decide +kernel
theorem d_M_putQuoted_136 : decode c_M_putQuoted 136 = .ok (.invokevirtual 238, 3) := by decide +kernel
theorem d_M_putQuoted_139 : decode c_M_putQuoted 139 = .ok (.aload_n 0, 1) := by decide +kernel
theorem d_M_putQuoted_140 : decode c_M_putQuoted 140 = .ok (.iload 4, 2) := by decide +kernel
theorem d_M_putQuoted_142 : decode c_M_putQuoted 142 = .ok (.iconst 4, 1) := by decide +kernel
theorem d_M_putQuoted_143 : decode c_M_putQuoted 143 = .ok (.ishr, 1) := by decide +kernel
theorem d_M_putQuoted_144 : decode c_M_putQuoted 144 = .ok (.invokestatic 254, 3) := by decide +kernel
theorem d_M_putQuoted_147 : decode c_M_putQuoted 147 = .ok (.invokevirtual 238, 3) := by decide +kernel
theorem d_M_putQuoted_150 : decode c_M_putQuoted 150 = .ok (.aload_n 0, 1) := by decide +kernel
theorem d_M_putQuoted_151 : decode c_M_putQuoted 151 = .ok (.iload 4, 2) := by decide +kernel
theorem d_M_putQuoted_153 : decode c_M_putQuoted 153 = .ok (.bipush 15, 2) := by decide +kernel
theorem d_M_putQuoted_155 : decode c_M_putQuoted 155 = .ok (.iand, 1) := by decide +kernel
theorem d_M_putQuoted_156 : decode c_M_putQuoted 156 = .ok (.invokestatic 254, 3) := by decide +kernel
theorem d_M_putQuoted_159 : decode c_M_putQuoted 159 = .ok (.invokevirtual 238, 3) := by decide +kernel
theorem d_M_putQuoted_162 : decode c_M_putQuoted 162 = .ok (.aload_n 0, 1) := by decide +kernel
theorem d_M_putQuoted_163 : decode c_M_putQuoted 163 = .ok (.dup, 1) := by decide +kernel
theorem d_M_putQuoted_164 : decode c_M_putQuoted 164 = .ok (.getfield 241, 3) := by decide +kernel
theorem d_M_putQuoted_167 : decode c_M_putQuoted 167 = .ok (.iconst 3, 1) := by decide +kernel
theorem d_M_putQuoted_168 : decode c_M_putQuoted 168 = .ok (.iadd, 1) := by decide +kernel
theorem d_M_putQuoted_169 : decode c_M_putQuoted 169 = .ok (.putfield 241, 3) := by decide +kernel
theorem d_M_putQuoted_172 : decode c_M_putQuoted 172 = .ok (.iinc 3 1, 3) := by decide +kernel
theorem d_M_putQuoted_175 : decode c_M_putQuoted 175 = .ok (.goto (-168), 3) := by decide +kernel
theorem d_M_putQuoted_178 : decode c_M_putQuoted 178 = .ok (.return_, 1) := by decide +kernel
theorem d_M_plain_0 : decode c_M_plain 0 = .ok (.aload_n 0, 1) := by decide +kernel
theorem d_M_plain_1 : decode c_M_plain 1 = .ok (.getfield 22, 3) := by decide +kernel
theorem d_M_plain_4 : decode c_M_plain 4 = .ok (.iload_n 1, 1) := by decide +kernel
theorem d_M_plain_5 : decode c_M_plain 5 = .ok (.iload_n 2, 1) := by decide +kernel
theorem d_M_plain_6 : decode c_M_plain 6 = .ok (.iadd, 1) := by decide +kernel
theorem d_M_plain_7 : decode c_M_plain 7 = .ok (.iaload, 1) := by decide +kernel
theorem d_M_plain_8 : decode c_M_plain 8 = .ok (.istore 5, 2) := by decide +kernel
theorem d_M_plain_10 : decode c_M_plain 10 = .ok (.iload 5, 2) := by decide +kernel
theorem d_M_plain_12 : decode c_M_plain 12 = .ok (.invokestatic 62, 3) := by decide +kernel
theorem d_M_plain_15 : decode c_M_plain 15 = .ok (.ifCond .eq 53, 3) := by decide +kernel
theorem d_M_plain_18 : decode c_M_plain 18 = .ok (.iload_n 2, 1) := by decide +kernel
theorem d_M_plain_19 : decode c_M_plain 19 = .ok (.iconst 1, 1) := by decide +kernel
theorem d_M_plain_20 : decode c_M_plain 20 = .ok (.iadd, 1) := by decide +kernel
theorem d_M_plain_21 : decode c_M_plain 21 = .ok (.iload_n 3, 1) := by decide +kernel
theorem d_M_plain_22 : decode c_M_plain 22 = .ok (.if_icmp .ge 44, 3) := by decide +kernel
theorem d_M_plain_25 : decode c_M_plain 25 = .ok (.iload_n 2, 1) := by decide +kernel
theorem d_M_plain_26 : decode c_M_plain 26 = .ok (.iconst 2, 1) := by decide +kernel
theorem d_M_plain_27 : decode c_M_plain 27 = .ok (.iadd, 1) := by decide +kernel
theorem d_M_plain_28 : decode c_M_plain 28 = .ok (.iload_n 3, 1) := by decide +kernel
theorem d_M_plain_29 : decode c_M_plain 29 = .ok (.if_icmp .ge 33, 3) := by decide +kernel
theorem d_M_plain_32 : decode c_M_plain 32 = .ok (.aload_n 0, 1) := by decide +kernel
theorem d_M_plain_33 : decode c_M_plain 33 = .ok (.getfield 22, 3) := by decide +kernel
theorem d_M_plain_36 : decode c_M_plain 36 = .ok (.iload_n 1, 1) := by decide +kernel
theorem d_M_plain_37 : decode c_M_plain 37 = .ok (.iload_n 2, 1) := by decide +kernel
theorem d_M_plain_38 : decode c_M_plain 38 = .ok (.iadd, 1) := by decide +kernel
theorem d_M_plain_39 : decode c_M_plain 39 = .ok (.iconst 1, 1) := by decide +kernel
theorem d_M_plain_40 : decode c_M_plain 40 = .ok (.iadd, 1) := by decide +kernel
theorem d_M_plain_41 : decode c_M_plain 41 = .ok (.iaload, 1) := by decide +kernel
theorem d_M_plain_42 : decode c_M_plain 42 = .ok (.bipush 13, 2) := by decide +kernel
theorem d_M_plain_44 : decode c_M_plain 44 = .ok (.if_icmp .ne 18, 3) := by decide +kernel
theorem d_M_plain_47 : decode c_M_plain 47 = .ok (.aload_n 0, 1) := by decide +kernel
theorem d_M_plain_48 : decode c_M_plain 48 = .ok (.getfield 22, 3) := by decide +kernel
theorem d_M_plain_51 : decode c_M_plain 51 = .ok (.iload_n 1, 1) := by decide +kernel
theorem d_M_plain_52 : decode c_M_plain 52 = .ok (.iload_n 2, 1) := by decide +kernel
theorem d_M_plain_53 : decode c_M_plain 53 = .ok (.iadd, 1) := by decide +kernel
theorem d_M_plain_54 : decode c_M_plain 54 = .ok (.iconst 2, 1) := by decide +kernel
theorem d_M_plain_55 : decode c_M_plain 55 = .ok (.iadd, 1) := by decide +kernel
theorem d_M_plain_56 : decode c_M_plain 56 = .ok (.iaload, 1) := by decide +kernel
theorem d_M_plain_57 : decode c_M_plain 57 = .ok (.bipush 10, 2) := by decide +kernel
theorem d_M_plain_59 : decode c_M_plain 59 = .ok (.if_icmp .eq 7, 3) := by decide +kernel
theorem d_M_plain_62 : decode c_M_plain 62 = .ok (.iconst 1, 1) := by decide +kernel
theorem d_M_plain_63 : decode c_M_plain 63 = .ok (.goto 4, 3) := by decide +kernel
theorem d_M_plain_66 : decode c_M_plain 66 = .ok (.iconst 0, 1) := by decide +kernel
theorem d_M_plain_67 : decode c_M_plain 67 = .ok (.ireturn, 1) := by decide +kernel
theorem d_M_plain_68 : decode c_M_plain 68 = .ok (.iload 5, 2) := by decide +kernel
theorem d_M_plain_70 : decode c_M_plain 70 = .ok (.bipush 32, 2) := by decide +kernel
theorem d_M_plain_72 : decode c_M_plain 72 = .ok (.if_icmp .le 33, 3) := by decide +kernel
theorem d_M_plain_75 : decode c_M_plain 75 = .ok (.iload 5, 2) := by decide +kernel
theorem d_M_plain_77 : decode c_M_plain 77 = .ok (.bipush 127, 2) := by decide +kernel
theorem d_M_plain_79 : decode c_M_plain 79 = .ok (.if_icmp .ge 26, 3) := by decide +kernel
theorem d_M_plain_82 : decode c_M_plain 82 = .ok (.iload 5, 2) := by decide +kernel
theorem d_M_plain_84 : decode c_M_plain 84 = .ok (.bipush 61, 2) := by decide +kernel
theorem d_M_plain_86 : decode c_M_plain 86 = .ok (.if_icmp .eq 19, 3) := by decide +kernel
theorem d_M_plain_89 : decode c_M_plain 89 = .ok (.iload 5, 2) := by decide +kernel
theorem d_M_plain_91 : decode c_M_plain 91 = .ok (.bipush 45, 2) := by decide +kernel
theorem d_M_plain_93 : decode c_M_plain 93 = .ok (.if_icmp .ne 8, 3) := by decide +kernel
theorem d_M_plain_96 : decode c_M_plain 96 = .ok (.iload 4, 2) := by decide +kernel
theorem d_M_plain_98 : decode c_M_plain 98 = .ok (.ifCond .eq 7, 3) := by decide +kernel
theorem d_M_plain_101 : decode c_M_plain 101 = .ok (.iconst 1, 1) := by decide +kernel
theorem d_M_plain_102 : decode c_M_plain 102 = .ok (.goto 4, 3) := by decide +kernel
theorem d_M_plain_105 : decode c_M_plain 105 = .ok (.iconst 0, 1) := by decide +kernel
theorem d_M_plain_106 : decode c_M_plain 106 = .ok (.ireturn, 1) := by decide +kernel
theorem d_M_digit_0 : decode c_M_digit 0 = .ok (.iload_n 0, 1) := by decide +kernel
theorem d_M_digit_1 : decode c_M_digit 1 = .ok (.bipush 10, 2) := by decide +kernel
theorem d_M_digit_3 : decode c_M_digit 3 = .ok (.if_icmp .ge 10, 3) := by decide +kernel
theorem d_M_digit_6 : decode c_M_digit 6 = .ok (.bipush 48, 2) := by decide +kernel
theorem d_M_digit_8 : decode c_M_digit 8 = .ok (.iload_n 0, 1) := by decide +kernel
theorem d_M_digit_9 : decode c_M_digit 9 = .ok (.iadd, 1) := by decide +kernel
theorem d_M_digit_10 : decode c_M_digit 10 = .ok (.goto 7, 3) := by decide +kernel
theorem d_M_digit_13 : decode c_M_digit 13 = .ok (.bipush 55, 2) := by decide +kernel
theorem d_M_digit_15 : decode c_M_digit 15 = .ok (.iload_n 0, 1) := by decide +kernel
theorem d_M_digit_16 : decode c_M_digit 16 = .ok (.iadd, 1) := by decide +kernel
theorem d_M_digit_17 : decode c_M_digit 17 = .ok (.ireturn, 1) := by decide +kernel
theorem d_M_goesOn_0 : decode c_M_goesOn 0 = .ok (.aload_n 0, 1) := by decide +kernel
theorem d_M_goesOn_1 : decode c_M_goesOn 1 = .ok (.getfield 37, 3) := by decide +kernel
theorem d_M_goesOn_4 : decode c_M_goesOn 4 = .ok (.aload_n 0, 1) := by decide +kernel
theorem d_M_goesOn_5 : decode c_M_goesOn 5 = .ok (.getfield 269, 3) := by decide +kernel
theorem d_M_goesOn_8 : decode c_M_goesOn 8 = .ok (.iconst 1, 1) := by decide +kernel
theorem d_M_goesOn_9 : decode c_M_goesOn 9 = .ok (.isub, 1) := by decide +kernel
theorem d_M_goesOn_10 : decode c_M_goesOn 10 = .ok (.iaload, 1) := by decide +kernel
theorem d_M_goesOn_11 : decode c_M_goesOn 11 = .ok (.istore_n 1, 1) := by decide +kernel
theorem d_M_goesOn_12 : decode c_M_goesOn 12 = .ok (.aload_n 0, 1) := by decide +kernel
theorem d_M_goesOn_13 : decode c_M_goesOn 13 = .ok (.iload_n 1, 1) := by decide +kernel
theorem d_M_goesOn_14 : decode c_M_goesOn 14 = .ok (.aload_n 0, 1) := by decide +kernel
theorem d_M_goesOn_15 : decode c_M_goesOn 15 = .ok (.getfield 40, 3) := by decide +kernel
theorem d_M_goesOn_18 : decode c_M_goesOn 18 = .ok (.aload_n 0, 1) := by decide +kernel
theorem d_M_goesOn_19 : decode c_M_goesOn 19 = .ok (.getfield 269, 3) := by decide +kernel
theorem d_M_goesOn_22 : decode c_M_goesOn 22 = .ok (.iconst 1, 1) := by decide +kernel
theorem d_M_goesOn_23 : decode c_M_goesOn 23 = .ok (.isub, 1) := by decide +kernel
theorem d_M_goesOn_24 : decode c_M_goesOn 24 = .ok (.iaload, 1) := by decide +kernel
theorem d_M_goesOn_25 : decode c_M_goesOn 25 = .ok (.invokevirtual 272, 3) := by decide +kernel
theorem d_M_goesOn_28 : decode c_M_goesOn 28 = .ok (.istore_n 2, 1) := by decide +kernel
theorem d_M_goesOn_29 : decode c_M_goesOn 29 = .ok (.aload_n 0, 1) := by decide +kernel
theorem d_M_goesOn_30 : decode c_M_goesOn 30 = .ok (.iload_n 1, 1) := by decide +kernel
theorem d_M_goesOn_31 : decode c_M_goesOn 31 = .ok (.iconst 0, 1) := by decide +kernel
theorem d_M_goesOn_32 : decode c_M_goesOn 32 = .ok (.invokevirtual 59, 3) := by decide +kernel
theorem d_M_goesOn_35 : decode c_M_goesOn 35 = .ok (.iconst 1, 1) := by decide +kernel
theorem d_M_goesOn_36 : decode c_M_goesOn 36 = .ok (.if_icmp .ne 7, 3) := by decide +kernel
theorem d_M_goesOn_39 : decode c_M_goesOn 39 = .ok (.iconst 1, 1) := by decide +kernel
theorem d_M_goesOn_40 : decode c_M_goesOn 40 = .ok (.goto 4, 3) := by decide +kernel
theorem d_M_goesOn_43 : decode c_M_goesOn 43 = .ok (.iconst 0, 1) := by decide +kernel
theorem d_M_goesOn_44 : decode c_M_goesOn 44 = .ok (.istore_n 3, 1) := by decide +kernel
theorem d_M_goesOn_45 : decode c_M_goesOn 45 = .ok (.iload_n 2, 1) := by decide +kernel
theorem d_M_goesOn_46 : decode c_M_goesOn 46 = .ok (.ifCond .lt 33, 3) := by decide +kernel
theorem d_M_goesOn_49 : decode c_M_goesOn 49 = .ok (.aload_n 0, 1) := by decide +kernel
theorem d_M_goesOn_50 : decode c_M_goesOn 50 = .ok (.getfield 40, 3) := by decide +kernel
theorem d_M_goesOn_53 : decode c_M_goesOn 53 = .ok (.aload_n 0, 1) := by decide +kernel
theorem d_M_goesOn_54 : decode c_M_goesOn 54 = .ok (.getfield 269, 3) := by decide +kernel
theorem d_M_goesOn_57 : decode c_M_goesOn 57 = .ok (.iconst 1, 1) := by decide +kernel
theorem d_M_goesOn_58 : decode c_M_goesOn 58 = .ok (.isub, 1) := by decide +kernel
theorem d_M_goesOn_59 : decode c_M_goesOn 59 = .ok (.iload_n 2, 1) := by decide +kernel
theorem d_M_goesOn_60 : decode c_M_goesOn 60 = .ok (.iconst 1, 1) := by decide +kernel
theorem d_M_goesOn_61 : decode c_M_goesOn 61 = .ok (.iadd, 1) := by decide +kernel
theorem d_M_goesOn_62 : decode c_M_goesOn 62 = .ok (.iastore, 1) := by decide +kernel
theorem d_M_goesOn_63 : decode c_M_goesOn 63 = .ok (.iload_n 3, 1) := by decide +kernel
theorem d_M_goesOn_64 : decode c_M_goesOn 64 = .ok (.ifCond .eq 9, 3) := by decide +kernel
theorem d_M_goesOn_67 : decode c_M_goesOn 67 = .ok (.aload_n 0, 1) := by decide +kernel
theorem d_M_goesOn_68 : decode c_M_goesOn 68 = .ok (.iload_n 1, 1) := by decide +kernel
theorem d_M_goesOn_69 : decode c_M_goesOn 69 = .ok (.iconst 0, 1) := by decide +kernel
theorem d_M_goesOn_70 : decode c_M_goesOn 70 = .ok (.invokevirtual 275, 3) := by decide +kernel
theorem d_M_goesOn_73 : decode c_M_goesOn 73 = .ok (.aload_n 0, 1) := by decide +kernel
theorem d_M_goesOn_74 : decode c_M_goesOn 74 = .ok (.iload_n 2, 1) := by decide +kernel
theorem d_M_goesOn_75 : decode c_M_goesOn 75 = .ok (.invokevirtual 279, 3) := by decide +kernel
theorem d_M_goesOn_78 : decode c_M_goesOn 78 = .ok (.return_, 1) := by decide +kernel
theorem d_M_goesOn_79 : decode c_M_goesOn 79 = .ok (.iload_n 3, 1) := by decide +kernel
theorem d_M_goesOn_80 : decode c_M_goesOn 80 = .ok (.ifCond .eq 9, 3) := by decide +kernel
theorem d_M_goesOn_83 : decode c_M_goesOn 83 = .ok (.aload_n 0, 1) := by decide +kernel
theorem d_M_goesOn_84 : decode c_M_goesOn 84 = .ok (.iload_n 1, 1) := by decide +kernel
theorem d_M_goesOn_85 : decode c_M_goesOn 85 = .ok (.iconst 1, 1) := by decide +kernel
theorem d_M_goesOn_86 : decode c_M_goesOn 86 = .ok (.invokevirtual 275, 3) := by decide +kernel
theorem d_M_goesOn_89 : decode c_M_goesOn 89 = .ok (.aload_n 0, 1) := by decide +kernel
theorem d_M_goesOn_90 : decode c_M_goesOn 90 = .ok (.dup, 1) := by decide +kernel
theorem d_M_goesOn_91 : decode c_M_goesOn 91 = .ok (.getfield 269, 3) := by decide +kernel
theorem d_M_goesOn_94 : decode c_M_goesOn 94 = .ok (.iconst 1, 1) := by decide +kernel
theorem d_M_goesOn_95 : decode c_M_goesOn 95 = .ok (.isub, 1) := by decide +kernel
theorem d_M_goesOn_96 : decode c_M_goesOn 96 = .ok (.putfield 269, 3) := by decide +kernel
theorem d_M_goesOn_99 : decode c_M_goesOn 99 = .ok (.aload_n 0, 1) := by decide +kernel
theorem d_M_goesOn_100 : decode c_M_goesOn 100 = .ok (.getfield 269, 3) := by decide +kernel
theorem d_M_goesOn_103 : decode c_M_goesOn 103 = .ok (.ifCond .le 27, 3) := by decide +kernel
theorem d_M_goesOn_106 : decode c_M_goesOn 106 = .ok (.aload_n 0, 1) := by decide +kernel
theorem d_M_goesOn_107 : decode c_M_goesOn 107 = .ok (.aload_n 0, 1) := by decide +kernel
theorem d_M_goesOn_108 : decode c_M_goesOn 108 = .ok (.getfield 37, 3) := by decide +kernel
theorem d_M_goesOn_111 : decode c_M_goesOn 111 = .ok (.aload_n 0, 1) := by decide +kernel
theorem d_M_goesOn_112 : decode c_M_goesOn 112 = .ok (.getfield 269, 3) := by decide +kernel
theorem d_M_goesOn_115 : decode c_M_goesOn 115 = .ok (.iconst 1, 1) := by decide +kernel
theorem d_M_goesOn_116 : decode c_M_goesOn 116 = .ok (.isub, 1) := by decide +kernel
theorem d_M_goesOn_117 : decode c_M_goesOn 117 = .ok (.iaload, 1) := by decide +kernel
theorem d_M_goesOn_118 : decode c_M_goesOn 118 = .ok (.iconst 0, 1) := by decide +kernel
theorem d_M_goesOn_119 : decode c_M_goesOn 119 = .ok (.invokevirtual 59, 3) := by decide +kernel
theorem d_M_goesOn_122 : decode c_M_goesOn 122 = .ok (.iconst 1, 1) := by decide +kernel
theorem d_M_goesOn_123 : decode c_M_goesOn 123 = .ok (.if_icmp .ne 7, 3) := by decide +kernel
theorem d_M_goesOn_126 : decode c_M_goesOn 126 = .ok (.aload_n 0, 1) := by decide +kernel
theorem d_M_goesOn_127 : decode c_M_goesOn 127 = .ok (.invokevirtual 247, 3) := by decide +kernel
theorem d_M_goesOn_130 : decode c_M_goesOn 130 = .ok (.return_, 1) := by decide +kernel
theorem d_M_partOf_0 : decode c_M_partOf 0 = .ok (.iload_n 2, 1) := by decide +kernel
theorem d_M_partOf_1 : decode c_M_partOf 1 = .ok (.istore_n 3, 1) := by decide +kernel
theorem d_M_partOf_2 : decode c_M_partOf 2 = .ok (.iload_n 3, 1) := by decide +kernel
theorem d_M_partOf_3 : decode c_M_partOf 3 = .ok (.aload_n 0, 1) := by decide +kernel
theorem d_M_partOf_4 : decode c_M_partOf 4 = .ok (.getfield 196, 3) := by decide +kernel
theorem d_M_partOf_7 : decode c_M_partOf 7 = .ok (.if_icmp .ge 21, 3) := by decide +kernel
theorem d_M_partOf_10 : decode c_M_partOf 10 = .ok (.aload_n 0, 1) := by decide +kernel
theorem d_M_partOf_11 : decode c_M_partOf 11 = .ok (.iload_n 3, 1) := by decide +kernel
theorem d_M_partOf_12 : decode c_M_partOf 12 = .ok (.iconst 2, 1) := by decide +kernel
theorem d_M_partOf_13 : decode c_M_partOf 13 = .ok (.invokevirtual 59, 3) := by decide +kernel
theorem d_M_partOf_16 : decode c_M_partOf 16 = .ok (.iload_n 1, 1) := by decide +kernel
theorem d_M_partOf_17 : decode c_M_partOf 17 = .ok (.if_icmp .ne 5, 3) := by decide +kernel
theorem d_M_partOf_20 : decode c_M_partOf 20 = .ok (.iload_n 3, 1) := by decide +kernel
theorem d_M_partOf_21 : decode c_M_partOf 21 = .ok (.ireturn, 1) := by decide +kernel
theorem d_M_partOf_22 : decode c_M_partOf 22 = .ok (.iinc 3 1, 3) := by decide +kernel
theorem d_M_partOf_25 : decode c_M_partOf 25 = .ok (.goto (-23), 3) := by decide +kernel
theorem d_M_partOf_28 : decode c_M_partOf 28 = .ok (.iconst (-1), 1) := by decide +kernel
theorem d_M_partOf_29 : decode c_M_partOf 29 = .ok (.ireturn, 1) := by decide +kernel
theorem d_M_putDelimiter_0 : decode c_M_putDelimiter 0 = .ok (.aload_n 0, 1) := by decide +kernel
theorem d_M_putDelimiter_1 : decode c_M_putDelimiter 1 = .ok (.bipush 45, 2) := by decide +kernel
theorem d_M_putDelimiter_3 : decode c_M_putDelimiter 3 = .ok (.invokevirtual 238, 3) := by decide +kernel
theorem d_M_putDelimiter_6 : decode c_M_putDelimiter 6 = .ok (.aload_n 0, 1) := by decide +kernel
theorem d_M_putDelimiter_7 : decode c_M_putDelimiter 7 = .ok (.bipush 45, 2) := by decide +kernel
theorem d_M_putDelimiter_9 : decode c_M_putDelimiter 9 = .ok (.invokevirtual 238, 3) := by decide +kernel
theorem d_M_putDelimiter_12 : decode c_M_putDelimiter 12 = .ok (.aload_n 0, 1) := by decide +kernel
theorem d_M_putDelimiter_13 : decode c_M_putDelimiter 13 = .ok (.aload_n 0, 1) := by decide +kernel
theorem d_M_putDelimiter_14 : decode c_M_putDelimiter 14 = .ok (.iload_n 1, 1) := by decide +kernel
theorem d_M_putDelimiter_15 : decode c_M_putDelimiter 15 = .ok (.bipush 11, 2) := by decide +kernel
theorem d_M_putDelimiter_17 : decode c_M_putDelimiter 17 = .ok (.invokevirtual 59, 3) := by decide +kernel
theorem d_M_putDelimiter_20 : decode c_M_putDelimiter 20 = .ok (.aload_n 0, 1) := by decide +kernel
theorem d_M_putDelimiter_21 : decode c_M_putDelimiter 21 = .ok (.iload_n 1, 1) := by decide +kernel
theorem d_M_putDelimiter_22 : decode c_M_putDelimiter 22 = .ok (.bipush 12, 2) := by decide +kernel
theorem d_M_putDelimiter_24 : decode c_M_putDelimiter 24 = .ok (.invokevirtual 59, 3) := by decide +kernel
theorem d_M_putDelimiter_27 : decode c_M_putDelimiter 27 = .ok (.invokevirtual 257, 3) := by decide +kernel
theorem d_M_putDelimiter_30 : decode c_M_putDelimiter 30 = .ok (.iload_n 2, 1) := by decide +kernel
theorem d_M_putDelimiter_31 : decode c_M_putDelimiter 31 = .ok (.ifCond .eq 15, 3) := by decide +kernel
theorem d_M_putDelimiter_34 : decode c_M_putDelimiter 34 = .ok (.aload_n 0, 1) := by decide +kernel
theorem d_M_putDelimiter_35 : decode c_M_putDelimiter 35 = .ok (.bipush 45, 2) := by decide +kernel
theorem d_M_putDelimiter_37 : decode c_M_putDelimiter 37 = .ok (.invokevirtual 238, 3) := by decide +kernel
theorem d_M_putDelimiter_40 : decode c_M_putDelimiter 40 = .ok (.aload_n 0, 1) := by decide +kernel
theorem d_M_putDelimiter_41 : decode c_M_putDelimiter 41 = .ok (.bipush 45, 2) := by decide +kernel
theorem d_M_putDelimiter_43 : decode c_M_putDelimiter 43 = .ok (.invokevirtual 238, 3) := by decide +kernel
theorem d_M_putDelimiter_46 : decode c_M_putDelimiter 46 = .ok (.aload_n 0, 1) := by decide +kernel
theorem d_M_putDelimiter_47 : decode c_M_putDelimiter 47 = .ok (.invokevirtual 247, 3) := by decide +kernel
theorem d_M_putDelimiter_50 : decode c_M_putDelimiter 50 = .ok (.return_, 1) := by decide +kernel
theorem d_M_written_0 : decode c_M_written 0 = .ok (.aload_n 0, 1) := by decide +kernel
theorem d_M_written_1 : decode c_M_written 1 = .ok (.iconst 0, 1) := by decide +kernel
theorem d_M_written_2 : decode c_M_written 2 = .ok (.putfield 43, 3) := by decide +kernel
theorem d_M_written_5 : decode c_M_written 5 = .ok (.iload_n 1, 1) := by decide +kernel
theorem d_M_written_6 : decode c_M_written 6 = .ok (.ifCond .lt 11, 3) := by decide +kernel
theorem d_M_written_9 : decode c_M_written 9 = .ok (.iload_n 1, 1) := by decide +kernel
theorem d_M_written_10 : decode c_M_written 10 = .ok (.aload_n 0, 1) := by decide +kernel
theorem d_M_written_11 : decode c_M_written 11 = .ok (.getfield 285, 3) := by decide +kernel
theorem d_M_written_14 : decode c_M_written 14 = .ok (.if_icmp .lt 7, 3) := by decide +kernel
theorem d_M_written_17 : decode c_M_written 17 = .ok (.iconst (-1), 1) := by decide +kernel
theorem d_M_written_18 : decode c_M_written 18 = .ok (.goto 9, 3) := by decide +kernel
theorem d_M_written_21 : decode c_M_written 21 = .ok (.aload_n 0, 1) := by decide +kernel
theorem d_M_written_22 : decode c_M_written 22 = .ok (.getfield 34, 3) := by decide +kernel
theorem d_M_written_25 : decode c_M_written 25 = .ok (.iload_n 1, 1) := by decide +kernel
theorem d_M_written_26 : decode c_M_written 26 = .ok (.iaload, 1) := by decide +kernel
theorem d_M_written_27 : decode c_M_written 27 = .ok (.ireturn, 1) := by decide +kernel
theorem d_M_again_0 : decode c_M_again 0 = .ok (.aload_n 0, 1) := by decide +kernel
theorem d_M_again_1 : decode c_M_again 1 = .ok (.iconst 0, 1) := by decide +kernel
theorem d_M_again_2 : decode c_M_again 2 = .ok (.putfield 43, 3) := by decide +kernel
theorem d_M_again_5 : decode c_M_again 5 = .ok (.aload_n 0, 1) := by decide +kernel
theorem d_M_again_6 : decode c_M_again 6 = .ok (.aload_n 0, 1) := by decide +kernel
theorem d_M_again_7 : decode c_M_again 7 = .ok (.getfield 285, 3) := by decide +kernel
theorem d_M_again_10 : decode c_M_again 10 = .ok (.sipush 320, 3) := by decide +kernel
theorem d_M_again_13 : decode c_M_again 13 = .ok (.if_icmp .ge 10, 3) := by decide +kernel
theorem d_M_again_16 : decode c_M_again 16 = .ok (.aload_n 0, 1) := by decide +kernel
theorem d_M_again_17 : decode c_M_again 17 = .ok (.getfield 285, 3) := by decide +kernel
theorem d_M_again_20 : decode c_M_again 20 = .ok (.goto 6, 3) := by decide +kernel
theorem d_M_again_23 : decode c_M_again 23 = .ok (.sipush 320, 3) := by decide +kernel
theorem d_M_again_26 : decode c_M_again 26 = .ok (.putfield 47, 3) := by decide +kernel
theorem d_M_again_29 : decode c_M_again 29 = .ok (.iconst 0, 1) := by decide +kernel
theorem d_M_again_30 : decode c_M_again 30 = .ok (.istore_n 1, 1) := by decide +kernel
theorem d_M_again_31 : decode c_M_again 31 = .ok (.iload_n 1, 1) := by decide +kernel
theorem d_M_again_32 : decode c_M_again 32 = .ok (.aload_n 0, 1) := by decide +kernel
theorem d_M_again_33 : decode c_M_again 33 = .ok (.getfield 47, 3) := by decide +kernel
theorem d_M_again_36 : decode c_M_again 36 = .ok (.if_icmp .ge 21, 3) := by decide +kernel
theorem d_M_again_39 : decode c_M_again 39 = .ok (.aload_n 0, 1) := by decide +kernel
theorem d_M_again_40 : decode c_M_again 40 = .ok (.getfield 7, 3) := by decide +kernel
theorem d_M_again_43 : decode c_M_again 43 = .ok (.iload_n 1, 1) := by decide +kernel
theorem d_M_again_44 : decode c_M_again 44 = .ok (.aload_n 0, 1) := by decide +kernel
theorem d_M_again_45 : decode c_M_again 45 = .ok (.getfield 34, 3) := by decide +kernel
theorem d_M_again_48 : decode c_M_again 48 = .ok (.iload_n 1, 1) := by decide +kernel
theorem d_M_again_49 : decode c_M_again 49 = .ok (.iaload, 1) := by decide +kernel
theorem d_M_again_50 : decode c_M_again 50 = .ok (.iastore, 1) := by decide +kernel
theorem d_M_again_51 : decode c_M_again 51 = .ok (.iinc 1 1, 3) := by decide +kernel
theorem d_M_again_54 : decode c_M_again 54 = .ok (.goto (-23), 3) := by decide +kernel
theorem d_M_again_57 : decode c_M_again 57 = .ok (.aload_n 0, 1) := by decide +kernel
theorem d_M_again_58 : decode c_M_again 58 = .ok (.getfield 47, 3) := by decide +kernel
theorem d_M_again_61 : decode c_M_again 61 = .ok (.ireturn, 1) := by decide +kernel
end
section
/-! The world: cells by their roles. 0 the MailTree; 1..8 its rows of bytes (message, latest, source, values, contents, boundaries, word, draft), 9..16 their arrays; 17 Tree, 18 Scanner, 19 Decoder, 20 Printer; 21 Entity[]; 22..37 entities, 38..53 their Field[], 54..181 fields; 182 the reference, 183..193 its arrays; 194 long[1]. -/
abbrev mt_M : Type := Nat → Int → Int
/-- addresses of the cells; classes and slots; array classes; the literals' addresses -/
abbrev mt_G : Type := (Nat → Nat) × va_G × (Nat → ClassId) × (Nat → Nat) × (Nat → Nat)
def vi (z : Int) : Value := .int (Int32.ofInt z)
def vl (z : Int) : Value := .long (Int64.ofInt z)
def vr (G : mt_G) (r : Nat) : Value := .ref (G.1 r)
/-- a literal -/
def vs (G : mt_G) (i : Nat) : Value := .ref (G.2.2.2.1 i)
def mt_N : Nat := 195
def ln_ (r : Nat) : Nat := if r = 10 then 700 else if r = 16 then 700 else if r ≤ 16 then 320 else if r = 183 then 320 else if r = 184 then 320 else if r = 185 then 256 else if r = 186 then 512 else if r = 187 then 1400 else if r = 188 then 1400 else if r = 189 then 400 else if r = 190 then 1800 else if r = 191 then 700 else if r = 192 then 6 else if r = 193 then 6 else 0
def ce_ (G : mt_G) (f : Int → Int) (r : Nat) : va_E :=
  if r = 0 then .inr (7, [vr G 1, vr G 2, vr G 17, vr G 20]) else
  if r ≤ 8 then .inr (0, [vr G (r + 8), vi (f 1), vi (f 2)]) else
  if r ≤ 16 then .inl (G.2.2.1 0, ln_ r, .inl (fun j => Int32.ofInt (f (j : Int)))) else
  if r = 17 then .inr (6, [vr G 3, vr G 4, vr G 5, vr G 6, vr G 21, vr G 18, vr G 19, vi (f 7)]) else
  if r = 18 then .inr (5, [vr G 4, vr G 7, vi (f 2), vi (f 3), vi (f 4)]) else
  if r = 19 then .inr (1, [vr G 3, vr G 5]) else
  if r = 20 then .inr (4, [vr G 17, vr G 8]) else
  if r = 21 then .inl (G.2.2.1 2, 16, .inr (.inr (.inr (.inr (fun j => some (G.1 (22 + j))))))) else
  if r ≤ 37 then .inr (2, [vi (f 0), vi (f 1), vi (f 2), vi (f 3), vi (f 4), vi (f 5), vi (f 6), vi (f 7), vi (f 8), vi (f 9), vi (f 10), vi (f 11), vi (f 12), vr G (r + 16)]) else
  if r ≤ 53 then .inl (G.2.2.1 3, 8, .inr (.inr (.inr (.inr (fun j => some (G.1 (54 + 8 * (r - 38) + j))))))) else
  if r ≤ 181 then .inr (3, [vi (f 0), vi (f 1), vi (f 2), vi (f 3)]) else
  if r = 182 then .inr (8, [vi (f 0), vi (f 1), vr G 183, vi (f 3), vr G 184, vi (f 5), vr G 185, vr G 186, vr G 187, vi (f 9), vi (f 10), vr G 188, vr G 189, vi (f 13), vi (f 14), vi (f 15), vi (f 16), vi (f 17), vr G 190, vi (f 19), vi (f 20), vr G 191, vi (f 22), vr G 192, vr G 193]) else
  if r ≤ 193 then .inl (G.2.2.1 0, ln_ r, .inl (fun j => Int32.ofInt (f (j : Int)))) else
  .inl (G.2.2.1 1, 1, .inr (.inl (fun j => Int64.ofInt (f (j : Int)))))
def ty_ (G : mt_G) : List (ClassId × FieldType) := [(G.2.2.1 0, .int), (G.2.2.1 1, .long), (G.2.2.1 2, .object R_E), (G.2.2.1 3, .object R_F)]
theorem ce_B {G : mt_G} {f : Int → Int} {r : Nat} (h : 1 ≤ r ∧ r ≤ 8) : ce_ G f r = .inr (0, [vr G (r + 8), vi (f 1), vi (f 2)]) := by
  unfold ce_
  rw [if_neg (by omega), if_pos (by omega)]
theorem ce_E {G : mt_G} {f : Int → Int} {r : Nat} (h : 22 ≤ r ∧ r ≤ 37) : ce_ G f r = .inr (2, [vi (f 0), vi (f 1), vi (f 2), vi (f 3), vi (f 4), vi (f 5), vi (f 6), vi (f 7), vi (f 8), vi (f 9), vi (f 10), vi (f 11), vi (f 12), vr G (r + 16)]) := by
  unfold ce_
  rw [if_neg (by omega), if_neg (by omega), if_neg (by omega), if_neg (by omega), if_neg (by omega), if_neg (by omega), if_neg (by omega), if_neg (by omega), if_pos (by omega)]
theorem ce_F {G : mt_G} {f : Int → Int} {r : Nat} (h : 54 ≤ r ∧ r ≤ 181) : ce_ G f r = .inr (3, [vi (f 0), vi (f 1), vi (f 2), vi (f 3)]) := by
  unfold ce_
  rw [if_neg (by omega), if_neg (by omega), if_neg (by omega), if_neg (by omega), if_neg (by omega), if_neg (by omega), if_neg (by omega), if_neg (by omega), if_neg (by omega), if_neg (by omega), if_pos (by omega)]
theorem ce_A {G : mt_G} {f : Int → Int} {r : Nat} (h : 9 ≤ r ∧ r ≤ 16) : ce_ G f r = .inl (G.2.2.1 0, ln_ r, .inl (fun j => Int32.ofInt (f (j : Int)))) := by
  unfold ce_
  rw [if_neg (by omega), if_neg (by omega), if_pos (by omega)]
theorem ce_K {G : mt_G} {f : Int → Int} {r : Nat} (h : 38 ≤ r ∧ r ≤ 53) : ce_ G f r = .inl (G.2.2.1 3, 8, .inr (.inr (.inr (.inr (fun j => some (G.1 (54 + 8 * (r - 38) + j))))))) := by
  unfold ce_
  rw [if_neg (by omega), if_neg (by omega), if_neg (by omega), if_neg (by omega), if_neg (by omega), if_neg (by omega), if_neg (by omega), if_neg (by omega), if_neg (by omega), if_pos (by omega)]
theorem ln_A {r : Nat} (h : 9 ≤ r ∧ r ≤ 16) : ln_ r = if r = 10 ∨ r = 16 then 700 else 320 := by
  unfold ln_
  by_cases h1 : r = 10
  · simp [h1]
  · by_cases h2 : r = 16
    · simp [h2]
    · rw [if_neg h1, if_neg h2, if_pos (by omega), if_neg (by omega)]
/-- the literals: class, entry, text -/
def mt_str : List (String × Nat × String) := [("MailTree$Tree", 175, "content-transfer-encoding"), ("MailTree", 186, "()<>@,;:\\\"/[]?="), ("MailTree$Tree", 195, "base64"), ("MailTree$Tree", 204, "quoted-printable"), ("MailTree$Tree", 206, "content-type"), ("MailTree$Tree", 208, "multipart"), ("MailTree$Tree", 210, "message"), ("MailTree$Tree", 215, "rfc822"), ("MailTree$Scanner", 72, "boundary"), ("MailTree", 196, "ABCDEFGHIJKLMNOPQRSTUVWXYZabcdefghijklmnopqrstuvwxyz0123456789+/"), ("MailTree$Tree", 248, "--"), ("MailTree$Tree", 60, "no such entity"), ("MailTree", 96, "no such thing to look at"), ("MailTree$Entity", 60, "no such field"), ("MailTree", 113, "neither name nor value"), ("MailTree", 183, "no such byte"), ("MailTree", 152, "nothing was read"), ("MailTree$Printer", 87, ": "), ("MailTree$Printer", 38, "\r\n"), ("MailTree$Printer", 138, "ABCDEFGHIJKLMNOPQRSTUVWXYZabcdefghijklmnopqrstuvwxyz0123456789+/"), ("MailTree$Printer", 164, "0123456789ABCDEF"), ("MailTree$Printer", 63, "--"), ("MailTree", 168, "too much to write")]
def mt_len : List Nat := [25, 15, 6, 16, 12, 9, 7, 6, 8, 64, 2, 14, 24, 13, 22, 12, 16, 2, 2, 64, 16, 2, 17]
def mt_byt : List (List Int32) := [[99, 111, 110, 116, 101, 110, 116, 45, 116, 114, 97, 110, 115, 102, 101, 114, 45, 101, 110, 99, 111, 100, 105, 110, 103], [40, 41, 60, 62, 64, 44, 59, 58, 92, 34, 47, 91, 93, 63, 61], [98, 97, 115, 101, 54, 52], [113, 117, 111, 116, 101, 100, 45, 112, 114, 105, 110, 116, 97, 98, 108, 101], [99, 111, 110, 116, 101, 110, 116, 45, 116, 121, 112, 101], [109, 117, 108, 116, 105, 112, 97, 114, 116], [109, 101, 115, 115, 97, 103, 101], [114, 102, 99, 56, 50, 50], [98, 111, 117, 110, 100, 97, 114, 121], [65, 66, 67, 68, 69, 70, 71, 72, 73, 74, 75, 76, 77, 78, 79, 80, 81, 82, 83, 84, 85, 86, 87, 88, 89, 90, 97, 98, 99, 100, 101, 102, 103, 104, 105, 106, 107, 108, 109, 110, 111, 112, 113, 114, 115, 116, 117, 118, 119, 120, 121, 122, 48, 49, 50, 51, 52, 53, 54, 55, 56, 57, 43, 47], [45, 45], [110, 111, 32, 115, 117, 99, 104, 32, 101, 110, 116, 105, 116, 121], [110, 111, 32, 115, 117, 99, 104, 32, 116, 104, 105, 110, 103, 32, 116, 111, 32, 108, 111, 111, 107, 32, 97, 116], [110, 111, 32, 115, 117, 99, 104, 32, 102, 105, 101, 108, 100], [110, 101, 105, 116, 104, 101, 114, 32, 110, 97, 109, 101, 32, 110, 111, 114, 32, 118, 97, 108, 117, 101], [110, 111, 32, 115, 117, 99, 104, 32, 98, 121, 116, 101], [110, 111, 116, 104, 105, 110, 103, 32, 119, 97, 115, 32, 114, 101, 97, 100], [58, 32], [13, 10], [65, 66, 67, 68, 69, 70, 71, 72, 73, 74, 75, 76, 77, 78, 79, 80, 81, 82, 83, 84, 85, 86, 87, 88, 89, 90, 97, 98, 99, 100, 101, 102, 103, 104, 105, 106, 107, 108, 109, 110, 111, 112, 113, 114, 115, 116, 117, 118, 119, 120, 121, 122, 48, 49, 50, 51, 52, 53, 54, 55, 56, 57, 43, 47], [48, 49, 50, 51, 52, 53, 54, 55, 56, 57, 65, 66, 67, 68, 69, 70], [45, 45], [116, 111, 111, 32, 109, 117, 99, 104, 32, 116, 111, 32, 119, 114, 105, 116, 101]]
/-- what stands outside the world and stays: links between nest mates, the literals, statics -/
def Ex_ (G : mt_G) (A : Nat → Prop) (U : State) (H : Heap) : Prop := (∀ w ∈ mt_nest, va_Nw w U) ∧ (∀ (i : Nat) (q : String × Nat × String), mt_str[i]? = some q → vk_R q.1 q.2.1 q.2.2 (G.2.2.2.1 i) U) ∧ vk_S 23 mt_len mt_byt G.2.2.2.1 G.2.2.2.2 A U H ∧ va_Z "java/lang/String" "COMPACT_STRINGS" "Z" (.int 1) A U H ∧ va_Zq "java/lang/Throwable" "UNASSIGNED_STACK" "[Ljava/lang/StackTraceElement;" A U H ∧ va_Zq "java/lang/Throwable" "SUPPRESSED_SENTINEL" "Ljava/util/List;" A U H
theorem Ex_.same {G : mt_G} {A : Nat → Prop} {u U : State} {H : Heap} (hv : u.vm = U.vm) (h : Ex_ G A u H) : Ex_ G A U H := by
  have hA : u.vm.Alike U.vm := by rw [hv]; exact Vm.Alike.refl _
  obtain ⟨h1, h2, h3, h4, h5, h6⟩ := h
  exact ⟨fun w hw => by obtain ⟨a, i, x, b, rfl⟩ := mt_nestF hw; exact va_Nw.same rfl hv (h1 _ hw), fun i q hq => vk_R.same hv.symm (h2 i q hq), vk_S.moved hA h3, va_Z.moved hA h4, va_Zq.moved hA h5, va_Zq.moved hA h6⟩
theorem Ex_.warm {G : mt_G} {A : Nat → Prop} {s U : State} {H : Heap} (hW : s.WarmedH U.vm) (h : Ex_ G A s H) : Ex_ G A U H := by
  obtain ⟨h1, h2, h3, h4, h5, h6⟩ := h
  exact ⟨fun w hw => by obtain ⟨a, i, x, b, rfl⟩ := mt_nestF hw; exact va_Nw.warmM hW (h1 _ hw), fun i q hq => vk_R.warm hW (h2 i q hq), vk_S.moved hW.alike h3, va_Z.moved hW.alike h4, va_Zq.moved hW.alike h5, va_Zq.moved hW.alike h6⟩
theorem Ex_.kept {G : mt_G} {A : Nat → Prop} {U : State} {H H1 : Heap} (h : Ex_ G A U H) (hq : ∀ a : Nat, a < H.size → ¬ A a → H1[a]? = H[a]?) : Ex_ G A U H1 := by
  obtain ⟨h1, h2, h3, h4, h5, h6⟩ := h
  exact ⟨h1, h2, vk_S.kept h3 hq, va_Z.kept h4 hq, va_Zq.kept h5 hq, va_Zq.kept h6 hq⟩
theorem Ex_.narrow {G : mt_G} {A B : Nat → Prop} {U : State} {H : Heap} (h : Ex_ G A U H) (hAB : ∀ q, B q → A q) : Ex_ G B U H := by
  obtain ⟨h1, h2, h3, h4, h5, h6⟩ := h
  exact ⟨h1, h2, vk_S.narrow h3 hAB, va_Z.narrow h4 hAB, va_Zq.narrow h5 hAB, va_Zq.narrow h6 hAB⟩
end
section
/-! The judgement JJ's base: the world as a list, locals. mem r z: the number that stands in cell r at place z. -/
def st_ (mem : mt_M) (r : Nat) (z v : Int) : mt_M := fun r' => if r' = r then (fun z' => if z' = z then v else mem r z') else mem r'
def row_ (mem : mt_M) (r : Nat) (f : Int → Int) : mt_M := fun r' => if r' = r then f else mem r'
def wd (G : mt_G) (mem : mt_M) : va_W := (List.range mt_N).map (fun r => (G.1 r, ce_ G (mem r) r))
theorem wd_get {G : mt_G} {mem : mt_M} {r : Nat} (h : r < mt_N) : (wd G mem)[r]? = some (G.1 r, ce_ G (mem r) r) := by
  simp [wd, List.getElem?_map, List.getElem?_range h]
theorem wd_len {G : mt_G} {mem : mt_M} : (wd G mem).length = mt_N := by simp [wd]
theorem wd_set {G : mt_G} {mem : mt_M} {r : Nat} {f : Int → Int} (h : r < mt_N) : (wd G mem).set r (G.1 r, ce_ G f r) = wd G (row_ mem r f) := by
  apply List.ext_getElem?
  intro i
  rw [List.getElem?_set]
  by_cases hi : i < mt_N
  · by_cases e : r = i
    · subst e
      rw [if_pos rfl, if_pos (by rw [wd_len]; exact h), wd_get h]
      simp [row_]
    · rw [if_neg e, wd_get hi, wd_get hi]
      have : row_ mem r f i = mem i := by unfold row_; rw [if_neg (fun z => e z.symm)]
      rw [this]
  · have e1 : (wd G (row_ mem r f))[i]? = none := List.getElem?_eq_none (by rw [wd_len]; omega)
    have e2 : (wd G mem)[i]? = none := List.getElem?_eq_none (by rw [wd_len]; omega)
    rw [e1, e2]
    split
    · split
      · rename_i h1 h2; subst h1; exact absurd h hi
      · rfl
    · rfl
theorem wd_at {G : mt_G} {mem : mt_M} {i : Nat} {q : Nat × va_E} (h : (wd G mem)[i]? = some q) : i < mt_N ∧ q = (G.1 i, ce_ G (mem i) i) := by
  have hi : i < mt_N := by
    have := (List.getElem?_eq_some_iff.mp h).1
    rw [wd_len] at this; exact this
  rw [wd_get hi] at h
  exact ⟨hi, (Option.some.inj h).symm⟩
def in_ (G : mt_G) : Prop := ∀ i j : Nat, i < mt_N → j < mt_N → G.1 i = G.1 j → i = j
theorem wd_D {G : mt_G} {mem : mt_M} {A : Nat → Prop} (hi : in_ G) (hA : ∀ r, r < mt_N → A (G.1 r)) : va_D A (wd G mem) := by
  refine ⟨fun i j p q hp hq e => ?_, fun k q hk => ?_⟩
  · obtain ⟨h1, rfl⟩ := wd_at hp
    obtain ⟨h2, rfl⟩ := wd_at hq
    exact hi i j h1 h2 e
  · obtain ⟨h1, rfl⟩ := wd_at hk
    exact hA k h1
/-- what a method may change: the cells of the world, and what is new -/
def As_ (G : mt_G) (sz : Nat) : Nat → Prop := fun q => (∃ r, r < mt_N ∧ q = G.1 r) ∨ sz ≤ q
/-- locals: known values by place -/
def lo_ (ls : Array Slot) (lo : List (Option Value)) : Prop := ls.size = lo.length ∧ lv_wf ls ∧ ∀ (i : Nat) (v : Value), lo[i]? = some (some v) → ls[i]? = some (.val v)
def lo_l (lo : List (Option Value)) : List (Nat × Value) := (List.range lo.length).filterMap (fun j => (lo.getD j none).map (fun w => (j, w)))
theorem lo_l_mem {lo : List (Option Value)} {j : Nat} {w : Value} : (j, w) ∈ lo_l lo ↔ lo[j]? = some (some w) := by
  unfold lo_l
  rw [List.mem_filterMap]
  constructor
  · rintro ⟨i, h1, h2⟩
    cases hq : lo.getD i none with
    | none => rw [hq] at h2; cases h2
    | some v =>
      rw [hq] at h2
      have h3 := Option.some.inj h2
      obtain ⟨rfl, rfl⟩ := Prod.mk.inj h3
      rw [List.getD_eq_getElem?_getD] at hq
      cases h4 : lo[i]? with
      | none => rw [h4] at hq; cases hq
      | some o => rw [h4] at hq; exact congrArg some hq
  · intro h
    refine ⟨j, List.mem_range.mpr (List.getElem?_eq_some_iff.mp h).1, ?_⟩
    rw [List.getD_eq_getElem?_getD, h]
    rfl
theorem lo_has {ls : Array Slot} {lo : List (Option Value)} (h : lo_ ls lo) : lv_has ls lo.length (lo_l lo) := ⟨h.1, h.2.1, fun q hq => h.2.2 q.1 q.2 (lo_l_mem.mp hq)⟩
/-- no two-slot value stands right before the place -/
def lo_ok (lo : List (Option Value)) (i : Nat) : Bool := match i with
  | 0 => true
  | j + 1 => match lo[j]? with
    | some (some v) => v.category == 1
    | _ => true
theorem lo_st1 {lo : List (Option Value)} {i : Nat} {v : Value} (hk : lo_ok lo i = true) :
    ∀ ls', lv_has ls' lo.length ((i, v) :: (lo_l lo).filter (fun q => !(q.1 == i) && !(q.1 + 1 == i && q.2.category == 2))) → lo_ ls' (lo.set i (some v)) := by
  intro ls' h'
  refine ⟨by rw [List.length_set]; exact h'.1, h'.2.1, fun j w hj => ?_⟩
  rw [List.getElem?_set] at hj
  by_cases e : i = j
  · subst e
    rw [if_pos rfl] at hj
    split at hj
    · rw [← Option.some.inj (Option.some.inj hj)]
      exact h'.2.2 (i, v) List.mem_cons_self
    · cases hj
  · rw [if_neg e] at hj
    refine h'.2.2 (j, w) (List.mem_cons_of_mem _ (List.mem_filter.mpr ⟨lo_l_mem.mpr hj, ?_⟩))
    simp only [Bool.and_eq_true, Bool.not_eq_true', beq_eq_false_iff_ne, ne_eq, Bool.and_eq_false_iff]
    refine ⟨fun z => e z.symm, ?_⟩
    by_cases e2 : j + 1 = i
    · right
      subst e2
      simp only [lo_ok, hj] at hk
      simp only [beq_iff_eq] at hk
      rw [hk]; decide
    · left; exact e2
theorem lo_st2 {lo : List (Option Value)} {i : Nat} {v : Value} (hk : lo_ok lo i = true) :
    ∀ ls', lv_has ls' lo.length ((i, v) :: (lo_l lo).filter (fun q => !(q.1 == i) && (!(q.1 == i + 1) && !(q.1 + 1 == i && q.2.category == 2)))) → lo_ ls' ((lo.set (i + 1) none).set i (some v)) := by
  intro ls' h'
  refine ⟨by rw [List.length_set, List.length_set]; exact h'.1, h'.2.1, fun j w hj => ?_⟩
  rw [List.getElem?_set] at hj
  by_cases e : i = j
  · subst e
    rw [if_pos rfl] at hj
    split at hj
    · rw [← Option.some.inj (Option.some.inj hj)]
      exact h'.2.2 (i, v) List.mem_cons_self
    · cases hj
  · rw [if_neg e, List.getElem?_set] at hj
    by_cases e1 : i + 1 = j
    · rw [if_pos e1] at hj
      split at hj
      · cases hj
      · cases hj
    · rw [if_neg e1] at hj
      refine h'.2.2 (j, w) (List.mem_cons_of_mem _ (List.mem_filter.mpr ⟨lo_l_mem.mpr hj, ?_⟩))
      simp only [Bool.and_eq_true, Bool.not_eq_true', beq_eq_false_iff_ne, ne_eq, Bool.and_eq_false_iff]
      refine ⟨fun z => e z.symm, fun z => e1 z.symm, ?_⟩
      by_cases e2 : j + 1 = i
      · right
        subst e2
        simp only [lo_ok, hj] at hk
        simp only [beq_iff_eq] at hk
        rw [hk]; decide
      · left; exact e2
end
section
/-! Rows of the judgement JJ: an instruction each. -/
abbrev mt_X : Type := Program × Launch × Env × Room × State × MethodId × Array Value × List Frame × Method × Code × (Nat → Prop) × (State → Prop)
def JJ (G : mt_G) (X : mt_X) (k n : Nat) (mem : mt_M) (pc : Nat) (lo : List (Option Value)) (st : List Value) : Prop := match X with
  | (p, l, e, R, s, m, args, below, meth, c, A, Q) => ∀ (H : Heap) (locs : List Loc) (ls : Array Slot), va_P G.2.1 vwCl (wd G mem) H → va_S A s.heap H locs → lo_ ls lo → W p l e R s m args below meth c H locs k n Q (F0 m pc ls st)
def OK (G : mt_G) (X : mt_X) (cc : ByteArray) (own : String) (nL : Nat) : Prop := match X with
  | (p, _, _, _, s, m, args, _, _, c, A, _) => p.tables.exec = Jvm.exec ∧ c.code = cc ∧ c.maxLocals = nL ∧ s.vm.findClass own = some m.cls ∧ (∀ w ∈ mt_T, w.before args s = true) ∧ va_K G.2.1 vwCl (ty_ G) s ∧ in_ G ∧ (∀ r, r < mt_N → A (G.1 r)) ∧ (∀ q : Nat, s.heap.size ≤ q → A q) ∧ Ex_ G A s s.heap
abbrev r32 (z : Int) : Prop := -2147483648 ≤ z ∧ z ≤ 2147483647
theorem r32_to {z : Int} (h : r32 z) : (Int32.ofInt z).toInt = z := Int32.toInt_ofInt_of_le (by have := h.1; omega) (by have := h.2; omega)
theorem r32_lt {x y : Int} (hx : r32 x) (hy : r32 y) : Int32.ofInt x < Int32.ofInt y ↔ x < y := by rw [Int32.lt_iff_toInt_lt, r32_to hx, r32_to hy]
theorem r32_le {x y : Int} (hx : r32 x) (hy : r32 y) : Int32.ofInt x ≤ Int32.ofInt y ↔ x ≤ y := by rw [Int32.le_iff_toInt_le, r32_to hx, r32_to hy]
theorem r32_eq {x y : Int} (hx : r32 x) (hy : r32 y) : Int32.ofInt x = Int32.ofInt y ↔ x = y := by rw [← Int32.toInt_inj, r32_to hx, r32_to hy]
theorem r32_0 : r32 0 := ⟨by decide, by decide⟩
/-- operations that are no ring's -/
def iand_ (x y : Int) : Int := (Int32.ofInt x &&& Int32.ofInt y).toInt
def ior_ (x y : Int) : Int := (Int32.ofInt x ||| Int32.ofInt y).toInt
def ishl_ (x y : Int) : Int := (Int32.ofInt x <<< (Int32.ofInt y &&& 31)).toInt
def ishr_ (x y : Int) : Int := (Int32.ofInt x >>> (Int32.ofInt y &&& 31)).toInt
def irem_ (x y : Int) : Int := (Int32.ofInt x - Int32.ofInt x / Int32.ofInt y * Int32.ofInt y).toInt
def i2c_ (x : Int) : Int := ((Int32.ofInt x).toUInt32 % 65536).toInt32.toInt
def i2l_ (x : Int) : Int := (Int32.ofInt x).toInt
def l2i_ (x : Int) : Int := (Int64.ofInt x).toInt32.toInt
def land_ (x y : Int) : Int := (Int64.ofInt x &&& Int64.ofInt y).toInt
def lor_ (x y : Int) : Int := (Int64.ofInt x ||| Int64.ofInt y).toInt
def lshl_ (x y : Int) : Int := (Int64.ofInt x <<< ((Int32.ofInt y).toInt64 &&& 63)).toInt
def lshr_ (x y : Int) : Int := (Int64.ofInt x >>> ((Int32.ofInt y).toInt64 &&& 63)).toInt
def lushr_ (x y : Int) : Int := ((Int64.ofInt x).toUInt64 >>> ((Int32.ofInt y).toInt64.toUInt64 &&& Int64.toUInt64 63)).toInt64.toInt
section JJRows
variable {G : mt_G} {X : mt_X} {cc : ByteArray} {own : String} {nL k n : Nat} {mem : mt_M} {pc : Nat} {lo : List (Option Value)} {st : List Value}
theorem jj_iconst (h : OK G X cc own nL) {z : Int} (d : decode cc pc = .ok (.iconst z, 1)) (kk : JJ G X k n mem (pc + 1) lo (vi z :: st)) : JJ G X k n mem pc lo (st) := by
  obtain ⟨p, l, e, R, s, m, args, below, meth, c, A, Q⟩ := X
  intro H locs ls hP hS hL
  exact lv_iconst h.1 h.2.1 d rfl (kk H locs ls hP hS hL)
theorem jj_bipush (h : OK G X cc own nL) {z : Int} (d : decode cc pc = .ok (.bipush z, 2)) (hv : (Int8.ofInt z).toInt32 = Int32.ofInt z) (kk : JJ G X k n mem (pc + 2) lo (vi z :: st)) : JJ G X k n mem pc lo (st) := by
  obtain ⟨p, l, e, R, s, m, args, below, meth, c, A, Q⟩ := X
  intro H locs ls hP hS hL
  exact lv_bipush h.1 h.2.1 d hv (kk H locs ls hP hS hL)
theorem jj_sipush (h : OK G X cc own nL) {z : Int} (d : decode cc pc = .ok (.sipush z, 3)) (hv : (Int16.ofInt z).toInt32 = Int32.ofInt z) (kk : JJ G X k n mem (pc + 3) lo (vi z :: st)) : JJ G X k n mem pc lo (st) := by
  obtain ⟨p, l, e, R, s, m, args, below, meth, c, A, Q⟩ := X
  intro H locs ls hP hS hL
  exact lv_sipush h.1 h.2.1 d hv (kk H locs ls hP hS hL)
theorem jj_lconst0 (h : OK G X cc own nL) (d : decode cc pc = .ok (.lconst 0, 1)) (kk : JJ G X k n mem (pc + 1) lo (vl 0 :: st)) : JJ G X k n mem pc lo (st) := by
  obtain ⟨p, l, e, R, s, m, args, below, meth, c, A, Q⟩ := X
  intro H locs ls hP hS hL
  exact lv_lconst h.1 h.2.1 d rfl (kk H locs ls hP hS hL)
theorem jj_ldc (h : OK G X cc own nL) {i : Nat} (z : Int) (d : decode cc pc = .ok (.ldc i, 2)) (hw : Cond.constant own i (Int32.ofInt z) ∈ mt_T) (kk : JJ G X k n mem (pc + 2) lo (vi z :: st)) : JJ G X k n mem pc lo (st) := by
  obtain ⟨p, l, e, R, s, m, args, below, meth, c, A, Q⟩ := X
  intro H locs ls hP hS hL
  exact lv_ldc h.1 h.2.1 h.2.2.2.1 (h.2.2.2.2.1 _ hw) d (kk H locs ls hP hS hL)
theorem jj_ldc2 (h : OK G X cc own nL) {i : Nat} (z : Int) (d : decode cc pc = .ok (.ldc2_w i, 3)) (hw : Cond.constantLong own i (Int64.ofInt z) ∈ mt_T) (kk : JJ G X k n mem (pc + 3) lo (vl z :: st)) : JJ G X k n mem pc lo (st) := by
  obtain ⟨p, l, e, R, s, m, args, below, meth, c, A, Q⟩ := X
  intro H locs ls hP hS hL
  exact lv_ldc2 h.1 h.2.1 h.2.2.2.1 (h.2.2.2.2.1 _ hw) d (kk H locs ls hP hS hL)
theorem jj_iload_n (h : OK G X cc own nL) {i : Fin 4} {z : Int} (d : decode cc pc = .ok (.iload_n i, 1)) (hl : lo[(i : Nat)]? = some (some (vi z))) (kk : JJ G X k n mem (pc + 1) lo (vi z :: st)) : JJ G X k n mem pc lo (st) := by
  obtain ⟨p, l, e, R, s, m, args, below, meth, c, A, Q⟩ := X
  intro H locs ls hP hS hL
  exact lv_iload_n h.1 h.2.1 d rfl (hL.2.2 _ _ hl) (kk H locs ls hP hS hL)
theorem jj_iload (h : OK G X cc own nL) {i : Nat} {z : Int} (d : decode cc pc = .ok (.iload i, 2)) (hl : lo[i]? = some (some (vi z))) (kk : JJ G X k n mem (pc + 2) lo (vi z :: st)) : JJ G X k n mem pc lo (st) := by
  obtain ⟨p, l, e, R, s, m, args, below, meth, c, A, Q⟩ := X
  intro H locs ls hP hS hL
  exact lv_iload h.1 h.2.1 d (hL.2.2 _ _ hl) (kk H locs ls hP hS hL)
theorem jj_lload_n (h : OK G X cc own nL) {i : Fin 4} {z : Int} (d : decode cc pc = .ok (.lload_n i, 1)) (hl : lo[(i : Nat)]? = some (some (vl z))) (kk : JJ G X k n mem (pc + 1) lo (vl z :: st)) : JJ G X k n mem pc lo (st) := by
  obtain ⟨p, l, e, R, s, m, args, below, meth, c, A, Q⟩ := X
  intro H locs ls hP hS hL
  exact lv_lload_n h.1 h.2.1 d rfl (hL.2.2 _ _ hl) (kk H locs ls hP hS hL)
theorem jj_lload (h : OK G X cc own nL) {i : Nat} {z : Int} (d : decode cc pc = .ok (.lload i, 2)) (hl : lo[i]? = some (some (vl z))) (kk : JJ G X k n mem (pc + 2) lo (vl z :: st)) : JJ G X k n mem pc lo (st) := by
  obtain ⟨p, l, e, R, s, m, args, below, meth, c, A, Q⟩ := X
  intro H locs ls hP hS hL
  exact lv_lload h.1 h.2.1 d (hL.2.2 _ _ hl) (kk H locs ls hP hS hL)
theorem jj_aload_n (h : OK G X cc own nL) {i : Fin 4} {v : Value} (d : decode cc pc = .ok (.aload_n i, 1)) (hl : lo[(i : Nat)]? = some (some v)) (hv : ∃ x, v = .ref x) (kk : JJ G X k n mem (pc + 1) lo (v :: st)) : JJ G X k n mem pc lo (st) := by
  obtain ⟨p, l, e, R, s, m, args, below, meth, c, A, Q⟩ := X
  intro H locs ls hP hS hL
  obtain ⟨x, rfl⟩ := hv
  exact lv_aload_n h.1 h.2.1 d rfl (hL.2.2 _ _ hl) (kk H locs ls hP hS hL)
theorem jj_aload (h : OK G X cc own nL) {i : Nat} {v : Value} (d : decode cc pc = .ok (.aload i, 2)) (hl : lo[i]? = some (some v)) (hv : ∃ x, v = .ref x) (kk : JJ G X k n mem (pc + 2) lo (v :: st)) : JJ G X k n mem pc lo (st) := by
  obtain ⟨p, l, e, R, s, m, args, below, meth, c, A, Q⟩ := X
  intro H locs ls hP hS hL
  obtain ⟨x, rfl⟩ := hv
  exact lv_aload h.1 h.2.1 d (hL.2.2 _ _ hl) (kk H locs ls hP hS hL)
theorem jj_istore_n (h : OK G X cc own nL) {i : Fin 4} {z : Int} (d : decode cc pc = .ok (.istore_n i, 1)) (hi : (i : Nat) < lo.length) (hk : lo_ok lo (i : Nat) = true) (kk : JJ G X k n mem (pc + 1) (lo.set (i : Nat) (some (vi z))) st) : JJ G X k n mem pc lo (vi z :: st) := by
  obtain ⟨p, l, e, R, s, m, args, below, meth, c, A, Q⟩ := X
  intro H locs ls hP hS hL
  exact lv_istore_n h.1 h.2.1 d rfl (lo_has hL) hi rfl (fun ls' h' => kk H locs ls' hP hS (lo_st1 hk ls' h'))
theorem jj_istore (h : OK G X cc own nL) {i : Nat} {z : Int} (d : decode cc pc = .ok (.istore i, 2)) (hi : i < lo.length) (hk : lo_ok lo i = true) (kk : JJ G X k n mem (pc + 2) (lo.set i (some (vi z))) st) : JJ G X k n mem pc lo (vi z :: st) := by
  obtain ⟨p, l, e, R, s, m, args, below, meth, c, A, Q⟩ := X
  intro H locs ls hP hS hL
  exact lv_istore h.1 h.2.1 d (lo_has hL) hi rfl (fun ls' h' => kk H locs ls' hP hS (lo_st1 hk ls' h'))
theorem jj_astore_n (h : OK G X cc own nL) {i : Fin 4} {v : Value} (d : decode cc pc = .ok (.astore_n i, 1)) (hv : ∃ x, v = .ref x) (hi : (i : Nat) < lo.length) (hk : lo_ok lo (i : Nat) = true) (kk : JJ G X k n mem (pc + 1) (lo.set (i : Nat) (some v)) st) : JJ G X k n mem pc lo (v :: st) := by
  obtain ⟨p, l, e, R, s, m, args, below, meth, c, A, Q⟩ := X
  intro H locs ls hP hS hL
  obtain ⟨x, rfl⟩ := hv
  exact lv_astore_n h.1 h.2.1 d rfl (lo_has hL) hi rfl (fun ls' h' => kk H locs ls' hP hS (lo_st1 hk ls' h'))
theorem jj_astore (h : OK G X cc own nL) {i : Nat} {v : Value} (d : decode cc pc = .ok (.astore i, 2)) (hv : ∃ x, v = .ref x) (hi : i < lo.length) (hk : lo_ok lo i = true) (kk : JJ G X k n mem (pc + 2) (lo.set i (some v)) st) : JJ G X k n mem pc lo (v :: st) := by
  obtain ⟨p, l, e, R, s, m, args, below, meth, c, A, Q⟩ := X
  intro H locs ls hP hS hL
  obtain ⟨x, rfl⟩ := hv
  exact lv_astore h.1 h.2.1 d (lo_has hL) hi rfl (fun ls' h' => kk H locs ls' hP hS (lo_st1 hk ls' h'))
theorem jj_lstore (h : OK G X cc own nL) {i : Nat} {z : Int} (d : decode cc pc = .ok (.lstore i, 2)) (hi : i + 1 < lo.length) (hk : lo_ok lo i = true) (kk : JJ G X k n mem (pc + 2) ((lo.set (i + 1) none).set i (some (vl z))) st) : JJ G X k n mem pc lo (vl z :: st) := by
  obtain ⟨p, l, e, R, s, m, args, below, meth, c, A, Q⟩ := X
  intro H locs ls hP hS hL
  exact lv_lstore h.1 h.2.1 d (lo_has hL) hi rfl (fun ls' h' => kk H locs ls' hP hS (lo_st2 hk ls' h'))
theorem jj_iinc (h : OK G X cc own nL) {i : Nat} {z w : Int} (d : decode cc pc = .ok (.iinc i w, 3)) (hl : lo[i]? = some (some (vi z))) (hk : lo_ok lo i = true) (kk : JJ G X k n mem (pc + 3) (lo.set i (some (vi (z + w)))) st) : JJ G X k n mem pc lo st := by
  obtain ⟨p, l, e, R, s, m, args, below, meth, c, A, Q⟩ := X
  intro H locs ls hP hS hL
  have hm := lo_l_mem.mpr hl
  obtain ⟨j, hj⟩ := List.getElem?_of_mem hm
  refine lv_iinc (v := Int32.ofInt (z + w)) h.1 h.2.1 d (lo_has hL) hj (by rw [Int32.ofInt_add]) (List.getElem?_eq_some_iff.mp hl).1 rfl (fun ls' h' => kk H locs ls' hP hS (lo_st1 hk ls' h'))
theorem jj_iadd (h : OK G X cc own nL) {x y : Int} (d : decode cc pc = .ok (.iadd, 1)) (kk : JJ G X k n mem (pc + 1) lo (vi (x + y) :: st)) : JJ G X k n mem pc lo (vi y :: vi x :: st) := by
  obtain ⟨p, l, e, R, s, m, args, below, meth, c, A, Q⟩ := X
  intro H locs ls hP hS hL
  have q := (kk H locs ls hP hS hL)
  unfold vi at q
  rw [Int32.ofInt_add] at q
  exact lv_iadd h.1 h.2.1 d q
theorem jj_isub (h : OK G X cc own nL) {x y : Int} (d : decode cc pc = .ok (.isub, 1)) (kk : JJ G X k n mem (pc + 1) lo (vi (x - y) :: st)) : JJ G X k n mem pc lo (vi y :: vi x :: st) := by
  obtain ⟨p, l, e, R, s, m, args, below, meth, c, A, Q⟩ := X
  intro H locs ls hP hS hL
  have q := (kk H locs ls hP hS hL)
  unfold vi at q
  rw [Int32.ofInt_sub] at q
  exact lv_isub h.1 h.2.1 d q
theorem jj_imul (h : OK G X cc own nL) {x y : Int} (d : decode cc pc = .ok (.imul, 1)) (kk : JJ G X k n mem (pc + 1) lo (vi (x * y) :: st)) : JJ G X k n mem pc lo (vi y :: vi x :: st) := by
  obtain ⟨p, l, e, R, s, m, args, below, meth, c, A, Q⟩ := X
  intro H locs ls hP hS hL
  have q := (kk H locs ls hP hS hL)
  unfold vi at q
  rw [Int32.ofInt_mul] at q
  exact lv_imul h.1 h.2.1 d q
theorem jj_iand (h : OK G X cc own nL) {x y : Int} (d : decode cc pc = .ok (.iand, 1)) (kk : JJ G X k n mem (pc + 1) lo (vi (iand_ x y) :: st)) : JJ G X k n mem pc lo (vi y :: vi x :: st) := by
  obtain ⟨p, l, e, R, s, m, args, below, meth, c, A, Q⟩ := X
  intro H locs ls hP hS hL
  have q := (kk H locs ls hP hS hL)
  unfold vi iand_ at q
  rw [Int32.ofInt_toInt] at q
  exact lv_iand h.1 h.2.1 d q
theorem jj_ior (h : OK G X cc own nL) {x y : Int} (d : decode cc pc = .ok (.ior, 1)) (kk : JJ G X k n mem (pc + 1) lo (vi (ior_ x y) :: st)) : JJ G X k n mem pc lo (vi y :: vi x :: st) := by
  obtain ⟨p, l, e, R, s, m, args, below, meth, c, A, Q⟩ := X
  intro H locs ls hP hS hL
  have q := (kk H locs ls hP hS hL)
  unfold vi ior_ at q
  rw [Int32.ofInt_toInt] at q
  exact lv_ior h.1 h.2.1 d q
theorem jj_ishl (h : OK G X cc own nL) {x y : Int} (d : decode cc pc = .ok (.ishl, 1)) (kk : JJ G X k n mem (pc + 1) lo (vi (ishl_ x y) :: st)) : JJ G X k n mem pc lo (vi y :: vi x :: st) := by
  obtain ⟨p, l, e, R, s, m, args, below, meth, c, A, Q⟩ := X
  intro H locs ls hP hS hL
  have q := (kk H locs ls hP hS hL)
  unfold vi ishl_ at q
  rw [Int32.ofInt_toInt] at q
  exact lv_ishl h.1 h.2.1 d q
theorem jj_ishr (h : OK G X cc own nL) {x y : Int} (d : decode cc pc = .ok (.ishr, 1)) (kk : JJ G X k n mem (pc + 1) lo (vi (ishr_ x y) :: st)) : JJ G X k n mem pc lo (vi y :: vi x :: st) := by
  obtain ⟨p, l, e, R, s, m, args, below, meth, c, A, Q⟩ := X
  intro H locs ls hP hS hL
  have q := (kk H locs ls hP hS hL)
  unfold vi ishr_ at q
  rw [Int32.ofInt_toInt] at q
  exact lv_ishr h.1 h.2.1 d q
theorem jj_irem (h : OK G X cc own nL) {x y : Int} (d : decode cc pc = .ok (.irem, 1)) (hy : ¬ Int32.ofInt y = 0) (kk : JJ G X k n mem (pc + 1) lo (vi (irem_ x y) :: st)) : JJ G X k n mem pc lo (vi y :: vi x :: st) := by
  obtain ⟨p, l, e, R, s, m, args, below, meth, c, A, Q⟩ := X
  intro H locs ls hP hS hL
  have q := (kk H locs ls hP hS hL)
  unfold vi irem_ at q
  rw [Int32.ofInt_toInt] at q
  exact lv_irem h.1 h.2.1 d hy q
theorem jj_i2c (h : OK G X cc own nL) {x : Int} (d : decode cc pc = .ok (.i2c, 1)) (kk : JJ G X k n mem (pc + 1) lo (vi (i2c_ x) :: st)) : JJ G X k n mem pc lo (vi x :: st) := by
  obtain ⟨p, l, e, R, s, m, args, below, meth, c, A, Q⟩ := X
  intro H locs ls hP hS hL
  have q := (kk H locs ls hP hS hL)
  unfold vi i2c_ at q
  rw [Int32.ofInt_toInt] at q
  exact lv_i2c h.1 h.2.1 d rfl q
theorem jj_i2l (h : OK G X cc own nL) {x : Int} (d : decode cc pc = .ok (.i2l, 1)) (kk : JJ G X k n mem (pc + 1) lo (vl (i2l_ x) :: st)) : JJ G X k n mem pc lo (vi x :: st) := by
  obtain ⟨p, l, e, R, s, m, args, below, meth, c, A, Q⟩ := X
  intro H locs ls hP hS hL
  have q := (kk H locs ls hP hS hL)
  unfold vl i2l_ at q
  exact lv_i2l h.1 h.2.1 d (by rw [← Int32.toInt_toInt64, Int64.ofInt_toInt]) q
theorem jj_l2i (h : OK G X cc own nL) {x : Int} (d : decode cc pc = .ok (.l2i, 1)) (kk : JJ G X k n mem (pc + 1) lo (vi (l2i_ x) :: st)) : JJ G X k n mem pc lo (vl x :: st) := by
  obtain ⟨p, l, e, R, s, m, args, below, meth, c, A, Q⟩ := X
  intro H locs ls hP hS hL
  have q := (kk H locs ls hP hS hL)
  unfold vi l2i_ at q
  rw [Int32.ofInt_toInt] at q
  exact lv_l2i h.1 h.2.1 d rfl q
theorem jj_land (h : OK G X cc own nL) {x y : Int} (d : decode cc pc = .ok (.land, 1)) (kk : JJ G X k n mem (pc + 1) lo (vl (land_ x y) :: st)) : JJ G X k n mem pc lo (vl y :: vl x :: st) := by
  obtain ⟨p, l, e, R, s, m, args, below, meth, c, A, Q⟩ := X
  intro H locs ls hP hS hL
  have q := (kk H locs ls hP hS hL)
  unfold vl land_ at q
  rw [Int64.ofInt_toInt] at q
  exact lv_land h.1 h.2.1 d q
theorem jj_lor (h : OK G X cc own nL) {x y : Int} (d : decode cc pc = .ok (.lor, 1)) (kk : JJ G X k n mem (pc + 1) lo (vl (lor_ x y) :: st)) : JJ G X k n mem pc lo (vl y :: vl x :: st) := by
  obtain ⟨p, l, e, R, s, m, args, below, meth, c, A, Q⟩ := X
  intro H locs ls hP hS hL
  have q := (kk H locs ls hP hS hL)
  unfold vl lor_ at q
  rw [Int64.ofInt_toInt] at q
  exact lv_lor h.1 h.2.1 d q
theorem jj_lshl (h : OK G X cc own nL) {x y : Int} (d : decode cc pc = .ok (.lshl, 1)) (kk : JJ G X k n mem (pc + 1) lo (vl (lshl_ x y) :: st)) : JJ G X k n mem pc lo (vi y :: vl x :: st) := by
  obtain ⟨p, l, e, R, s, m, args, below, meth, c, A, Q⟩ := X
  intro H locs ls hP hS hL
  have q := (kk H locs ls hP hS hL)
  unfold vl lshl_ at q
  rw [Int64.ofInt_toInt] at q
  exact lv_lshl h.1 h.2.1 d rfl q
theorem jj_lshr (h : OK G X cc own nL) {x y : Int} (d : decode cc pc = .ok (.lshr, 1)) (kk : JJ G X k n mem (pc + 1) lo (vl (lshr_ x y) :: st)) : JJ G X k n mem pc lo (vi y :: vl x :: st) := by
  obtain ⟨p, l, e, R, s, m, args, below, meth, c, A, Q⟩ := X
  intro H locs ls hP hS hL
  have q := (kk H locs ls hP hS hL)
  unfold vl lshr_ at q
  rw [Int64.ofInt_toInt] at q
  exact lv_lshr h.1 h.2.1 d rfl q
theorem jj_lushr (h : OK G X cc own nL) {x y : Int} (d : decode cc pc = .ok (.lushr, 1)) (kk : JJ G X k n mem (pc + 1) lo (vl (lushr_ x y) :: st)) : JJ G X k n mem pc lo (vi y :: vl x :: st) := by
  obtain ⟨p, l, e, R, s, m, args, below, meth, c, A, Q⟩ := X
  intro H locs ls hP hS hL
  have q := (kk H locs ls hP hS hL)
  unfold vl lushr_ at q
  rw [Int64.ofInt_toInt] at q
  exact lv_lushr h.1 h.2.1 d rfl q
theorem jj_lcmp (h : OK G X cc own nL) {x y : Int} (d : decode cc pc = .ok (.lcmp, 1)) (kk : JJ G X k n mem (pc + 1) lo (.int (lg_cmp (Int64.ofInt x) (Int64.ofInt y)) :: st)) : JJ G X k n mem pc lo (vl y :: vl x :: st) := by
  obtain ⟨p, l, e, R, s, m, args, below, meth, c, A, Q⟩ := X
  intro H locs ls hP hS hL
  exact W.lcmp h.1 h.2.1 d (kk H locs ls hP hS hL)
theorem jj_dup (h : OK G X cc own nL) {v : Value} (d : decode cc pc = .ok (.dup, 1)) (hv : v.category = 1) (kk : JJ G X k n mem (pc + 1) lo (v :: v :: st)) : JJ G X k n mem pc lo (v :: st) := by
  obtain ⟨p, l, e, R, s, m, args, below, meth, c, A, Q⟩ := X
  intro H locs ls hP hS hL
  exact lv_dup h.1 h.2.1 d hv (kk H locs ls hP hS hL)
theorem jj_pop (h : OK G X cc own nL) {v : Value} (d : decode cc pc = .ok (.pop, 1)) (hv : v.category = 1) (kk : JJ G X k n mem (pc + 1) lo st) : JJ G X k n mem pc lo (v :: st) := by
  obtain ⟨p, l, e, R, s, m, args, below, meth, c, A, Q⟩ := X
  intro H locs ls hP hS hL
  exact lv_pop h.1 h.2.1 d hv (kk H locs ls hP hS hL)
theorem jj_goto (h : OK G X cc own nL) {off : Int} (tgt : Nat) (d : decode cc pc = .ok (.goto off, 3)) (ht : (pc : Int) + off = (tgt : Int)) (kk : JJ G X k n mem tgt lo st) : JJ G X k n mem pc lo st := by
  obtain ⟨p, l, e, R, s, m, args, below, meth, c, A, Q⟩ := X
  intro H locs ls hP hS hL
  exact lv_goto h.1 h.2.1 d ht (kk H locs ls hP hS hL)
theorem jj_null (h : OK G X cc own nL) (d : decode cc pc = .ok (.aconst_null, 1)) (kk : JJ G X k n mem (pc + 1) lo (.null :: st)) : JJ G X k n mem pc lo st := by
  obtain ⟨p, l, e, R, s, m, args, below, meth, c, A, Q⟩ := X
  intro H locs ls hP hS hL
  exact lv_null h.1 h.2.1 d (kk H locs ls hP hS hL)
theorem jj_ifnonnull (h : OK G X cc own nL) {x : Nat} {off : Int} (tgt : Nat) (d : decode cc pc = .ok (.ifnonnull off, 3)) (ht : (pc : Int) + off = (tgt : Int)) (kk : JJ G X k n mem tgt lo st) : JJ G X k n mem pc lo (.ref x :: st) := by
  obtain ⟨p, l, e, R, s, m, args, below, meth, c, A, Q⟩ := X
  intro H locs ls hP hS hL
  exact lv_ifnonnull h.1 h.2.1 d ht (kk H locs ls hP hS hL)
theorem jj_ifnonnullN (h : OK G X cc own nL) {off : Int} (d : decode cc pc = .ok (.ifnonnull off, 3)) (kk : JJ G X k n mem (pc + 3) lo st) : JJ G X k n mem pc lo (.null :: st) := by
  obtain ⟨p, l, e, R, s, m, args, below, meth, c, A, Q⟩ := X
  intro H locs ls hP hS hL
  exact lv_ifnonnullN h.1 h.2.1 d (kk H locs ls hP hS hL)
theorem jj_icmp_eq (h : OK G X cc own nL) {x y off : Int} (tgt : Nat) (d : decode cc pc = .ok (.if_icmp .eq off, 3)) (ht : (pc : Int) + off = (tgt : Int)) (hx : r32 x) (hy : r32 y) (kt : x = y → JJ G X k n mem tgt lo st) (kf : ¬ (x = y) → JJ G X k n mem (pc + 3) lo st) : JJ G X k n mem pc lo (vi y :: vi x :: st) := by
  obtain ⟨p, l, e, R, s, m, args, below, meth, c, A, Q⟩ := X
  intro H locs ls hP hS hL
  exact lv_icmp_eq h.1 h.2.1 d ht (fun q => kt ((r32_eq hx hy).mp q) H locs ls hP hS hL) (fun q => kf (fun z => q ((r32_eq hx hy).mpr z)) H locs ls hP hS hL)
theorem jj_if_eq (h : OK G X cc own nL) {x off : Int} (tgt : Nat) (d : decode cc pc = .ok (.ifCond .eq off, 3)) (ht : (pc : Int) + off = (tgt : Int)) (hx : r32 x) (kt : x = 0 → JJ G X k n mem tgt lo st) (kf : ¬ (x = 0) → JJ G X k n mem (pc + 3) lo st) : JJ G X k n mem pc lo (vi x :: st) := by
  obtain ⟨p, l, e, R, s, m, args, below, meth, c, A, Q⟩ := X
  intro H locs ls hP hS hL
  exact lv_if_eq h.1 h.2.1 d ht (fun q => kt ((r32_eq hx r32_0).mp q) H locs ls hP hS hL) (fun q => kf (fun z => q ((r32_eq hx r32_0).mpr z)) H locs ls hP hS hL)
theorem jj_icmp_ne (h : OK G X cc own nL) {x y off : Int} (tgt : Nat) (d : decode cc pc = .ok (.if_icmp .ne off, 3)) (ht : (pc : Int) + off = (tgt : Int)) (hx : r32 x) (hy : r32 y) (kt : ¬ x = y → JJ G X k n mem tgt lo st) (kf : x = y → JJ G X k n mem (pc + 3) lo st) : JJ G X k n mem pc lo (vi y :: vi x :: st) := by
  obtain ⟨p, l, e, R, s, m, args, below, meth, c, A, Q⟩ := X
  intro H locs ls hP hS hL
  exact lv_icmp_ne h.1 h.2.1 d ht (fun q => kt (fun z => q ((r32_eq hx hy).mpr z)) H locs ls hP hS hL) (fun q => kf ((r32_eq hx hy).mp q) H locs ls hP hS hL)
theorem jj_if_ne (h : OK G X cc own nL) {x off : Int} (tgt : Nat) (d : decode cc pc = .ok (.ifCond .ne off, 3)) (ht : (pc : Int) + off = (tgt : Int)) (hx : r32 x) (kt : ¬ x = 0 → JJ G X k n mem tgt lo st) (kf : x = 0 → JJ G X k n mem (pc + 3) lo st) : JJ G X k n mem pc lo (vi x :: st) := by
  obtain ⟨p, l, e, R, s, m, args, below, meth, c, A, Q⟩ := X
  intro H locs ls hP hS hL
  exact lv_if_ne h.1 h.2.1 d ht (fun q => kt (fun z => q ((r32_eq hx r32_0).mpr z)) H locs ls hP hS hL) (fun q => kf ((r32_eq hx r32_0).mp q) H locs ls hP hS hL)
theorem jj_icmp_lt (h : OK G X cc own nL) {x y off : Int} (tgt : Nat) (d : decode cc pc = .ok (.if_icmp .lt off, 3)) (ht : (pc : Int) + off = (tgt : Int)) (hx : r32 x) (hy : r32 y) (kt : x < y → JJ G X k n mem tgt lo st) (kf : ¬ (x < y) → JJ G X k n mem (pc + 3) lo st) : JJ G X k n mem pc lo (vi y :: vi x :: st) := by
  obtain ⟨p, l, e, R, s, m, args, below, meth, c, A, Q⟩ := X
  intro H locs ls hP hS hL
  exact lv_icmp_lt h.1 h.2.1 d ht (fun q => kt ((r32_lt hx hy).mp q) H locs ls hP hS hL) (fun q => kf (fun z => q ((r32_lt hx hy).mpr z)) H locs ls hP hS hL)
theorem jj_if_lt (h : OK G X cc own nL) {x off : Int} (tgt : Nat) (d : decode cc pc = .ok (.ifCond .lt off, 3)) (ht : (pc : Int) + off = (tgt : Int)) (hx : r32 x) (kt : x < 0 → JJ G X k n mem tgt lo st) (kf : ¬ (x < 0) → JJ G X k n mem (pc + 3) lo st) : JJ G X k n mem pc lo (vi x :: st) := by
  obtain ⟨p, l, e, R, s, m, args, below, meth, c, A, Q⟩ := X
  intro H locs ls hP hS hL
  exact lv_if_lt h.1 h.2.1 d ht (fun q => kt ((r32_lt hx r32_0).mp q) H locs ls hP hS hL) (fun q => kf (fun z => q ((r32_lt hx r32_0).mpr z)) H locs ls hP hS hL)
theorem jj_icmp_ge (h : OK G X cc own nL) {x y off : Int} (tgt : Nat) (d : decode cc pc = .ok (.if_icmp .ge off, 3)) (ht : (pc : Int) + off = (tgt : Int)) (hx : r32 x) (hy : r32 y) (kt : y ≤ x → JJ G X k n mem tgt lo st) (kf : ¬ (y ≤ x) → JJ G X k n mem (pc + 3) lo st) : JJ G X k n mem pc lo (vi y :: vi x :: st) := by
  obtain ⟨p, l, e, R, s, m, args, below, meth, c, A, Q⟩ := X
  intro H locs ls hP hS hL
  exact lv_icmp_ge h.1 h.2.1 d ht (fun q => kt ((r32_le hy hx).mp q) H locs ls hP hS hL) (fun q => kf (fun z => q ((r32_le hy hx).mpr z)) H locs ls hP hS hL)
theorem jj_if_ge (h : OK G X cc own nL) {x off : Int} (tgt : Nat) (d : decode cc pc = .ok (.ifCond .ge off, 3)) (ht : (pc : Int) + off = (tgt : Int)) (hx : r32 x) (kt : 0 ≤ x → JJ G X k n mem tgt lo st) (kf : ¬ (0 ≤ x) → JJ G X k n mem (pc + 3) lo st) : JJ G X k n mem pc lo (vi x :: st) := by
  obtain ⟨p, l, e, R, s, m, args, below, meth, c, A, Q⟩ := X
  intro H locs ls hP hS hL
  exact lv_if_ge h.1 h.2.1 d ht (fun q => kt ((r32_le r32_0 hx).mp q) H locs ls hP hS hL) (fun q => kf (fun z => q ((r32_le r32_0 hx).mpr z)) H locs ls hP hS hL)
theorem jj_icmp_gt (h : OK G X cc own nL) {x y off : Int} (tgt : Nat) (d : decode cc pc = .ok (.if_icmp .gt off, 3)) (ht : (pc : Int) + off = (tgt : Int)) (hx : r32 x) (hy : r32 y) (kt : y < x → JJ G X k n mem tgt lo st) (kf : ¬ (y < x) → JJ G X k n mem (pc + 3) lo st) : JJ G X k n mem pc lo (vi y :: vi x :: st) := by
  obtain ⟨p, l, e, R, s, m, args, below, meth, c, A, Q⟩ := X
  intro H locs ls hP hS hL
  exact lv_icmp_gt h.1 h.2.1 d ht (fun q => kt ((r32_lt hy hx).mp q) H locs ls hP hS hL) (fun q => kf (fun z => q ((r32_lt hy hx).mpr z)) H locs ls hP hS hL)
theorem jj_if_gt (h : OK G X cc own nL) {x off : Int} (tgt : Nat) (d : decode cc pc = .ok (.ifCond .gt off, 3)) (ht : (pc : Int) + off = (tgt : Int)) (hx : r32 x) (kt : 0 < x → JJ G X k n mem tgt lo st) (kf : ¬ (0 < x) → JJ G X k n mem (pc + 3) lo st) : JJ G X k n mem pc lo (vi x :: st) := by
  obtain ⟨p, l, e, R, s, m, args, below, meth, c, A, Q⟩ := X
  intro H locs ls hP hS hL
  exact lv_if_gt h.1 h.2.1 d ht (fun q => kt ((r32_lt r32_0 hx).mp q) H locs ls hP hS hL) (fun q => kf (fun z => q ((r32_lt r32_0 hx).mpr z)) H locs ls hP hS hL)
theorem jj_icmp_le (h : OK G X cc own nL) {x y off : Int} (tgt : Nat) (d : decode cc pc = .ok (.if_icmp .le off, 3)) (ht : (pc : Int) + off = (tgt : Int)) (hx : r32 x) (hy : r32 y) (kt : x ≤ y → JJ G X k n mem tgt lo st) (kf : ¬ (x ≤ y) → JJ G X k n mem (pc + 3) lo st) : JJ G X k n mem pc lo (vi y :: vi x :: st) := by
  obtain ⟨p, l, e, R, s, m, args, below, meth, c, A, Q⟩ := X
  intro H locs ls hP hS hL
  exact lv_icmp_le h.1 h.2.1 d ht (fun q => kt ((r32_le hx hy).mp q) H locs ls hP hS hL) (fun q => kf (fun z => q ((r32_le hx hy).mpr z)) H locs ls hP hS hL)
theorem jj_if_le (h : OK G X cc own nL) {x off : Int} (tgt : Nat) (d : decode cc pc = .ok (.ifCond .le off, 3)) (ht : (pc : Int) + off = (tgt : Int)) (hx : r32 x) (kt : x ≤ 0 → JJ G X k n mem tgt lo st) (kf : ¬ (x ≤ 0) → JJ G X k n mem (pc + 3) lo st) : JJ G X k n mem pc lo (vi x :: st) := by
  obtain ⟨p, l, e, R, s, m, args, below, meth, c, A, Q⟩ := X
  intro H locs ls hP hS hL
  exact lv_if_le h.1 h.2.1 d ht (fun q => kt ((r32_le hx r32_0).mp q) H locs ls hP hS hL) (fun q => kf (fun z => q ((r32_le hx r32_0).mpr z)) H locs ls hP hS hL)
end JJRows
end
section
/-! Fields, arrays, ends and calls in the judgement JJ; contracts of methods over the world. -/
theorem vp_in_z {z : Int} {N : Nat} (h0 : 0 ≤ z) (h1 : z < N) (hN : N < 2147483648) : vp_in (Int32.ofInt z) N ∧ (Int32.ofInt z).toNatClampNeg = z.toNat := by
  have e : (Int32.ofInt z).toInt = z := r32_to ⟨by omega, by omega⟩
  refine ⟨vp_in_iff.mpr ⟨by rw [e]; exact h0, by rw [e]; exact h1⟩, ?_⟩
  show (Int32.ofInt z).toInt.toNat = z.toNat
  rw [e]
section JJFields
variable {G : mt_G} {X : mt_X} {cc : ByteArray} {own : String} {nL k n : Nat} {mem : mt_M} {pc : Nat} {lo : List (Option Value)} {st : List Value}
theorem jj_get (h : OK G X cc own nL) {r ci kf idx N : Nat} {fs : List Value} {v : Value} {C : String} {T : u_T} (hr : r < mt_N) (hc : ce_ G (mem r) r = .inr (ci, fs)) (hcl : vwCl[ci]? = some (C, T, N)) (hv : fs[kf]? = some v) (F : fk_ own idx C T N kf) (d : decode cc pc = .ok (.getfield idx, 3)) (kk : JJ G X k n mem (pc + 3) lo (v :: st)) : JJ G X k n mem pc lo (vr G r :: st) := by
  obtain ⟨p, l, e, R, s, m, args, below, meth, c, A, Q⟩ := X
  intro H locs ls hP hS hL
  exact va_get h.1 h.2.1 h.2.2.2.2.1 F.1 h.2.2.2.1 h.2.2.2.2.2.1 hP r (fs := fs) (by rw [wd_get hr, hc]) hcl kf F.2.1 (h.2.2.2.2.1 _ F.2.2) (fun _ q => q) hv d (kk H locs ls hP hS hL)
theorem jj_put (h : OK G X cc own nL) {r ci kf idx N : Nat} {fs : List Value} {z zk : Int} {C : String} {T : u_T} {t0 : Nat → FieldType} {ty : FieldType} (hr : r < mt_N) (hc : ce_ G (mem r) r = .inr (ci, fs)) (hcl : vwCl[ci]? = some (C, T, N)) (hl : kf < fs.length) (hc' : ce_ G (fun z' => if z' = zk then z else mem r z') r = .inr (ci, fs.set kf (vi z))) (F : fk_ own idx C T N kf) (F2 : fp_ T N kf t0) (hty : parseFieldDescriptor (T kf).2.2.1 = some ty) (hn : narrow ty (vi z) = vi z) (hf : fits ty (vi z) = true) (d : decode cc pc = .ok (.putfield idx, 3)) (kk : JJ G X k n (st_ mem r zk z) (pc + 3) lo st) : JJ G X k n mem pc lo (vi z :: vr G r :: st) := by
  obtain ⟨p, l, e, R, s, m, args, below, meth, c, A, Q⟩ := X
  intro H locs ls hP hS hL
  have hD : va_D A (wd G mem) := wd_D h.2.2.2.2.2.2.1 h.2.2.2.2.2.2.2.1
  refine va_put (ty := ty) h.1 h.2.1 h.2.2.2.2.1 F.1 t0 F2.1 F2.2.1 h.2.2.2.1 h.2.2.2.2.2.1 hP hD hS r (fs := fs) (by rw [wd_get hr, hc]) hcl kf F.2.1 (h.2.2.2.2.1 _ F.2.2) (fun _ q => q) F2.2.2 hty hn hf hl d (fun H1 locs1 hP1 _ hS1 => ?_)
  rw [← hc', wd_set hr] at hP1
  exact kk H1 locs1 ls hP1 hS1 hL
/-- an array of ints: element z -/
theorem jj_iaload (h : OK G X cc own nL) {r N : Nat} {z : Int} (hr : r < mt_N) (hc : ce_ G (mem r) r = .inl (G.2.2.1 0, N, .inl (fun j => Int32.ofInt (mem r (j : Int))))) (hN : N < 2147483648) (h0 : 0 ≤ z) (h1 : z < N) (d : decode cc pc = .ok (.iaload, 1)) (kk : JJ G X k n mem (pc + 1) lo (vi (mem r z) :: st)) : JJ G X k n mem pc lo (vi z :: vr G r :: st) := by
  obtain ⟨p, l, e, R, s, m, args, below, meth, c, A, Q⟩ := X
  intro H locs ls hP hS hL
  obtain ⟨q1, q2⟩ := vp_in_z h0 h1 hN
  refine va_iald h.1 h.2.1 h.2.2.2.2.2.1 hP r 0 (by rw [wd_get hr, hc]) rfl q1 d ?_
  have q := kk H locs ls hP hS hL
  show W p l e R s m args below meth c H locs k n Q (F0 m (pc + 1) ls (.int (Int32.ofInt (mem r (((Int32.ofInt z).toNatClampNeg : Nat) : Int))) :: st))
  rw [q2, Int.toNat_of_nonneg h0]
  exact q
theorem jj_iastore (h : OK G X cc own nL) {r N : Nat} {z x : Int} (hr : r < mt_N) (hc : ∀ f : Int → Int, ce_ G f r = .inl (G.2.2.1 0, N, .inl (fun j => Int32.ofInt (f (j : Int))))) (hN : N < 2147483648) (h0 : 0 ≤ z) (h1 : z < N) (d : decode cc pc = .ok (.iastore, 1)) (kk : JJ G X k n (st_ mem r z x) (pc + 1) lo st) : JJ G X k n mem pc lo (vi x :: vi z :: vr G r :: st) := by
  obtain ⟨p, l, e, R, s, m, args, below, meth, c, A, Q⟩ := X
  intro H locs ls hP hS hL
  have hD : va_D A (wd G mem) := wd_D h.2.2.2.2.2.2.1 h.2.2.2.2.2.2.2.1
  obtain ⟨q1, q2⟩ := vp_in_z h0 h1 hN
  refine va_iast h.1 h.2.1 h.2.2.2.2.2.1 hP hD hS r 0 (by rw [wd_get hr, hc]) rfl q1 d (fun H1 locs1 hP1 _ hS1 => ?_)
  have e9 : (Sum.inl (G.2.2.1 0, N, Sum.inl (upd (fun j => Int32.ofInt (mem r ((j : Nat) : Int))) (Int32.ofInt z).toNatClampNeg (Int32.ofInt x))) : va_E) = ce_ G (fun z' => if z' = z then x else mem r z') r := by
    rw [hc, q2]
    congr 4
    funext j
    unfold upd
    by_cases e : j = z.toNat
    · rw [if_pos e, if_pos (by rw [e, Int.toNat_of_nonneg h0])]
    · rw [if_neg e, if_neg (by intro q; exact e (by omega))]
  rw [e9, wd_set hr] at hP1
  exact kk H1 locs1 ls hP1 hS1 hL
theorem jj_alen (h : OK G X cc own nL) {r : Nat} {x : vp_A} {t0 : Nat} {cA : ClassId} {ty : FieldType} (hr : r < mt_N) (hc : ce_ G (mem r) r = .inl (cA, x)) (ht : (ty_ G)[t0]? = some (cA, ty)) (d : decode cc pc = .ok (.arraylength, 1)) (kk : JJ G X k n mem (pc + 1) lo (vi (x.1 : Int) :: st)) : JJ G X k n mem pc lo (vr G r :: st) := by
  obtain ⟨p, l, e, R, s, m, args, below, meth, c, A, Q⟩ := X
  intro H locs ls hP hS hL
  exact va_alen h.1 h.2.1 h.2.2.2.2.2.1 hP r t0 (by rw [wd_get hr, hc]) ht (by rw [← Int32.ofInt_eq_ofNat]) d (kk H locs ls hP hS hL)
/-- an array of references -/
theorem jj_aaload (h : OK G X cc own nL) {r N t0 : Nat} {z : Int} {g : Nat → Option Nat} {cA : ClassId} {C : String} {q9 : Nat} (hr : r < mt_N) (hc : ce_ G (mem r) r = .inl (cA, N, .inr (.inr (.inr (.inr g))))) (ht : (ty_ G)[t0]? = some (cA, .object C)) (hN : N < 2147483648) (h0 : 0 ≤ z) (h1 : z < N) (hg : g z.toNat = some (G.1 q9)) (d : decode cc pc = .ok (.aaload, 1)) (kk : JJ G X k n mem (pc + 1) lo (vr G q9 :: st)) : JJ G X k n mem pc lo (vi z :: vr G r :: st) := by
  obtain ⟨p, l, e, R, s, m, args, below, meth, c, A, Q⟩ := X
  intro H locs ls hP hS hL
  obtain ⟨q1, q2⟩ := vp_in_z h0 h1 hN
  refine va_aldq h.1 h.2.1 h.2.2.2.2.2.1 hP r t0 (by rw [wd_get hr, hc]) ht q1 d ?_
  rw [q2, hg]
  exact kk H locs ls hP hS hL
end JJFields
/-- a method's end: what it answers and the world behind it -/
def Qc_ (G : mt_G) (P : Option Value → mt_M → Prop) (A : Nat → Prop) : Array Value → State → Outcome → State → Prop := fun _ s o t => (∃ (v : Option Value) (mem' : mt_M), o = .returned v ∧ P v mem' ∧ va_P G.2.1 vwCl (wd G mem') t.heap) ∧ va_F A s t
def Pw_ (G : mt_G) (mem : mt_M) (sz : Nat) (U : State) : Prop := U.heap.size = sz ∧ va_P G.2.1 vwCl (wd G mem) U.heap ∧ va_K G.2.1 vwCl (ty_ G) U ∧ in_ G ∧ Ex_ G (As_ G sz) U U.heap
def rm_ (d : Nat) : Room := { frames := d, cells := 0, slots := 0, locals := 64 * d }
/-- the contract of a method: started with the values vs over mem, it returns v over mem' with P v mem'; d: how deep its calls go -/
def CT (G : mt_G) (l : Launch) (y : MethodName) (cc : ByteArray) (nL : Nat) (ret : Option FieldType) (d : Nat) (vs : List Value) (mem : mt_M) (P : Option Value → mt_M → Prop) : Prop :=
  ∀ sz : Nat, Met l y (Cond.code y cc nL ret :: mt_T) (rm_ d) (va_Pc vs (Pw_ G mem sz)) (Qc_ G P (As_ G sz)) 0 0 (As_ G sz)
/-- what a body knows of its end -/
def OE (G : mt_G) (X : mt_X) (ret : Option FieldType) (d : Nat) (P : Option Value → mt_M → Prop) : Prop := match X with
  | (_, _, _, R, s, _, args, below, meth, _, A, Q) => Q = MQ below (Qc_ G P A) args s 0 0 A ∧ meth.sig.returnType = ret ∧ meth.locks = false ∧ R = rm_ d
/-- the locals at a method's entry -/
def lo0 (vs : List Value) (nL : Nat) : List (Option Value) := (lg_sl vs ++ List.replicate (nL - (lg_sl vs).length) Slot.unset).map (fun x => match x with
  | .val v => some v
  | _ => none)
theorem lo0_ok (vs : List Value) {nL : Nat} (h : (lg_sl vs).length ≤ nL) : lo_ ((lg_sl vs ++ List.replicate (nL - (lg_sl vs).length) Slot.unset).toArray) (lo0 vs nL) := by
  have q := lv_entry vs h
  refine ⟨by simp [lo0], q.2.1, fun i v hi => ?_⟩
  unfold lo0 at hi
  rw [List.getElem?_map] at hi
  rw [List.getElem?_toArray]
  cases hx : (lg_sl vs ++ List.replicate (nL - (lg_sl vs).length) Slot.unset)[i]? with
  | none => rw [hx] at hi; cases hi
  | some x =>
    rw [hx] at hi
    cases x with
    | unset => cases hi
    | second => cases hi
    | val w =>
      have : w = v := Option.some.inj (Option.some.inj hi)
      rw [this]
theorem CT.intro {G : mt_G} {l : Launch} {y : MethodName} {cc : ByteArray} {nL : Nat} {ret : Option FieldType} {d : Nat} {vs : List Value} {mem : mt_M} {P : Option Value → mt_M → Prop} {own : String} (hpl : plainName y.cls = true) (hown : y.cls = own) (hlen : (lg_sl vs).length ≤ nL)
    (body : ∀ X : mt_X, OK G X cc own nL → OE G X ret d P → JJ G X 0 0 mem 0 (lo0 vs nL) []) : CT G l y cc nL ret d vs mem P := by
  intro sz
  refine Met.ofW (cc := cc) (maxL := nL) (ret := ret) hpl rfl ?_
  intro p e s m args below meth c s₁ B hml hv
  obtain ⟨rfl, hsz, hP, hK, hi, hE⟩ := hv
  have hts := atoms_spec (ws := Cond.code y cc nL ret :: mt_T) B.pre
  have hown9 : s.vm.findClass y.cls = some m.cls := findClass_of_methodNamed B.named
  rw [hown] at hown9
  subst hsz
  rw [lg_entry_eq]
  have hb := body (p, l, e, rm_ d, s, m, vs.toArray, below, meth, c, As_ G s.heap.size, MQ below (Qc_ G P (As_ G s.heap.size)) vs.toArray s 0 0 (As_ G s.heap.size))
    ⟨B.exec, B.bytes, hml, hown9, fun w hw => hts w (List.mem_cons_of_mem _ hw), hK, hi, fun r hr => Or.inl ⟨r, hr, rfl⟩, fun q hq => Or.inr hq, hE⟩ ⟨rfl, B.returns, B.notSynchronized, rfl⟩
  exact hb s.heap [] _ hP va_S.rf (lo0_ok vs hlen)
section JJEnds
variable {G : mt_G} {X : mt_X} {cc : ByteArray} {own : String} {nL : Nat} {mem : mt_M} {pc : Nat} {lo : List (Option Value)} {ret : Option FieldType} {d : Nat} {P : Option Value → mt_M → Prop}
theorem jj_iret (h : OK G X cc own nL) (he : OE G X (some .int) d P) {z : Int} (hd : decode cc pc = .ok (.ireturn, 1)) (hp : P (some (vi z)) mem) : JJ G X 0 0 mem pc lo [vi z] := by
  obtain ⟨p, l, e, R, s, m, args, below, meth, c, A, Q⟩ := X
  intro H locs ls hP hS hL
  obtain ⟨rfl, hr, hlk, hR⟩ := he
  exact W.iret h.1 h.2.1 hr (fun t ht9 _ => ⟨⟨some (vi z), mem, rfl, hp, by rw [ht9]; exact hP⟩, hS.F ht9⟩) hS.2.2 hd hlk
theorem jj_zret (h : OK G X cc own nL) (he : OE G X (some .boolean) d P) {z : Int} (hz : z = 0 ∨ z = 1) (hd : decode cc pc = .ok (.ireturn, 1)) (hp : P (some (vi z)) mem) : JJ G X 0 0 mem pc lo [vi z] := by
  obtain ⟨p, l, e, R, s, m, args, below, meth, c, A, Q⟩ := X
  intro H locs ls hP hS hL
  obtain ⟨rfl, hr, hlk, hR⟩ := he
  exact W.zret h.1 h.2.1 hr (by rcases hz with rfl | rfl <;> decide) (fun t ht9 _ => ⟨⟨some (vi z), mem, rfl, hp, by rw [ht9]; exact hP⟩, hS.F ht9⟩) hS.2.2 hd hlk
theorem jj_cret (h : OK G X cc own nL) (he : OE G X (some .char) d P) {z : Int} (hz : narrow .char (vi z) = vi z) (hd : decode cc pc = .ok (.ireturn, 1)) (hp : P (some (vi z)) mem) : JJ G X 0 0 mem pc lo [vi z] := by
  obtain ⟨p, l, e, R, s, m, args, below, meth, c, A, Q⟩ := X
  intro H locs ls hP hS hL
  obtain ⟨rfl, hr, hlk, hR⟩ := he
  exact W.zret h.1 h.2.1 hr hz (fun t ht9 _ => ⟨⟨some (vi z), mem, rfl, hp, by rw [ht9]; exact hP⟩, hS.F ht9⟩) hS.2.2 hd hlk
theorem jj_vret (h : OK G X cc own nL) (he : OE G X none d P) (hd : decode cc pc = .ok (.return_, 1)) (hp : P (none) mem) : JJ G X 0 0 mem pc lo [] := by
  obtain ⟨p, l, e, R, s, m, args, below, meth, c, A, Q⟩ := X
  intro H locs ls hP hS hL
  obtain ⟨rfl, hr, hlk, hR⟩ := he
  exact W.vret h.1 h.2.1 hr (fun t ht9 _ => ⟨⟨none, mem, rfl, hp, by rw [ht9]; exact hP⟩, hS.F ht9⟩) hS.2.2 hd hlk
theorem jj_aret (h : OK G X cc own nL) {rt : FieldType} (he : OE G X (some rt) d P) {v : Value} (hrt : ∃ n, rt = .object n) (hv : v = .null ∨ ∃ a, v = .ref a) (hd : decode cc pc = .ok (.areturn, 1)) (hp : P (some v) mem) : JJ G X 0 0 mem pc lo [v] := by
  obtain ⟨p, l, e, R, s, m, args, below, meth, c, A, Q⟩ := X
  intro H locs ls hP hS hL
  obtain ⟨rfl, hr, hlk, hR⟩ := he
  exact W.aret h.1 h.2.1 hr (Or.inl hrt) hv (fun t ht9 _ => ⟨⟨some v, mem, rfl, hp, by rw [ht9]; exact hP⟩, hS.F ht9⟩) hS.2.2 hd hlk
end JJEnds
/-- the words of the tables are good words -/
theorem gd_ {ws : List Cond} (h : ∀ w ∈ ws, w ∈ mt_T) : GoodIn mt_T ws := fun w hw => ⟨h w hw, good_of_word (List.mem_filter.mp (h w hw)).2⟩
theorem gd_T {ws : List Cond} (h : ∀ w ∈ ws, w ∈ mt_T) : ∀ w ∈ ws ++ mt_T, w ∈ mt_T := fun w hw => (List.mem_append.mp hw).elim (h w) id
theorem Pw_blind {G : mt_G} {mem : mt_M} {sz : Nat} {vs : List Value} : FrameBlind (va_Pc vs (Pw_ G mem sz)) := fun a U g mk q => by
  obtain ⟨q0, q1, qP, qK, qi, qE⟩ := q
  exact ⟨q0, q1, qP, va_K.moved (u := U) (U := U.calling g mk a) (Vm.Alike.refl U.vm) qK, qi, Ex_.same (u := U) (U := U.calling g mk a) rfl qE⟩
section JJCalls
variable {G : mt_G} {X : mt_X} {cc : ByteArray} {own : String} {nL k n : Nat} {mem : mt_M} {pc : Nat} {lo : List (Option Value)} {st : List Value}
variable {y : MethodName} {c1 : ByteArray} {nL1 d1 np idx : Nat} {ret : Option FieldType} {vs : List Value} {P : Option Value → mt_M → Prop}
/-- room for a callee of depth d1 -/
def ro_ (X : mt_X) (d1 nL1 k n : Nat) : Prop := match X with
  | (_, _, _, R, _, _, _, _, _, _, _, _) => d1 + 1 ≤ R.frames ∧ 8 + (nL1 + 11) + 64 * d1 ≤ R.locals ∧ k ≤ R.cells ∧ n ≤ R.slots
theorem ro_of {ret' : Option FieldType} {d : Nat} {P' : Option Value → mt_M → Prop} (he : OE G X ret' d P') (hd : d1 < d) (hL : nL1 ≤ 45) : ro_ X d1 nL1 0 0 := by
  obtain ⟨p, l, e, R, s, m, args, below, meth, c, A, Q⟩ := X
  obtain ⟨-, -, -, rfl⟩ := he
  exact ⟨hd, by show 8 + (nL1 + 11) + 64 * d1 ≤ 64 * d; omega, Nat.le_refl _, Nat.le_refl _⟩
theorem As_in {A : Nat → Prop} {s : State} {H : Heap} {locs : List Loc} (hA : ∀ r, r < mt_N → A (G.1 r)) (hN : ∀ q : Nat, s.heap.size ≤ q → A q) (hS : va_S A s.heap H locs) : ∀ q, As_ G H.size q → A q := by
  intro q hq
  rcases hq with ⟨r, hr, rfl⟩ | hq
  · exact hA r hr
  · exact hN q (Nat.le_trans hS.1 hq)
/-- what a callee finds -/
theorem Pw_call {s U : State} {H : Heap} {A : Nat → Prop} {locs : List Loc} (hP : va_P G.2.1 vwCl (wd G mem) H) (hK : va_K G.2.1 vwCl (ty_ G) s) (hi : in_ G) (hA : ∀ r, r < mt_N → A (G.1 r)) (hN : ∀ q : Nat, s.heap.size ≤ q → A q) (hE : Ex_ G A s s.heap) (hS : va_S A s.heap H locs) (hU : U.heap = H) (hW : s.WarmedH U.vm) : Pw_ G mem H.size U := by
  refine ⟨by rw [hU], by rw [hU]; exact hP, va_K.moved hW.alike hK, hi, ?_⟩
  rw [hU]
  exact Ex_.narrow (Ex_.warm hW (Ex_.kept hE hS.2.1)) (As_in hA hN hS)
/-- behind a call -/
theorem jj_back {p : Program} {l : Launch} {e : Env} {R : Room} {s : State} {m : MethodId} {args : Array Value} {below : List Frame} {meth : Method} {c : Code} {A : Nat → Prop} {Q : State → Prop} {a : Array Value} {st0 : List Value} {H : Heap} {locs : List Loc} {ls : Array Slot} {T : State}
    (hA : ∀ r, r < mt_N → A (G.1 r)) (hN : ∀ q : Nat, s.heap.size ≤ q → A q) (hS : va_S A s.heap H locs) (hL : lo_ ls lo) (hT : T.heap = H) (Z : Stand p l e R s m args below meth c T locs k n)
    (run : va_Run p l e R s m args below meth c H locs k n 0 0 (F0 m pc ls st0) st (Qc_ G P (As_ G H.size) a) (As_ G H.size))
    (kk : ∀ (v : Option Value) (mem' : mt_M), P v mem' → JJ G (p, l, e, R, s, m, args, below, meth, c, A, Q) k n mem' (pc + 3) lo (v.toList ++ st)) :
    ∃ t, Steps p.tables e below (T.setTop (F0 m pc ls st0)) t ∧ Q t := by
  have hin := As_in hA hN hS
  obtain ⟨v, st₀, t, T', L, h0, X', hL', e1, e2, ⟨⟨v', mem', hv, hp, hb⟩, hz, hk⟩, stp⟩ := run T hT Z
  cases hv
  rw [h0] at hz hk
  obtain ⟨t2, a1, b1⟩ := kk v mem' hp T'.heap (locs ++ L) ls (by rw [e1]; exact hb)
    ⟨Nat.le_trans hS.1 (by rw [e1]; exact hz), fun q h1 h2 => by rw [e1, hk q (Nat.lt_of_lt_of_le h1 hS.1) (fun z => h2 (hin q z))]; exact hS.2.1 q h1 h2, fun q hq => by
      rcases List.mem_append.mp hq with h | h
      · exact hS.2.2 q h
      · exact hin _ (hL' q h)⟩ hL T' rfl X'
  exact ⟨t2, stp t2 a1, b1⟩
theorem cV_good {own : String} {idx : Nat} {y : MethodName} {cc : ByteArray} {nL : Nat} {ret : Option FieldType} {n : Nat} (hw : cV_ own idx y cc nL ret n) : GoodIn mt_T (wsV own idx y.cls y (Cond.code y cc nL ret :: mt_T)) := by
  refine gd_ (fun w h => ?_)
  unfold wsV at h
  rcases List.mem_append.mp h with h | h
  · exact hw.1 w (List.mem_append_left [_] h)
  · rcases List.mem_cons.mp h with rfl | h
    · exact hw.1 _ (List.mem_append_right [_, _, _, _] (List.mem_singleton.mpr rfl))
    · exact h
theorem cS_good {own : String} {idx : Nat} {y : MethodName} {cc : ByteArray} {nL : Nat} {ret : Option FieldType} {n : Nat} (hw : cS_ own idx y cc nL ret n) : GoodIn mt_T (wsS own idx y (Cond.code y cc nL ret :: mt_T)) := by
  refine gd_ (fun w h => ?_)
  unfold wsS at h
  rcases List.mem_append.mp h with h | h
  · exact hw.1 w (List.mem_append_left [_] h)
  · rcases List.mem_cons.mp h with rfl | h
    · exact hw.1 _ (List.mem_append_right [_, _, _] (List.mem_singleton.mpr rfl))
    · exact h
theorem jj_callV (h : OK G X cc own nL) {r ci N : Nat} {fs : List Value} {T : u_T} {st0 : List Value} (C : CT G X.2.1 y c1 nL1 ret d1 (vr G r :: vs) mem P) (hw : cV_ own idx y c1 nL1 ret np) (hro : ro_ X d1 nL1 k n) (hl : lo.length = nL) (hn : vs.length = np) (hr : r < mt_N) (hc : ce_ G (mem r) r = .inr (ci, fs)) (hcl : vwCl[ci]? = some (y.cls, T, N)) (hst : st0 = vs.reverse ++ vr G r :: st) (hcat : (st.map fun v => v.category).sum ≤ 8) (d : decode cc pc = .ok (.invokevirtual idx, 3))
    (kk : ∀ (v : Option Value) (mem' : mt_M), P v mem' → JJ G X k n mem' (pc + 3) lo (v.toList ++ st)) : JJ G X k n mem pc lo st0 := by
  obtain ⟨p, l, e, R, s, m, args, below, meth, c, A, Q⟩ := X
  subst hst
  intro H locs ls hP hS hL T hT Z
  obtain ⟨hx, hb, hml, ho, hts, hK, hi, hA, hN, hE⟩ := h
  exact jj_back hA hN hS hL hT Z (va_runV (nL := nL) (Ts := mt_T) (own := own) (C := y.cls) (b := G.1 r) (As := vs) (n := np) ⟨hx, hb, hml, ho, hts⟩ (C H.size) (cwV np hts (cV_good hw) rfl rfl rfl ⟨rfl, hw.2⟩ ⟨hro.1, hro.2.1⟩)
    ⟨Pw_blind, va_recv hK hP hcl (by rw [wd_get hr, hc]), fun U hU hW => ⟨rfl, Pw_call hP hK hi hA hN hE hS hU hW⟩⟩ rfl hn (hL.1.trans hl) rfl (lv_room hcat) d ⟨hro.2.2.1, hro.2.2.2⟩) kk
theorem jj_callS (h : OK G X cc own nL) {st0 : List Value} (C : CT G X.2.1 y c1 nL1 ret d1 vs mem P) (hw : cS_ own idx y c1 nL1 ret np) (hro : ro_ X d1 nL1 k n) (hl : lo.length = nL) (hn : vs.length = np) (hst : st0 = vs.reverse ++ st) (hcat : (st.map fun v => v.category).sum ≤ 8) (d : decode cc pc = .ok (.invokestatic idx, 3))
    (kk : ∀ (v : Option Value) (mem' : mt_M), P v mem' → JJ G X k n mem' (pc + 3) lo (v.toList ++ st)) : JJ G X k n mem pc lo st0 := by
  obtain ⟨p, l, e, R, s, m, args, below, meth, c, A, Q⟩ := X
  subst hst
  intro H locs ls hP hS hL T hT Z
  obtain ⟨hx, hb, hml, ho, hts, hK, hi, hA, hN, hE⟩ := h
  exact jj_back hA hN hS hL hT Z (va_runS (nL := nL) (Ts := mt_T) (own := own) (As := vs) (n := np) ⟨hx, hb, hml, ho, hts⟩ (C H.size) (cwS np hts (cS_good hw) rfl rfl rfl ⟨hw.2.1, hw.2.2⟩ ⟨hro.1, hro.2.1⟩)
    ⟨Pw_blind, fun U hU hW => ⟨rfl, Pw_call hP hK hi hA hN hE hS hU hW⟩⟩ rfl hn (hL.1.trans hl) rfl (lv_room hcat) d ⟨hro.2.2.1, hro.2.2.2⟩) kk
theorem jj_callN (h : OK G X cc own nL) {st0 : List Value} (C : CT G X.2.1 y c1 nL1 ret d1 vs mem P) (hw : cN_ own idx y c1 nL1 ret np) (hro : ro_ X d1 nL1 k n) (hl : lo.length = nL) (hn : vs.length = np) (hst : st0 = vs.reverse ++ st) (hcat : (st.map fun v => v.category).sum ≤ 8) (d : decode cc pc = .ok (.invokestatic idx, 3))
    (kk : ∀ (v : Option Value) (mem' : mt_M), P v mem' → JJ G X k n mem' (pc + 3) lo (v.toList ++ st)) : JJ G X k n mem pc lo st0 := by
  obtain ⟨p, l, e, R, s, m, args, below, meth, c, A, Q⟩ := X
  subst hst
  intro H locs ls hP hS hL T hT Z
  obtain ⟨hx, hb, hml, ho, hts, hK, hi, hA, hN, hE⟩ := h
  obtain ⟨hw1, hw2, host, hw3⟩ := hw
  exact jj_back hA hN hS hL hT Z (va_runSN (nL := nL) (Ts := mt_T) (own := own) (host := host) (As := vs) (n := np) ⟨hx, hb, hml, ho, hts⟩ (C H.size)
    ⟨va_cnB np hts (gd_ (fun w hw => (List.mem_cons.mp hw).elim (fun q => by rw [q]; exact hw1 _ (List.mem_append_right [_, _] (List.mem_singleton.mpr rfl))) id)) rfl rfl rfl (hE.1 _ hw3) (hts _ (hw1 _ (List.mem_cons_of_mem _ List.mem_cons_self))) hw2 ⟨hro.1, hro.2.1⟩, hts _ (hw1 _ List.mem_cons_self), trivial⟩
    ⟨Pw_blind, fun U hU hW => ⟨rfl, Pw_call hP hK hi hA hN hE hS hU hW⟩⟩ rfl hn (hL.1.trans hl) rfl (lv_room hcat) d ⟨hro.2.2.1, hro.2.2.2⟩) kk
end JJCalls
end
section
/-! Rows of the fields of the world. -/
section JJG
variable {G : mt_G} {X : mt_X} {cc : ByteArray} {own : String} {nL k n : Nat} {mem : mt_M} {pc idx : Nat} {lo : List (Option Value)} {st : List Value}
theorem jj_g_X_message (h : OK G X cc own nL) (F : fk_ own idx R_X T_X 4 0) (d : decode cc pc = .ok (.getfield idx, 3)) (kk : JJ G X k n mem (pc + 3) lo (vr G 1 :: st)) : JJ G X k n mem pc lo (vr G 0 :: st) := jj_get h (by decide) rfl rfl rfl F d kk
theorem jj_g_X_latest (h : OK G X cc own nL) (F : fk_ own idx R_X T_X 4 1) (d : decode cc pc = .ok (.getfield idx, 3)) (kk : JJ G X k n mem (pc + 3) lo (vr G 2 :: st)) : JJ G X k n mem pc lo (vr G 0 :: st) := jj_get h (by decide) rfl rfl rfl F d kk
theorem jj_g_X_tree (h : OK G X cc own nL) (F : fk_ own idx R_X T_X 4 2) (d : decode cc pc = .ok (.getfield idx, 3)) (kk : JJ G X k n mem (pc + 3) lo (vr G 17 :: st)) : JJ G X k n mem pc lo (vr G 0 :: st) := jj_get h (by decide) rfl rfl rfl F d kk
theorem jj_g_X_printer (h : OK G X cc own nL) (F : fk_ own idx R_X T_X 4 3) (d : decode cc pc = .ok (.getfield idx, 3)) (kk : JJ G X k n mem (pc + 3) lo (vr G 20 :: st)) : JJ G X k n mem pc lo (vr G 0 :: st) := jj_get h (by decide) rfl rfl rfl F d kk
theorem jj_g_B_cells (h : OK G X cc own nL) {r : Nat} (hr : 1 ≤ r ∧ r ≤ 8) (F : fk_ own idx R_B T_B 3 0) (d : decode cc pc = .ok (.getfield idx, 3)) (kk : JJ G X k n mem (pc + 3) lo (vr G (r + 8) :: st)) : JJ G X k n mem pc lo (vr G r :: st) := jj_get h (by have := hr.2; unfold mt_N; omega) (ce_B hr) rfl rfl F d kk
theorem jj_g_B_size (h : OK G X cc own nL) {r : Nat} (hr : 1 ≤ r ∧ r ≤ 8) (F : fk_ own idx R_B T_B 3 1) (d : decode cc pc = .ok (.getfield idx, 3)) (kk : JJ G X k n mem (pc + 3) lo (vi (mem r 1) :: st)) : JJ G X k n mem pc lo (vr G r :: st) := jj_get h (by have := hr.2; unfold mt_N; omega) (ce_B hr) rfl rfl F d kk
theorem jj_p_B_size (h : OK G X cc own nL) {z : Int} {r : Nat} (hr : 1 ≤ r ∧ r ≤ 8) (F : fk_ own idx R_B T_B 3 1) (d : decode cc pc = .ok (.putfield idx, 3)) (kk : JJ G X k n (st_ mem r 1 z) (pc + 3) lo st) : JJ G X k n mem pc lo (vi z :: vr G r :: st) := jj_put (zk := 1) (t0 := tf_B) (ty := .int) h (by have := hr.2; unfold mt_N; omega) (ce_B hr) rfl (Nat.le_of_ble_eq_true rfl) (by rw [ce_B hr]; rfl) F ⟨ty_B, nm_B, rfl⟩ (by decide +kernel) rfl rfl d kk
theorem jj_g_B_spilled (h : OK G X cc own nL) {r : Nat} (hr : 1 ≤ r ∧ r ≤ 8) (F : fk_ own idx R_B T_B 3 2) (d : decode cc pc = .ok (.getfield idx, 3)) (kk : JJ G X k n mem (pc + 3) lo (vi (mem r 2) :: st)) : JJ G X k n mem pc lo (vr G r :: st) := jj_get h (by have := hr.2; unfold mt_N; omega) (ce_B hr) rfl rfl F d kk
theorem jj_p_B_spilled (h : OK G X cc own nL) {z : Int} {r : Nat} (hr : 1 ≤ r ∧ r ≤ 8) (F : fk_ own idx R_B T_B 3 2) (hz : z = 0 ∨ z = 1) (d : decode cc pc = .ok (.putfield idx, 3)) (kk : JJ G X k n (st_ mem r 2 z) (pc + 3) lo st) : JJ G X k n mem pc lo (vi z :: vr G r :: st) := jj_put (zk := 2) (t0 := tf_B) (ty := .boolean) h (by have := hr.2; unfold mt_N; omega) (ce_B hr) rfl (Nat.le_of_ble_eq_true rfl) (by rw [ce_B hr]; rfl) F ⟨ty_B, nm_B, rfl⟩ (by decide +kernel) (by rcases hz with rfl | rfl <;> decide) (by rcases hz with rfl | rfl <;> decide) d kk
theorem jj_g_D_source (h : OK G X cc own nL) (F : fk_ own idx R_D T_D 2 0) (d : decode cc pc = .ok (.getfield idx, 3)) (kk : JJ G X k n mem (pc + 3) lo (vr G 3 :: st)) : JJ G X k n mem pc lo (vr G 19 :: st) := jj_get h (by decide) rfl rfl rfl F d kk
theorem jj_g_D_contents (h : OK G X cc own nL) (F : fk_ own idx R_D T_D 2 1) (d : decode cc pc = .ok (.getfield idx, 3)) (kk : JJ G X k n mem (pc + 3) lo (vr G 5 :: st)) : JJ G X k n mem pc lo (vr G 19 :: st) := jj_get h (by decide) rfl rfl rfl F d kk
theorem jj_g_E_kind (h : OK G X cc own nL) {r : Nat} (hr : 22 ≤ r ∧ r ≤ 37) (F : fk_ own idx R_E T_E 14 0) (d : decode cc pc = .ok (.getfield idx, 3)) (kk : JJ G X k n mem (pc + 3) lo (vi (mem r 0) :: st)) : JJ G X k n mem pc lo (vr G r :: st) := jj_get h (by have := hr.2; unfold mt_N; omega) (ce_E hr) rfl rfl F d kk
theorem jj_p_E_kind (h : OK G X cc own nL) {z : Int} {r : Nat} (hr : 22 ≤ r ∧ r ≤ 37) (F : fk_ own idx R_E T_E 14 0) (d : decode cc pc = .ok (.putfield idx, 3)) (kk : JJ G X k n (st_ mem r 0 z) (pc + 3) lo st) : JJ G X k n mem pc lo (vi z :: vr G r :: st) := jj_put (zk := 0) (t0 := tf_E) (ty := .int) h (by have := hr.2; unfold mt_N; omega) (ce_E hr) rfl (Nat.le_of_ble_eq_true rfl) (by rw [ce_E hr]; rfl) F ⟨ty_E, nm_E, rfl⟩ (by decide +kernel) rfl rfl d kk
theorem jj_g_E_depth (h : OK G X cc own nL) {r : Nat} (hr : 22 ≤ r ∧ r ≤ 37) (F : fk_ own idx R_E T_E 14 1) (d : decode cc pc = .ok (.getfield idx, 3)) (kk : JJ G X k n mem (pc + 3) lo (vi (mem r 1) :: st)) : JJ G X k n mem pc lo (vr G r :: st) := jj_get h (by have := hr.2; unfold mt_N; omega) (ce_E hr) rfl rfl F d kk
theorem jj_p_E_depth (h : OK G X cc own nL) {z : Int} {r : Nat} (hr : 22 ≤ r ∧ r ≤ 37) (F : fk_ own idx R_E T_E 14 1) (d : decode cc pc = .ok (.putfield idx, 3)) (kk : JJ G X k n (st_ mem r 1 z) (pc + 3) lo st) : JJ G X k n mem pc lo (vi z :: vr G r :: st) := jj_put (zk := 1) (t0 := tf_E) (ty := .int) h (by have := hr.2; unfold mt_N; omega) (ce_E hr) rfl (Nat.le_of_ble_eq_true rfl) (by rw [ce_E hr]; rfl) F ⟨ty_E, nm_E, rfl⟩ (by decide +kernel) rfl rfl d kk
theorem jj_g_E_parent (h : OK G X cc own nL) {r : Nat} (hr : 22 ≤ r ∧ r ≤ 37) (F : fk_ own idx R_E T_E 14 2) (d : decode cc pc = .ok (.getfield idx, 3)) (kk : JJ G X k n mem (pc + 3) lo (vi (mem r 2) :: st)) : JJ G X k n mem pc lo (vr G r :: st) := jj_get h (by have := hr.2; unfold mt_N; omega) (ce_E hr) rfl rfl F d kk
theorem jj_p_E_parent (h : OK G X cc own nL) {z : Int} {r : Nat} (hr : 22 ≤ r ∧ r ≤ 37) (F : fk_ own idx R_E T_E 14 2) (d : decode cc pc = .ok (.putfield idx, 3)) (kk : JJ G X k n (st_ mem r 2 z) (pc + 3) lo st) : JJ G X k n mem pc lo (vi z :: vr G r :: st) := jj_put (zk := 2) (t0 := tf_E) (ty := .int) h (by have := hr.2; unfold mt_N; omega) (ce_E hr) rfl (Nat.le_of_ble_eq_true rfl) (by rw [ce_E hr]; rfl) F ⟨ty_E, nm_E, rfl⟩ (by decide +kernel) rfl rfl d kk
theorem jj_g_E_encoding (h : OK G X cc own nL) {r : Nat} (hr : 22 ≤ r ∧ r ≤ 37) (F : fk_ own idx R_E T_E 14 3) (d : decode cc pc = .ok (.getfield idx, 3)) (kk : JJ G X k n mem (pc + 3) lo (vi (mem r 3) :: st)) : JJ G X k n mem pc lo (vr G r :: st) := jj_get h (by have := hr.2; unfold mt_N; omega) (ce_E hr) rfl rfl F d kk
theorem jj_p_E_encoding (h : OK G X cc own nL) {z : Int} {r : Nat} (hr : 22 ≤ r ∧ r ≤ 37) (F : fk_ own idx R_E T_E 14 3) (d : decode cc pc = .ok (.putfield idx, 3)) (kk : JJ G X k n (st_ mem r 3 z) (pc + 3) lo st) : JJ G X k n mem pc lo (vi z :: vr G r :: st) := jj_put (zk := 3) (t0 := tf_E) (ty := .int) h (by have := hr.2; unfold mt_N; omega) (ce_E hr) rfl (Nat.le_of_ble_eq_true rfl) (by rw [ce_E hr]; rfl) F ⟨ty_E, nm_E, rfl⟩ (by decide +kernel) rfl rfl d kk
theorem jj_g_E_parts (h : OK G X cc own nL) {r : Nat} (hr : 22 ≤ r ∧ r ≤ 37) (F : fk_ own idx R_E T_E 14 4) (d : decode cc pc = .ok (.getfield idx, 3)) (kk : JJ G X k n mem (pc + 3) lo (vi (mem r 4) :: st)) : JJ G X k n mem pc lo (vr G r :: st) := jj_get h (by have := hr.2; unfold mt_N; omega) (ce_E hr) rfl rfl F d kk
theorem jj_p_E_parts (h : OK G X cc own nL) {z : Int} {r : Nat} (hr : 22 ≤ r ∧ r ≤ 37) (F : fk_ own idx R_E T_E 14 4) (d : decode cc pc = .ok (.putfield idx, 3)) (kk : JJ G X k n (st_ mem r 4 z) (pc + 3) lo st) : JJ G X k n mem pc lo (vi z :: vr G r :: st) := jj_put (zk := 4) (t0 := tf_E) (ty := .int) h (by have := hr.2; unfold mt_N; omega) (ce_E hr) rfl (Nat.le_of_ble_eq_true rfl) (by rw [ce_E hr]; rfl) F ⟨ty_E, nm_E, rfl⟩ (by decide +kernel) rfl rfl d kk
theorem jj_g_E_begin (h : OK G X cc own nL) {r : Nat} (hr : 22 ≤ r ∧ r ≤ 37) (F : fk_ own idx R_E T_E 14 5) (d : decode cc pc = .ok (.getfield idx, 3)) (kk : JJ G X k n mem (pc + 3) lo (vi (mem r 5) :: st)) : JJ G X k n mem pc lo (vr G r :: st) := jj_get h (by have := hr.2; unfold mt_N; omega) (ce_E hr) rfl rfl F d kk
theorem jj_p_E_begin (h : OK G X cc own nL) {z : Int} {r : Nat} (hr : 22 ≤ r ∧ r ≤ 37) (F : fk_ own idx R_E T_E 14 5) (d : decode cc pc = .ok (.putfield idx, 3)) (kk : JJ G X k n (st_ mem r 5 z) (pc + 3) lo st) : JJ G X k n mem pc lo (vi z :: vr G r :: st) := jj_put (zk := 5) (t0 := tf_E) (ty := .int) h (by have := hr.2; unfold mt_N; omega) (ce_E hr) rfl (Nat.le_of_ble_eq_true rfl) (by rw [ce_E hr]; rfl) F ⟨ty_E, nm_E, rfl⟩ (by decide +kernel) rfl rfl d kk
theorem jj_g_E_body (h : OK G X cc own nL) {r : Nat} (hr : 22 ≤ r ∧ r ≤ 37) (F : fk_ own idx R_E T_E 14 6) (d : decode cc pc = .ok (.getfield idx, 3)) (kk : JJ G X k n mem (pc + 3) lo (vi (mem r 6) :: st)) : JJ G X k n mem pc lo (vr G r :: st) := jj_get h (by have := hr.2; unfold mt_N; omega) (ce_E hr) rfl rfl F d kk
theorem jj_p_E_body (h : OK G X cc own nL) {z : Int} {r : Nat} (hr : 22 ≤ r ∧ r ≤ 37) (F : fk_ own idx R_E T_E 14 6) (d : decode cc pc = .ok (.putfield idx, 3)) (kk : JJ G X k n (st_ mem r 6 z) (pc + 3) lo st) : JJ G X k n mem pc lo (vi z :: vr G r :: st) := jj_put (zk := 6) (t0 := tf_E) (ty := .int) h (by have := hr.2; unfold mt_N; omega) (ce_E hr) rfl (Nat.le_of_ble_eq_true rfl) (by rw [ce_E hr]; rfl) F ⟨ty_E, nm_E, rfl⟩ (by decide +kernel) rfl rfl d kk
theorem jj_g_E_end (h : OK G X cc own nL) {r : Nat} (hr : 22 ≤ r ∧ r ≤ 37) (F : fk_ own idx R_E T_E 14 7) (d : decode cc pc = .ok (.getfield idx, 3)) (kk : JJ G X k n mem (pc + 3) lo (vi (mem r 7) :: st)) : JJ G X k n mem pc lo (vr G r :: st) := jj_get h (by have := hr.2; unfold mt_N; omega) (ce_E hr) rfl rfl F d kk
theorem jj_p_E_end (h : OK G X cc own nL) {z : Int} {r : Nat} (hr : 22 ≤ r ∧ r ≤ 37) (F : fk_ own idx R_E T_E 14 7) (d : decode cc pc = .ok (.putfield idx, 3)) (kk : JJ G X k n (st_ mem r 7 z) (pc + 3) lo st) : JJ G X k n mem pc lo (vi z :: vr G r :: st) := jj_put (zk := 7) (t0 := tf_E) (ty := .int) h (by have := hr.2; unfold mt_N; omega) (ce_E hr) rfl (Nat.le_of_ble_eq_true rfl) (by rw [ce_E hr]; rfl) F ⟨ty_E, nm_E, rfl⟩ (by decide +kernel) rfl rfl d kk
theorem jj_g_E_contentBegin (h : OK G X cc own nL) {r : Nat} (hr : 22 ≤ r ∧ r ≤ 37) (F : fk_ own idx R_E T_E 14 8) (d : decode cc pc = .ok (.getfield idx, 3)) (kk : JJ G X k n mem (pc + 3) lo (vi (mem r 8) :: st)) : JJ G X k n mem pc lo (vr G r :: st) := jj_get h (by have := hr.2; unfold mt_N; omega) (ce_E hr) rfl rfl F d kk
theorem jj_p_E_contentBegin (h : OK G X cc own nL) {z : Int} {r : Nat} (hr : 22 ≤ r ∧ r ≤ 37) (F : fk_ own idx R_E T_E 14 8) (d : decode cc pc = .ok (.putfield idx, 3)) (kk : JJ G X k n (st_ mem r 8 z) (pc + 3) lo st) : JJ G X k n mem pc lo (vi z :: vr G r :: st) := jj_put (zk := 8) (t0 := tf_E) (ty := .int) h (by have := hr.2; unfold mt_N; omega) (ce_E hr) rfl (Nat.le_of_ble_eq_true rfl) (by rw [ce_E hr]; rfl) F ⟨ty_E, nm_E, rfl⟩ (by decide +kernel) rfl rfl d kk
theorem jj_g_E_contentSize (h : OK G X cc own nL) {r : Nat} (hr : 22 ≤ r ∧ r ≤ 37) (F : fk_ own idx R_E T_E 14 9) (d : decode cc pc = .ok (.getfield idx, 3)) (kk : JJ G X k n mem (pc + 3) lo (vi (mem r 9) :: st)) : JJ G X k n mem pc lo (vr G r :: st) := jj_get h (by have := hr.2; unfold mt_N; omega) (ce_E hr) rfl rfl F d kk
theorem jj_p_E_contentSize (h : OK G X cc own nL) {z : Int} {r : Nat} (hr : 22 ≤ r ∧ r ≤ 37) (F : fk_ own idx R_E T_E 14 9) (d : decode cc pc = .ok (.putfield idx, 3)) (kk : JJ G X k n (st_ mem r 9 z) (pc + 3) lo st) : JJ G X k n mem pc lo (vi z :: vr G r :: st) := jj_put (zk := 9) (t0 := tf_E) (ty := .int) h (by have := hr.2; unfold mt_N; omega) (ce_E hr) rfl (Nat.le_of_ble_eq_true rfl) (by rw [ce_E hr]; rfl) F ⟨ty_E, nm_E, rfl⟩ (by decide +kernel) rfl rfl d kk
theorem jj_g_E_boundaryBegin (h : OK G X cc own nL) {r : Nat} (hr : 22 ≤ r ∧ r ≤ 37) (F : fk_ own idx R_E T_E 14 10) (d : decode cc pc = .ok (.getfield idx, 3)) (kk : JJ G X k n mem (pc + 3) lo (vi (mem r 10) :: st)) : JJ G X k n mem pc lo (vr G r :: st) := jj_get h (by have := hr.2; unfold mt_N; omega) (ce_E hr) rfl rfl F d kk
theorem jj_p_E_boundaryBegin (h : OK G X cc own nL) {z : Int} {r : Nat} (hr : 22 ≤ r ∧ r ≤ 37) (F : fk_ own idx R_E T_E 14 10) (d : decode cc pc = .ok (.putfield idx, 3)) (kk : JJ G X k n (st_ mem r 10 z) (pc + 3) lo st) : JJ G X k n mem pc lo (vi z :: vr G r :: st) := jj_put (zk := 10) (t0 := tf_E) (ty := .int) h (by have := hr.2; unfold mt_N; omega) (ce_E hr) rfl (Nat.le_of_ble_eq_true rfl) (by rw [ce_E hr]; rfl) F ⟨ty_E, nm_E, rfl⟩ (by decide +kernel) rfl rfl d kk
theorem jj_g_E_boundarySize (h : OK G X cc own nL) {r : Nat} (hr : 22 ≤ r ∧ r ≤ 37) (F : fk_ own idx R_E T_E 14 11) (d : decode cc pc = .ok (.getfield idx, 3)) (kk : JJ G X k n mem (pc + 3) lo (vi (mem r 11) :: st)) : JJ G X k n mem pc lo (vr G r :: st) := jj_get h (by have := hr.2; unfold mt_N; omega) (ce_E hr) rfl rfl F d kk
theorem jj_p_E_boundarySize (h : OK G X cc own nL) {z : Int} {r : Nat} (hr : 22 ≤ r ∧ r ≤ 37) (F : fk_ own idx R_E T_E 14 11) (d : decode cc pc = .ok (.putfield idx, 3)) (kk : JJ G X k n (st_ mem r 11 z) (pc + 3) lo st) : JJ G X k n mem pc lo (vi z :: vr G r :: st) := jj_put (zk := 11) (t0 := tf_E) (ty := .int) h (by have := hr.2; unfold mt_N; omega) (ce_E hr) rfl (Nat.le_of_ble_eq_true rfl) (by rw [ce_E hr]; rfl) F ⟨ty_E, nm_E, rfl⟩ (by decide +kernel) rfl rfl d kk
theorem jj_g_E_fieldCount (h : OK G X cc own nL) {r : Nat} (hr : 22 ≤ r ∧ r ≤ 37) (F : fk_ own idx R_E T_E 14 12) (d : decode cc pc = .ok (.getfield idx, 3)) (kk : JJ G X k n mem (pc + 3) lo (vi (mem r 12) :: st)) : JJ G X k n mem pc lo (vr G r :: st) := jj_get h (by have := hr.2; unfold mt_N; omega) (ce_E hr) rfl rfl F d kk
theorem jj_p_E_fieldCount (h : OK G X cc own nL) {z : Int} {r : Nat} (hr : 22 ≤ r ∧ r ≤ 37) (F : fk_ own idx R_E T_E 14 12) (d : decode cc pc = .ok (.putfield idx, 3)) (kk : JJ G X k n (st_ mem r 12 z) (pc + 3) lo st) : JJ G X k n mem pc lo (vi z :: vr G r :: st) := jj_put (zk := 12) (t0 := tf_E) (ty := .int) h (by have := hr.2; unfold mt_N; omega) (ce_E hr) rfl (Nat.le_of_ble_eq_true rfl) (by rw [ce_E hr]; rfl) F ⟨ty_E, nm_E, rfl⟩ (by decide +kernel) rfl rfl d kk
theorem jj_g_E_fields (h : OK G X cc own nL) {r : Nat} (hr : 22 ≤ r ∧ r ≤ 37) (F : fk_ own idx R_E T_E 14 13) (d : decode cc pc = .ok (.getfield idx, 3)) (kk : JJ G X k n mem (pc + 3) lo (vr G (r + 16) :: st)) : JJ G X k n mem pc lo (vr G r :: st) := jj_get h (by have := hr.2; unfold mt_N; omega) (ce_E hr) rfl rfl F d kk
theorem jj_g_F_nameBegin (h : OK G X cc own nL) {r : Nat} (hr : 54 ≤ r ∧ r ≤ 181) (F : fk_ own idx R_F T_F 4 0) (d : decode cc pc = .ok (.getfield idx, 3)) (kk : JJ G X k n mem (pc + 3) lo (vi (mem r 0) :: st)) : JJ G X k n mem pc lo (vr G r :: st) := jj_get h (by have := hr.2; unfold mt_N; omega) (ce_F hr) rfl rfl F d kk
theorem jj_p_F_nameBegin (h : OK G X cc own nL) {z : Int} {r : Nat} (hr : 54 ≤ r ∧ r ≤ 181) (F : fk_ own idx R_F T_F 4 0) (d : decode cc pc = .ok (.putfield idx, 3)) (kk : JJ G X k n (st_ mem r 0 z) (pc + 3) lo st) : JJ G X k n mem pc lo (vi z :: vr G r :: st) := jj_put (zk := 0) (t0 := tf_F) (ty := .int) h (by have := hr.2; unfold mt_N; omega) (ce_F hr) rfl (Nat.le_of_ble_eq_true rfl) (by rw [ce_F hr]; rfl) F ⟨ty_F, nm_F, rfl⟩ (by decide +kernel) rfl rfl d kk
theorem jj_g_F_nameSize (h : OK G X cc own nL) {r : Nat} (hr : 54 ≤ r ∧ r ≤ 181) (F : fk_ own idx R_F T_F 4 1) (d : decode cc pc = .ok (.getfield idx, 3)) (kk : JJ G X k n mem (pc + 3) lo (vi (mem r 1) :: st)) : JJ G X k n mem pc lo (vr G r :: st) := jj_get h (by have := hr.2; unfold mt_N; omega) (ce_F hr) rfl rfl F d kk
theorem jj_p_F_nameSize (h : OK G X cc own nL) {z : Int} {r : Nat} (hr : 54 ≤ r ∧ r ≤ 181) (F : fk_ own idx R_F T_F 4 1) (d : decode cc pc = .ok (.putfield idx, 3)) (kk : JJ G X k n (st_ mem r 1 z) (pc + 3) lo st) : JJ G X k n mem pc lo (vi z :: vr G r :: st) := jj_put (zk := 1) (t0 := tf_F) (ty := .int) h (by have := hr.2; unfold mt_N; omega) (ce_F hr) rfl (Nat.le_of_ble_eq_true rfl) (by rw [ce_F hr]; rfl) F ⟨ty_F, nm_F, rfl⟩ (by decide +kernel) rfl rfl d kk
theorem jj_g_F_valueBegin (h : OK G X cc own nL) {r : Nat} (hr : 54 ≤ r ∧ r ≤ 181) (F : fk_ own idx R_F T_F 4 2) (d : decode cc pc = .ok (.getfield idx, 3)) (kk : JJ G X k n mem (pc + 3) lo (vi (mem r 2) :: st)) : JJ G X k n mem pc lo (vr G r :: st) := jj_get h (by have := hr.2; unfold mt_N; omega) (ce_F hr) rfl rfl F d kk
theorem jj_p_F_valueBegin (h : OK G X cc own nL) {z : Int} {r : Nat} (hr : 54 ≤ r ∧ r ≤ 181) (F : fk_ own idx R_F T_F 4 2) (d : decode cc pc = .ok (.putfield idx, 3)) (kk : JJ G X k n (st_ mem r 2 z) (pc + 3) lo st) : JJ G X k n mem pc lo (vi z :: vr G r :: st) := jj_put (zk := 2) (t0 := tf_F) (ty := .int) h (by have := hr.2; unfold mt_N; omega) (ce_F hr) rfl (Nat.le_of_ble_eq_true rfl) (by rw [ce_F hr]; rfl) F ⟨ty_F, nm_F, rfl⟩ (by decide +kernel) rfl rfl d kk
theorem jj_g_F_valueSize (h : OK G X cc own nL) {r : Nat} (hr : 54 ≤ r ∧ r ≤ 181) (F : fk_ own idx R_F T_F 4 3) (d : decode cc pc = .ok (.getfield idx, 3)) (kk : JJ G X k n mem (pc + 3) lo (vi (mem r 3) :: st)) : JJ G X k n mem pc lo (vr G r :: st) := jj_get h (by have := hr.2; unfold mt_N; omega) (ce_F hr) rfl rfl F d kk
theorem jj_p_F_valueSize (h : OK G X cc own nL) {z : Int} {r : Nat} (hr : 54 ≤ r ∧ r ≤ 181) (F : fk_ own idx R_F T_F 4 3) (d : decode cc pc = .ok (.putfield idx, 3)) (kk : JJ G X k n (st_ mem r 3 z) (pc + 3) lo st) : JJ G X k n mem pc lo (vi z :: vr G r :: st) := jj_put (zk := 3) (t0 := tf_F) (ty := .int) h (by have := hr.2; unfold mt_N; omega) (ce_F hr) rfl (Nat.le_of_ble_eq_true rfl) (by rw [ce_F hr]; rfl) F ⟨ty_F, nm_F, rfl⟩ (by decide +kernel) rfl rfl d kk
theorem jj_g_P_tree (h : OK G X cc own nL) (F : fk_ own idx R_P T_P 2 0) (d : decode cc pc = .ok (.getfield idx, 3)) (kk : JJ G X k n mem (pc + 3) lo (vr G 17 :: st)) : JJ G X k n mem pc lo (vr G 20 :: st) := jj_get h (by decide) rfl rfl rfl F d kk
theorem jj_g_P_draft (h : OK G X cc own nL) (F : fk_ own idx R_P T_P 2 1) (d : decode cc pc = .ok (.getfield idx, 3)) (kk : JJ G X k n mem (pc + 3) lo (vr G 8 :: st)) : JJ G X k n mem pc lo (vr G 20 :: st) := jj_get h (by decide) rfl rfl rfl F d kk
theorem jj_g_S_values (h : OK G X cc own nL) (F : fk_ own idx R_S T_S 5 0) (d : decode cc pc = .ok (.getfield idx, 3)) (kk : JJ G X k n mem (pc + 3) lo (vr G 4 :: st)) : JJ G X k n mem pc lo (vr G 18 :: st) := jj_get h (by decide) rfl rfl rfl F d kk
theorem jj_g_S_word (h : OK G X cc own nL) (F : fk_ own idx R_S T_S 5 1) (d : decode cc pc = .ok (.getfield idx, 3)) (kk : JJ G X k n mem (pc + 3) lo (vr G 7 :: st)) : JJ G X k n mem pc lo (vr G 18 :: st) := jj_get h (by decide) rfl rfl rfl F d kk
theorem jj_g_S_place (h : OK G X cc own nL) (F : fk_ own idx R_S T_S 5 2) (d : decode cc pc = .ok (.getfield idx, 3)) (kk : JJ G X k n mem (pc + 3) lo (vi (mem 18 2) :: st)) : JJ G X k n mem pc lo (vr G 18 :: st) := jj_get h (by decide) rfl rfl rfl F d kk
theorem jj_p_S_place (h : OK G X cc own nL) {z : Int} (F : fk_ own idx R_S T_S 5 2) (d : decode cc pc = .ok (.putfield idx, 3)) (kk : JJ G X k n (st_ mem 18 2 z) (pc + 3) lo st) : JJ G X k n mem pc lo (vi z :: vr G 18 :: st) := jj_put (zk := 2) (t0 := tf_S) (ty := .int) h (by decide) rfl rfl (Nat.le_of_ble_eq_true rfl) rfl F ⟨ty_S, nm_S, rfl⟩ (by decide +kernel) rfl rfl d kk
theorem jj_g_S_end (h : OK G X cc own nL) (F : fk_ own idx R_S T_S 5 3) (d : decode cc pc = .ok (.getfield idx, 3)) (kk : JJ G X k n mem (pc + 3) lo (vi (mem 18 3) :: st)) : JJ G X k n mem pc lo (vr G 18 :: st) := jj_get h (by decide) rfl rfl rfl F d kk
theorem jj_p_S_end (h : OK G X cc own nL) {z : Int} (F : fk_ own idx R_S T_S 5 3) (d : decode cc pc = .ok (.putfield idx, 3)) (kk : JJ G X k n (st_ mem 18 3 z) (pc + 3) lo st) : JJ G X k n mem pc lo (vi z :: vr G 18 :: st) := jj_put (zk := 3) (t0 := tf_S) (ty := .int) h (by decide) rfl rfl (Nat.le_of_ble_eq_true rfl) rfl F ⟨ty_S, nm_S, rfl⟩ (by decide +kernel) rfl rfl d kk
theorem jj_g_S_namedBoundary (h : OK G X cc own nL) (F : fk_ own idx R_S T_S 5 4) (d : decode cc pc = .ok (.getfield idx, 3)) (kk : JJ G X k n mem (pc + 3) lo (vi (mem 18 4) :: st)) : JJ G X k n mem pc lo (vr G 18 :: st) := jj_get h (by decide) rfl rfl rfl F d kk
theorem jj_p_S_namedBoundary (h : OK G X cc own nL) {z : Int} (F : fk_ own idx R_S T_S 5 4) (hz : z = 0 ∨ z = 1) (d : decode cc pc = .ok (.putfield idx, 3)) (kk : JJ G X k n (st_ mem 18 4 z) (pc + 3) lo st) : JJ G X k n mem pc lo (vi z :: vr G 18 :: st) := jj_put (zk := 4) (t0 := tf_S) (ty := .boolean) h (by decide) rfl rfl (Nat.le_of_ble_eq_true rfl) rfl F ⟨ty_S, nm_S, rfl⟩ (by decide +kernel) (by rcases hz with rfl | rfl <;> decide) (by rcases hz with rfl | rfl <;> decide) d kk
theorem jj_g_T_source (h : OK G X cc own nL) (F : fk_ own idx R_T T_T 8 0) (d : decode cc pc = .ok (.getfield idx, 3)) (kk : JJ G X k n mem (pc + 3) lo (vr G 3 :: st)) : JJ G X k n mem pc lo (vr G 17 :: st) := jj_get h (by decide) rfl rfl rfl F d kk
theorem jj_g_T_values (h : OK G X cc own nL) (F : fk_ own idx R_T T_T 8 1) (d : decode cc pc = .ok (.getfield idx, 3)) (kk : JJ G X k n mem (pc + 3) lo (vr G 4 :: st)) : JJ G X k n mem pc lo (vr G 17 :: st) := jj_get h (by decide) rfl rfl rfl F d kk
theorem jj_g_T_contents (h : OK G X cc own nL) (F : fk_ own idx R_T T_T 8 2) (d : decode cc pc = .ok (.getfield idx, 3)) (kk : JJ G X k n mem (pc + 3) lo (vr G 5 :: st)) : JJ G X k n mem pc lo (vr G 17 :: st) := jj_get h (by decide) rfl rfl rfl F d kk
theorem jj_g_T_boundaries (h : OK G X cc own nL) (F : fk_ own idx R_T T_T 8 3) (d : decode cc pc = .ok (.getfield idx, 3)) (kk : JJ G X k n mem (pc + 3) lo (vr G 6 :: st)) : JJ G X k n mem pc lo (vr G 17 :: st) := jj_get h (by decide) rfl rfl rfl F d kk
theorem jj_g_T_entities (h : OK G X cc own nL) (F : fk_ own idx R_T T_T 8 4) (d : decode cc pc = .ok (.getfield idx, 3)) (kk : JJ G X k n mem (pc + 3) lo (vr G 21 :: st)) : JJ G X k n mem pc lo (vr G 17 :: st) := jj_get h (by decide) rfl rfl rfl F d kk
theorem jj_g_T_scanner (h : OK G X cc own nL) (F : fk_ own idx R_T T_T 8 5) (d : decode cc pc = .ok (.getfield idx, 3)) (kk : JJ G X k n mem (pc + 3) lo (vr G 18 :: st)) : JJ G X k n mem pc lo (vr G 17 :: st) := jj_get h (by decide) rfl rfl rfl F d kk
theorem jj_g_T_decoder (h : OK G X cc own nL) (F : fk_ own idx R_T T_T 8 6) (d : decode cc pc = .ok (.getfield idx, 3)) (kk : JJ G X k n mem (pc + 3) lo (vr G 19 :: st)) : JJ G X k n mem pc lo (vr G 17 :: st) := jj_get h (by decide) rfl rfl rfl F d kk
theorem jj_g_T_count (h : OK G X cc own nL) (F : fk_ own idx R_T T_T 8 7) (d : decode cc pc = .ok (.getfield idx, 3)) (kk : JJ G X k n mem (pc + 3) lo (vi (mem 17 7) :: st)) : JJ G X k n mem pc lo (vr G 17 :: st) := jj_get h (by decide) rfl rfl rfl F d kk
theorem jj_p_T_count (h : OK G X cc own nL) {z : Int} (F : fk_ own idx R_T T_T 8 7) (d : decode cc pc = .ok (.putfield idx, 3)) (kk : JJ G X k n (st_ mem 17 7 z) (pc + 3) lo st) : JJ G X k n mem pc lo (vi z :: vr G 17 :: st) := jj_put (zk := 7) (t0 := tf_T) (ty := .int) h (by decide) rfl rfl (Nat.le_of_ble_eq_true rfl) rfl F ⟨ty_T, nm_T, rfl⟩ (by decide +kernel) rfl rfl d kk
theorem jj_g_M_thrown (h : OK G X cc own nL) (F : fk_ own idx R_M T_M 25 0) (d : decode cc pc = .ok (.getfield idx, 3)) (kk : JJ G X k n mem (pc + 3) lo (vi (mem 182 0) :: st)) : JJ G X k n mem pc lo (vr G 182 :: st) := jj_get h (by decide) rfl rfl rfl F d kk
theorem jj_p_M_thrown (h : OK G X cc own nL) {z : Int} (F : fk_ own idx R_M T_M 25 0) (d : decode cc pc = .ok (.putfield idx, 3)) (kk : JJ G X k n (st_ mem 182 0 z) (pc + 3) lo st) : JJ G X k n mem pc lo (vi z :: vr G 182 :: st) := jj_put (zk := 0) (t0 := tf_M) (ty := .int) h (by decide) rfl rfl (Nat.le_of_ble_eq_true rfl) rfl F ⟨ty_M, nm_M, rfl⟩ (by decide +kernel) rfl rfl d kk
theorem jj_g_M_fed (h : OK G X cc own nL) (F : fk_ own idx R_M T_M 25 1) (d : decode cc pc = .ok (.getfield idx, 3)) (kk : JJ G X k n mem (pc + 3) lo (vi (mem 182 1) :: st)) : JJ G X k n mem pc lo (vr G 182 :: st) := jj_get h (by decide) rfl rfl rfl F d kk
theorem jj_p_M_fed (h : OK G X cc own nL) {z : Int} (F : fk_ own idx R_M T_M 25 1) (d : decode cc pc = .ok (.putfield idx, 3)) (kk : JJ G X k n (st_ mem 182 1 z) (pc + 3) lo st) : JJ G X k n mem pc lo (vi z :: vr G 182 :: st) := jj_put (zk := 1) (t0 := tf_M) (ty := .int) h (by decide) rfl rfl (Nat.le_of_ble_eq_true rfl) rfl F ⟨ty_M, nm_M, rfl⟩ (by decide +kernel) rfl rfl d kk
theorem jj_g_M_message (h : OK G X cc own nL) (F : fk_ own idx R_M T_M 25 2) (d : decode cc pc = .ok (.getfield idx, 3)) (kk : JJ G X k n mem (pc + 3) lo (vr G 183 :: st)) : JJ G X k n mem pc lo (vr G 182 :: st) := jj_get h (by decide) rfl rfl rfl F d kk
theorem jj_g_M_read (h : OK G X cc own nL) (F : fk_ own idx R_M T_M 25 3) (d : decode cc pc = .ok (.getfield idx, 3)) (kk : JJ G X k n mem (pc + 3) lo (vi (mem 182 3) :: st)) : JJ G X k n mem pc lo (vr G 182 :: st) := jj_get h (by decide) rfl rfl rfl F d kk
theorem jj_p_M_read (h : OK G X cc own nL) {z : Int} (F : fk_ own idx R_M T_M 25 3) (hz : z = 0 ∨ z = 1) (d : decode cc pc = .ok (.putfield idx, 3)) (kk : JJ G X k n (st_ mem 182 3 z) (pc + 3) lo st) : JJ G X k n mem pc lo (vi z :: vr G 182 :: st) := jj_put (zk := 3) (t0 := tf_M) (ty := .boolean) h (by decide) rfl rfl (Nat.le_of_ble_eq_true rfl) rfl F ⟨ty_M, nm_M, rfl⟩ (by decide +kernel) (by rcases hz with rfl | rfl <;> decide) (by rcases hz with rfl | rfl <;> decide) d kk
theorem jj_g_M_src (h : OK G X cc own nL) (F : fk_ own idx R_M T_M 25 4) (d : decode cc pc = .ok (.getfield idx, 3)) (kk : JJ G X k n mem (pc + 3) lo (vr G 184 :: st)) : JJ G X k n mem pc lo (vr G 182 :: st) := jj_get h (by decide) rfl rfl rfl F d kk
theorem jj_g_M_entities (h : OK G X cc own nL) (F : fk_ own idx R_M T_M 25 5) (d : decode cc pc = .ok (.getfield idx, 3)) (kk : JJ G X k n mem (pc + 3) lo (vi (mem 182 5) :: st)) : JJ G X k n mem pc lo (vr G 182 :: st) := jj_get h (by decide) rfl rfl rfl F d kk
theorem jj_p_M_entities (h : OK G X cc own nL) {z : Int} (F : fk_ own idx R_M T_M 25 5) (d : decode cc pc = .ok (.putfield idx, 3)) (kk : JJ G X k n (st_ mem 182 5 z) (pc + 3) lo st) : JJ G X k n mem pc lo (vi z :: vr G 182 :: st) := jj_put (zk := 5) (t0 := tf_M) (ty := .int) h (by decide) rfl rfl (Nat.le_of_ble_eq_true rfl) rfl F ⟨ty_M, nm_M, rfl⟩ (by decide +kernel) rfl rfl d kk
theorem jj_g_M_data (h : OK G X cc own nL) (F : fk_ own idx R_M T_M 25 6) (d : decode cc pc = .ok (.getfield idx, 3)) (kk : JJ G X k n mem (pc + 3) lo (vr G 185 :: st)) : JJ G X k n mem pc lo (vr G 182 :: st) := jj_get h (by decide) rfl rfl rfl F d kk
theorem jj_g_M_field (h : OK G X cc own nL) (F : fk_ own idx R_M T_M 25 7) (d : decode cc pc = .ok (.getfield idx, 3)) (kk : JJ G X k n mem (pc + 3) lo (vr G 186 :: st)) : JJ G X k n mem pc lo (vr G 182 :: st) := jj_get h (by decide) rfl rfl rfl F d kk
theorem jj_g_M_text (h : OK G X cc own nL) (F : fk_ own idx R_M T_M 25 8) (d : decode cc pc = .ok (.getfield idx, 3)) (kk : JJ G X k n mem (pc + 3) lo (vr G 187 :: st)) : JJ G X k n mem pc lo (vr G 182 :: st) := jj_get h (by decide) rfl rfl rfl F d kk
theorem jj_g_M_textSize (h : OK G X cc own nL) (F : fk_ own idx R_M T_M 25 9) (d : decode cc pc = .ok (.getfield idx, 3)) (kk : JJ G X k n mem (pc + 3) lo (vi (mem 182 9) :: st)) : JJ G X k n mem pc lo (vr G 182 :: st) := jj_get h (by decide) rfl rfl rfl F d kk
theorem jj_p_M_textSize (h : OK G X cc own nL) {z : Int} (F : fk_ own idx R_M T_M 25 9) (d : decode cc pc = .ok (.putfield idx, 3)) (kk : JJ G X k n (st_ mem 182 9 z) (pc + 3) lo st) : JJ G X k n mem pc lo (vi z :: vr G 182 :: st) := jj_put (zk := 9) (t0 := tf_M) (ty := .int) h (by decide) rfl rfl (Nat.le_of_ble_eq_true rfl) rfl F ⟨ty_M, nm_M, rfl⟩ (by decide +kernel) rfl rfl d kk
theorem jj_g_M_pile (h : OK G X cc own nL) (F : fk_ own idx R_M T_M 25 10) (d : decode cc pc = .ok (.getfield idx, 3)) (kk : JJ G X k n mem (pc + 3) lo (vi (mem 182 10) :: st)) : JJ G X k n mem pc lo (vr G 182 :: st) := jj_get h (by decide) rfl rfl rfl F d kk
theorem jj_p_M_pile (h : OK G X cc own nL) {z : Int} (F : fk_ own idx R_M T_M 25 10) (d : decode cc pc = .ok (.putfield idx, 3)) (kk : JJ G X k n (st_ mem 182 10 z) (pc + 3) lo st) : JJ G X k n mem pc lo (vi z :: vr G 182 :: st) := jj_put (zk := 10) (t0 := tf_M) (ty := .int) h (by decide) rfl rfl (Nat.le_of_ble_eq_true rfl) rfl F ⟨ty_M, nm_M, rfl⟩ (by decide +kernel) rfl rfl d kk
theorem jj_g_M_range (h : OK G X cc own nL) (F : fk_ own idx R_M T_M 25 11) (d : decode cc pc = .ok (.getfield idx, 3)) (kk : JJ G X k n mem (pc + 3) lo (vr G 188 :: st)) : JJ G X k n mem pc lo (vr G 182 :: st) := jj_get h (by decide) rfl rfl rfl F d kk
theorem jj_g_M_found (h : OK G X cc own nL) (F : fk_ own idx R_M T_M 25 12) (d : decode cc pc = .ok (.getfield idx, 3)) (kk : JJ G X k n mem (pc + 3) lo (vr G 189 :: st)) : JJ G X k n mem pc lo (vr G 182 :: st) := jj_get h (by decide) rfl rfl rfl F d kk
theorem jj_g_M_at (h : OK G X cc own nL) (F : fk_ own idx R_M T_M 25 13) (d : decode cc pc = .ok (.getfield idx, 3)) (kk : JJ G X k n mem (pc + 3) lo (vi (mem 182 13) :: st)) : JJ G X k n mem pc lo (vr G 182 :: st) := jj_get h (by decide) rfl rfl rfl F d kk
theorem jj_p_M_at (h : OK G X cc own nL) {z : Int} (F : fk_ own idx R_M T_M 25 13) (d : decode cc pc = .ok (.putfield idx, 3)) (kk : JJ G X k n (st_ mem 182 13 z) (pc + 3) lo st) : JJ G X k n mem pc lo (vi z :: vr G 182 :: st) := jj_put (zk := 13) (t0 := tf_M) (ty := .int) h (by decide) rfl rfl (Nat.le_of_ble_eq_true rfl) rfl F ⟨ty_M, nm_M, rfl⟩ (by decide +kernel) rfl rfl d kk
theorem jj_g_M_stop (h : OK G X cc own nL) (F : fk_ own idx R_M T_M 25 14) (d : decode cc pc = .ok (.getfield idx, 3)) (kk : JJ G X k n mem (pc + 3) lo (vi (mem 182 14) :: st)) : JJ G X k n mem pc lo (vr G 182 :: st) := jj_get h (by decide) rfl rfl rfl F d kk
theorem jj_p_M_stop (h : OK G X cc own nL) {z : Int} (F : fk_ own idx R_M T_M 25 14) (d : decode cc pc = .ok (.putfield idx, 3)) (kk : JJ G X k n (st_ mem 182 14 z) (pc + 3) lo st) : JJ G X k n mem pc lo (vi z :: vr G 182 :: st) := jj_put (zk := 14) (t0 := tf_M) (ty := .int) h (by decide) rfl rfl (Nat.le_of_ble_eq_true rfl) rfl F ⟨ty_M, nm_M, rfl⟩ (by decide +kernel) rfl rfl d kk
theorem jj_g_M_wordAt (h : OK G X cc own nL) (F : fk_ own idx R_M T_M 25 15) (d : decode cc pc = .ok (.getfield idx, 3)) (kk : JJ G X k n mem (pc + 3) lo (vi (mem 182 15) :: st)) : JJ G X k n mem pc lo (vr G 182 :: st) := jj_get h (by decide) rfl rfl rfl F d kk
theorem jj_p_M_wordAt (h : OK G X cc own nL) {z : Int} (F : fk_ own idx R_M T_M 25 15) (d : decode cc pc = .ok (.putfield idx, 3)) (kk : JJ G X k n (st_ mem 182 15 z) (pc + 3) lo st) : JJ G X k n mem pc lo (vi z :: vr G 182 :: st) := jj_put (zk := 15) (t0 := tf_M) (ty := .int) h (by decide) rfl rfl (Nat.le_of_ble_eq_true rfl) rfl F ⟨ty_M, nm_M, rfl⟩ (by decide +kernel) rfl rfl d kk
theorem jj_g_M_wordSize (h : OK G X cc own nL) (F : fk_ own idx R_M T_M 25 16) (d : decode cc pc = .ok (.getfield idx, 3)) (kk : JJ G X k n mem (pc + 3) lo (vi (mem 182 16) :: st)) : JJ G X k n mem pc lo (vr G 182 :: st) := jj_get h (by decide) rfl rfl rfl F d kk
theorem jj_p_M_wordSize (h : OK G X cc own nL) {z : Int} (F : fk_ own idx R_M T_M 25 16) (d : decode cc pc = .ok (.putfield idx, 3)) (kk : JJ G X k n (st_ mem 182 16 z) (pc + 3) lo st) : JJ G X k n mem pc lo (vi z :: vr G 182 :: st) := jj_put (zk := 16) (t0 := tf_M) (ty := .int) h (by decide) rfl rfl (Nat.le_of_ble_eq_true rfl) rfl F ⟨ty_M, nm_M, rfl⟩ (by decide +kernel) rfl rfl d kk
theorem jj_g_M_out (h : OK G X cc own nL) (F : fk_ own idx R_M T_M 25 17) (d : decode cc pc = .ok (.getfield idx, 3)) (kk : JJ G X k n mem (pc + 3) lo (vi (mem 182 17) :: st)) : JJ G X k n mem pc lo (vr G 182 :: st) := jj_get h (by decide) rfl rfl rfl F d kk
theorem jj_p_M_out (h : OK G X cc own nL) {z : Int} (F : fk_ own idx R_M T_M 25 17) (d : decode cc pc = .ok (.putfield idx, 3)) (kk : JJ G X k n (st_ mem 182 17 z) (pc + 3) lo st) : JJ G X k n mem pc lo (vi z :: vr G 182 :: st) := jj_put (zk := 17) (t0 := tf_M) (ty := .int) h (by decide) rfl rfl (Nat.le_of_ble_eq_true rfl) rfl F ⟨ty_M, nm_M, rfl⟩ (by decide +kernel) rfl rfl d kk
theorem jj_g_M_file (h : OK G X cc own nL) (F : fk_ own idx R_M T_M 25 18) (d : decode cc pc = .ok (.getfield idx, 3)) (kk : JJ G X k n mem (pc + 3) lo (vr G 190 :: st)) : JJ G X k n mem pc lo (vr G 182 :: st) := jj_get h (by decide) rfl rfl rfl F d kk
theorem jj_g_M_column (h : OK G X cc own nL) (F : fk_ own idx R_M T_M 25 19) (d : decode cc pc = .ok (.getfield idx, 3)) (kk : JJ G X k n mem (pc + 3) lo (vi (mem 182 19) :: st)) : JJ G X k n mem pc lo (vr G 182 :: st) := jj_get h (by decide) rfl rfl rfl F d kk
theorem jj_p_M_column (h : OK G X cc own nL) {z : Int} (F : fk_ own idx R_M T_M 25 19) (d : decode cc pc = .ok (.putfield idx, 3)) (kk : JJ G X k n (st_ mem 182 19 z) (pc + 3) lo st) : JJ G X k n mem pc lo (vi z :: vr G 182 :: st) := jj_put (zk := 19) (t0 := tf_M) (ty := .int) h (by decide) rfl rfl (Nat.le_of_ble_eq_true rfl) rfl F ⟨ty_M, nm_M, rfl⟩ (by decide +kernel) rfl rfl d kk
theorem jj_g_M_written (h : OK G X cc own nL) (F : fk_ own idx R_M T_M 25 20) (d : decode cc pc = .ok (.getfield idx, 3)) (kk : JJ G X k n mem (pc + 3) lo (vi (mem 182 20) :: st)) : JJ G X k n mem pc lo (vr G 182 :: st) := jj_get h (by decide) rfl rfl rfl F d kk
theorem jj_p_M_written (h : OK G X cc own nL) {z : Int} (F : fk_ own idx R_M T_M 25 20) (d : decode cc pc = .ok (.putfield idx, 3)) (kk : JJ G X k n (st_ mem 182 20 z) (pc + 3) lo st) : JJ G X k n mem pc lo (vi z :: vr G 182 :: st) := jj_put (zk := 20) (t0 := tf_M) (ty := .int) h (by decide) rfl rfl (Nat.le_of_ble_eq_true rfl) rfl F ⟨ty_M, nm_M, rfl⟩ (by decide +kernel) rfl rfl d kk
theorem jj_g_M_kept (h : OK G X cc own nL) (F : fk_ own idx R_M T_M 25 21) (d : decode cc pc = .ok (.getfield idx, 3)) (kk : JJ G X k n mem (pc + 3) lo (vr G 191 :: st)) : JJ G X k n mem pc lo (vr G 182 :: st) := jj_get h (by decide) rfl rfl rfl F d kk
theorem jj_g_M_open (h : OK G X cc own nL) (F : fk_ own idx R_M T_M 25 22) (d : decode cc pc = .ok (.getfield idx, 3)) (kk : JJ G X k n mem (pc + 3) lo (vi (mem 182 22) :: st)) : JJ G X k n mem pc lo (vr G 182 :: st) := jj_get h (by decide) rfl rfl rfl F d kk
theorem jj_p_M_open (h : OK G X cc own nL) {z : Int} (F : fk_ own idx R_M T_M 25 22) (d : decode cc pc = .ok (.putfield idx, 3)) (kk : JJ G X k n (st_ mem 182 22 z) (pc + 3) lo st) : JJ G X k n mem pc lo (vi z :: vr G 182 :: st) := jj_put (zk := 22) (t0 := tf_M) (ty := .int) h (by decide) rfl rfl (Nat.le_of_ble_eq_true rfl) rfl F ⟨ty_M, nm_M, rfl⟩ (by decide +kernel) rfl rfl d kk
theorem jj_g_M_openEntity (h : OK G X cc own nL) (F : fk_ own idx R_M T_M 25 23) (d : decode cc pc = .ok (.getfield idx, 3)) (kk : JJ G X k n mem (pc + 3) lo (vr G 192 :: st)) : JJ G X k n mem pc lo (vr G 182 :: st) := jj_get h (by decide) rfl rfl rfl F d kk
theorem jj_g_M_openNext (h : OK G X cc own nL) (F : fk_ own idx R_M T_M 25 24) (d : decode cc pc = .ok (.getfield idx, 3)) (kk : JJ G X k n mem (pc + 3) lo (vr G 193 :: st)) : JJ G X k n mem pc lo (vr G 182 :: st) := jj_get h (by decide) rfl rfl rfl F d kk
end JJG
end
section
/-! The memory as a function; slices of a row as lists. -/
theorem st_at (mem : mt_M) (r : Nat) (z v : Int) (r' : Nat) (z' : Int) : st_ mem r z v r' z' = if r' = r ∧ z' = z then v else mem r' z' := by
  unfold st_
  by_cases h : r' = r
  · subst h
    by_cases h2 : z' = z
    · simp [h2]
    · simp [h2]
  · simp [h]
theorem st_same {mem : mt_M} {r : Nat} {z v : Int} : st_ mem r z v r z = v := by simp [st_at]
theorem st_row {mem : mt_M} {r r' : Nat} {z v : Int} (h : r' ≠ r) : st_ mem r z v r' = mem r' := by funext z'; simp [st_at, h]
theorem st_ne {mem : mt_M} {r r' : Nat} {z z' v : Int} (h : r' ≠ r ∨ z' ≠ z) : st_ mem r z v r' z' = mem r' z' := by
  rw [st_at, if_neg]; rintro ⟨h1, h2⟩; rcases h with h | h <;> exact h (by assumption)
theorem st_id {mem : mt_M} {r : Nat} {z : Int} : st_ mem r z (mem r z) = mem := by
  funext r' z'
  rw [st_at]
  split
  · rename_i h; rw [h.1, h.2]
  · rfl
theorem st_st {mem : mt_M} {r : Nat} {z v w : Int} : st_ (st_ mem r z v) r z w = st_ mem r z w := by
  funext r' z'
  simp only [st_at]
  split <;> simp_all
theorem st_comm {mem : mt_M} {r r2 : Nat} {z z2 v w : Int} (h : r ≠ r2 ∨ z ≠ z2) : st_ (st_ mem r z v) r2 z2 w = st_ (st_ mem r2 z2 w) r z v := by
  funext r' z'
  simp only [st_at]
  by_cases h1 : r' = r2 ∧ z' = z2
  · by_cases h2 : r' = r ∧ z' = z
    · obtain ⟨a, b⟩ := h1; obtain ⟨c, d⟩ := h2; subst a b; rcases h with h | h
      · exact absurd c.symm h
      · exact absurd d.symm h
    · simp [h1, h2]
      intro a b; exact absurd ⟨h1.1.trans a, h1.2.trans b⟩ h2
  · by_cases h2 : r' = r ∧ z' = z
    · simp [h1, h2]
      intro a b; exact absurd ⟨h2.1.trans a, h2.2.trans b⟩ h1
    · simp [h1, h2]
/-- the n numbers of a row from p on -/
def sl (f : Int → Int) : Int → Nat → List Int
  | _, 0 => []
  | p, n + 1 => f p :: sl f (p + 1) n
/-- .. from p up to e -/
def slc (f : Int → Int) (p e : Int) : List Int := sl f p (e - p).toNat
theorem sl_len (f : Int → Int) : ∀ (n : Nat) (p : Int), (sl f p n).length = n
  | 0, _ => rfl
  | n + 1, p => by simp [sl, sl_len f n]
theorem sl_app (f : Int → Int) : ∀ (n m : Nat) (p : Int), sl f p (n + m) = sl f p n ++ sl f (p + n) m
  | 0, m, p => by simp [sl]
  | n + 1, m, p => by
    rw [Nat.succ_add]
    simp only [sl, List.cons_append]
    rw [sl_app f n m (p + 1)]
    congr 3
    omega
theorem sl_ext {f g : Int → Int} : ∀ (n : Nat) (p : Int), (∀ i : Int, p ≤ i → i < p + n → f i = g i) → sl f p n = sl g p n
  | 0, _, _ => rfl
  | n + 1, p, h => by
    simp only [sl]
    rw [h p (by omega) (by omega), sl_ext n (p + 1) (fun i h1 h2 => h i (by omega) (by omega))]
theorem sl_get {f : Int → Int} : ∀ (n : Nat) (p : Int) (i : Nat), i < n → (sl f p n)[i]? = some (f (p + i))
  | 0, _, _, h => by omega
  | n + 1, p, 0, _ => by simp [sl]
  | n + 1, p, i + 1, h => by
    simp only [sl, List.getElem?_cons_succ]
    rw [sl_get n (p + 1) i (by omega)]
    congr 2
    omega
theorem slc_nil {f : Int → Int} {p e : Int} (h : e ≤ p) : slc f p e = [] := by
  unfold slc; rw [show (e - p).toNat = 0 by omega]; rfl
theorem slc_cons {f : Int → Int} {p e : Int} (h : p < e) : slc f p e = f p :: slc f (p + 1) e := by
  unfold slc; rw [show (e - p).toNat = (e - (p + 1)).toNat + 1 by omega]; rfl
theorem slc_len {f : Int → Int} {p e : Int} : (slc f p e).length = (e - p).toNat := sl_len _ _ _
theorem slc_lenI {f : Int → Int} {p e : Int} (h : p ≤ e) : ((slc f p e).length : Int) = e - p := by rw [slc_len]; omega
theorem slc_app {f : Int → Int} {p q e : Int} (h1 : p ≤ q) (h2 : q ≤ e) : slc f p e = slc f p q ++ slc f q e := by
  unfold slc
  rw [show (e - p).toNat = (q - p).toNat + (e - q).toNat by omega, sl_app]
  congr 2
  omega
theorem slc_snoc {f : Int → Int} {p e : Int} (h : p ≤ e) : slc f p (e + 1) = slc f p e ++ [f e] := by
  rw [slc_app h (by omega), slc_cons (show e < e + 1 by omega), slc_nil (Int.le_refl _)]
theorem slc_ext {f g : Int → Int} {p e : Int} (h : ∀ i : Int, p ≤ i → i < e → f i = g i) : slc f p e = slc g p e := by
  unfold slc
  exact sl_ext _ _ (fun i h1 h2 => h i h1 (by omega))
theorem slc_get {f : Int → Int} {p e i : Int} (h0 : 0 ≤ i) (h1 : i < e - p) : (slc f p e)[i.toNat]? = some (f (p + i)) := by
  unfold slc
  rw [sl_get _ _ _ (by omega)]
  congr 2
  omega
theorem slc_inj {f g : Int → Int} {p q e s : Int} (h : slc f p e = slc g q s) {i : Int} (h0 : 0 ≤ i) (h1 : i < e - p) : f (p + i) = g (q + i) := by
  have hl := congrArg List.length h
  rw [slc_len, slc_len] at hl
  have a := slc_get (f := f) (p := p) (e := e) h0 h1
  have b := slc_get (f := g) (p := q) (e := s) h0 (by omega)
  rw [h, b] at a
  exact (Option.some.inj a).symm
end
section
/-! More rows of JJ: switches, literals, Math.min and max, null. -/
section JJMore
variable {G : mt_G} {X : mt_X} {cc : ByteArray} {own : String} {nL k n : Nat} {mem : mt_M} {pc : Nat} {lo : List (Option Value)} {st : List Value}
theorem jj_tableIn (h : OK G X cc own nL) {dflt l0 hi : Int} {offs : Array Int} {len : Nat} {x off : Int} (tgt : Nat) (d : decode cc pc = .ok (.tableswitch dflt l0 hi offs, len)) (hx : r32 x) (h1 : l0 ≤ x) (h2 : x ≤ hi) (ho : offs[(x - l0).toNat]? = some off) (ht : (pc : Int) + off = (tgt : Int)) (kk : JJ G X k n mem tgt lo st) : JJ G X k n mem pc lo (vi x :: st) := by
  obtain ⟨p, l, e, R, s, m, args, below, meth, c, A, Q⟩ := X
  intro H locs ls hP hS hL
  exact lv_tableIn h.1 h.2.1 d (by rw [r32_to hx]; omega) (by rw [r32_to hx]; omega) (by rw [r32_to hx]; exact ho) ht (kk H locs ls hP hS hL)
theorem jj_tableOut (h : OK G X cc own nL) {dflt l0 hi : Int} {offs : Array Int} {len : Nat} {x : Int} (tgt : Nat) (d : decode cc pc = .ok (.tableswitch dflt l0 hi offs, len)) (hx : r32 x) (h1 : x < l0 ∨ hi < x) (ht : (pc : Int) + dflt = (tgt : Int)) (kk : JJ G X k n mem tgt lo st) : JJ G X k n mem pc lo (vi x :: st) := by
  obtain ⟨p, l, e, R, s, m, args, below, meth, c, A, Q⟩ := X
  intro H locs ls hP hS hL
  exact lv_tableOut h.1 h.2.1 d (by rw [r32_to hx]; exact h1) ht (kk H locs ls hP hS hL)
theorem jj_lookup (h : OK G X cc own nL) {dflt : Int} {ps : Array (Int × Int)} {len : Nat} {x off : Int} (tgt : Nat) (d : decode cc pc = .ok (.lookupswitch dflt ps, len)) (hp : (ps.toList.zip (ps.toList.drop 1)).all (fun (a, next) => a.1 < next.1) = true) (hx : r32 x) (ho : Op.lookupswitch.offset ps.toList dflt x = off) (ht : (pc : Int) + off = (tgt : Int)) (kk : JJ G X k n mem tgt lo st) : JJ G X k n mem pc lo (vi x :: st) := by
  obtain ⟨p, l, e, R, s, m, args, below, meth, c, A, Q⟩ := X
  intro H locs ls hP hS hL
  exact lv_lookup h.1 h.2.1 d hp (by rw [r32_to hx]; exact ho) ht (kk H locs ls hP hS hL)
/-- a literal -/
theorem jj_ldcS (h : OK G X cc own nL) {idx : Nat} {tx : String} (i : Nat) (hq : mt_str[i]? = some (own, idx, tx)) (d : decode cc pc = .ok (.ldc idx, 2)) (kk : JJ G X k n mem (pc + 2) lo (vs G i :: st)) : JJ G X k n mem pc lo st := by
  obtain ⟨p, l, e, R, s, m, args, below, meth, c, A, Q⟩ := X
  intro H locs ls hP hS hL
  obtain ⟨hx, hb, hml, ho, hts, hK, hi, hA, hN, hE⟩ := h
  exact va_ldcS hx hb ho (hE.2.1 i _ hq) d (kk H locs ls hP hS hL)
end JJMore
end
section
/-! The document's terms as functions of lists of numbers. -/
abbrev bl_ (c : Int) : Prop := c = 32 ∨ c = 9
def sm_ (c : Int) : Int := if 65 ≤ c ∧ c ≤ 90 then c + 32 else c
/-- a byte of an atom -/
def at_ (c : Int) : Bool := decide (33 ≤ c ∧ c ≤ 126 ∧ ¬ (c = 40 ∨ c = 41 ∨ c = 60 ∨ c = 62 ∨ c = 64 ∨ c = 44 ∨ c = 59 ∨ c = 58 ∨ c = 92 ∨ c = 34 ∨ c = 47 ∨ c = 91 ∨ c = 93 ∨ c = 63 ∨ c = 61))
/-- the word w, whatever its capital letters -/
def wd_ (w l : List Int) : Bool := decide (l.map sm_ = w)
/-- behind the space that begins here; o comments are open -/
def skp : Nat → List Int → List Int
  | _, [] => []
  | o, [b] => if o = 0 ∧ b ≠ 40 ∧ ¬ bl_ b then [b] else []
  | o, b :: c :: t => if o = 0 ∧ b ≠ 40 ∧ ¬ bl_ b then b :: c :: t else if b = 40 then skp (o + 1) (c :: t) else if b = 41 then skp (o - 1) (c :: t) else if b = 92 then skp o t else skp o (c :: t)
/-- behind a sign -/
def tk_ (c : Int) : List Int → Option (List Int)
  | [] => none
  | b :: t => if b = c then some t else none
/-- behind the opening '"': what stands up to the closing one, and what comes behind it -/
def qtd : List Int → Option (List Int × List Int)
  | [] => none
  | [b] => if b = 34 then some ([], []) else none
  | b :: c :: t => if b = 34 then some ([], c :: t) else if b = 92 then (qtd t).map (fun q => (c :: q.1, q.2)) else (qtd (c :: t)).map (fun q => (b :: q.1, q.2))
/-- an atom (with at least a byte) and what comes behind it -/
def atm (l : List Int) : Option (List Int × List Int) := if l.takeWhile at_ = [] then none else some (l.takeWhile at_, l.dropWhile at_)
/-- 'boundary' -/
def w_boundary : List Int := [98, 111, 117, 110, 100, 97, 114, 121]
def w_base64 : List Int := [98, 97, 115, 101, 54, 52]
def w_qp : List Int := [113, 117, 111, 116, 101, 100, 45, 112, 114, 105, 110, 116, 97, 98, 108, 101]
def w_message : List Int := [109, 101, 115, 115, 97, 103, 101]
def w_rfc822 : List Int := [114, 102, 99, 56, 50, 50]
def w_multipart : List Int := [109, 117, 108, 116, 105, 112, 97, 114, 116]
def w_ctype : List Int := [99, 111, 110, 116, 101, 110, 116, 45, 116, 121, 112, 101]
def w_cte : List Int := [99, 111, 110, 116, 101, 110, 116, 45, 116, 114, 97, 110, 115, 102, 101, 114, 45, 101, 110, 99, 111, 100, 105, 110, 103]
/-- a parameter: is its attribute boundary, its value, what comes behind it -/
def par (l : List Int) : Option (Bool × List Int × List Int) :=
  (tk_ 59 l).bind fun l1 => (atm (skp 0 l1)).bind fun q => (tk_ 61 (skp 0 q.2)).bind fun l2 =>
    (match tk_ 34 (skp 0 l2) with
      | some l3 => qtd l3
      | none => atm (skp 0 l2)).map fun (w : List Int × List Int) => (wd_ w_boundary q.1, w.1, skp 0 w.2)
/-- the value of the first parameter boundary -/
def prs : Nat → List Int → Option (List Int)
  | 0, _ => none
  | n + 1, l => match par l with
    | none => none
    | some q => if q.1 then some q.2.1 else prs n q.2.2
/-- can it be a boundary -/
def bd_ (w : List Int) : Bool := decide (1 ≤ w.length ∧ w.length ≤ 20 ∧ (∀ c ∈ w, 32 ≤ c ∧ c ≤ 126) ∧ w.getLast? ≠ some 32)
/-- kind and boundary of a multipart, out of its parameters -/
def mlt (r : List Int) : Int × List Int := match prs r.length r with
  | none => (0, [])
  | some b => if bd_ b then (1, b) else (0, [])
def kn2 : Option (List Int × List Int × List Int) → Int × List Int
  | none => (0, [])
  | some (t, s, r) => if wd_ w_message t ∧ wd_ w_rfc822 s then (2, []) else if wd_ w_multipart t then mlt r else (0, [])
/-- kind and boundary out of the value of Content-Type -/
def knd (l : List Int) : Int × List Int := kn2 ((atm (skp 0 l)).bind fun q => (tk_ 47 (skp 0 q.2)).bind fun l2 => (atm (skp 0 l2)).map fun r => (q.1, r.1, skp 0 r.2))
/-- the encoding out of the value of Content-Transfer-Encoding -/
def enc_ (l : List Int) : Int :=
  match atm (skp 0 l) with
  | none => 0
  | some q => if skp 0 q.2 = [] then (if wd_ w_base64 q.1 then 1 else if wd_ w_qp q.1 then 2 else 0) else 0
end
section
/-! The reference's small methods. -/
def by_ (f : Int → Int) (p e : Int) : Prop := ∀ i : Int, p ≤ i → i < e → 0 ≤ f i ∧ f i ≤ 255
theorem by_.sub {f : Int → Int} {p e p' e' : Int} (h : by_ f p e) (h1 : p ≤ p') (h2 : e' ≤ e) : by_ f p' e' := fun i a b => h i (by omega) (by omega)
theorem cM_isBlank {G : mt_G} {l : Launch} {mem : mt_M} {c : Int} (hc : r32 c) : CT G l y_M_isBlank c_M_isBlank 1 (some .boolean) 1 [vi c] mem (fun v m' => v = some (vi (if bl_ c then 1 else 0)) ∧ mem = m') := by
  obtain ⟨hc1, hc2⟩ := hc
  refine CT.intro (by decide) rfl (Nat.le_of_ble_eq_true rfl) (fun X h he => ?_)
  refine jj_iload_n h d_M_isBlank_0 rfl ?_
  refine jj_bipush h d_M_isBlank_1 (by decide) ?_
  refine jj_icmp_eq h 12 d_M_isBlank_3 (by decide) ⟨by omega, by omega⟩ ⟨by omega, by omega⟩ (fun q3 => ?_) (fun q3 => ?_)
  · refine jj_iconst h d_M_isBlank_12 ?_
    refine jj_goto h 17 d_M_isBlank_13 (by decide) ?_
    refine jj_zret h he (by omega) d_M_isBlank_17 ?_
    exact ⟨by congr 2; simp only [bl_]; split <;> omega, rfl⟩
  · refine jj_iload_n h d_M_isBlank_6 rfl ?_
    refine jj_bipush h d_M_isBlank_7 (by decide) ?_
    refine jj_icmp_ne h 16 d_M_isBlank_9 (by decide) ⟨by omega, by omega⟩ ⟨by omega, by omega⟩ (fun q9 => ?_) (fun q9 => ?_)
    · refine jj_iconst h d_M_isBlank_16 ?_
      refine jj_zret h he (by omega) d_M_isBlank_17 ?_
      exact ⟨by congr 2; simp only [bl_]; split <;> omega, rfl⟩
    · refine jj_iconst h d_M_isBlank_12 ?_
      refine jj_goto h 17 d_M_isBlank_13 (by decide) ?_
      refine jj_zret h he (by omega) d_M_isBlank_17 ?_
      exact ⟨by congr 2; simp only [bl_]; split <;> omega, rfl⟩
theorem cM_small {G : mt_G} {l : Launch} {mem : mt_M} {c : Int} (hc : r32 c) : CT G l y_M_small c_M_small 1 (some .int) 1 [vi c] mem (fun v m' => v = some (vi (sm_ c)) ∧ mem = m') := by
  obtain ⟨hc1, hc2⟩ := hc
  refine CT.intro (by decide) rfl (Nat.le_of_ble_eq_true rfl) (fun X h he => ?_)
  refine jj_iload_n h d_M_small_0 rfl ?_
  refine jj_bipush h d_M_small_1 (by decide) ?_
  refine jj_icmp_lt h 19 d_M_small_3 (by decide) ⟨by omega, by omega⟩ ⟨by omega, by omega⟩ (fun q3 => ?_) (fun q3 => ?_)
  · refine jj_iload_n h d_M_small_19 rfl ?_
    refine jj_iret h he d_M_small_20 ?_
    exact ⟨by congr 2; simp only [sm_]; split <;> omega, rfl⟩
  · refine jj_iload_n h d_M_small_6 rfl ?_
    refine jj_bipush h d_M_small_7 (by decide) ?_
    refine jj_icmp_gt h 19 d_M_small_9 (by decide) ⟨by omega, by omega⟩ ⟨by omega, by omega⟩ (fun q9 => ?_) (fun q9 => ?_)
    · refine jj_iload_n h d_M_small_19 rfl ?_
      refine jj_iret h he d_M_small_20 ?_
      exact ⟨by congr 2; simp only [sm_]; split <;> omega, rfl⟩
    · refine jj_iload_n h d_M_small_12 rfl ?_
      refine jj_bipush h d_M_small_13 (by decide) ?_
      refine jj_iadd h d_M_small_15 ?_
      refine jj_goto h 20 d_M_small_16 (by decide) ?_
      refine jj_iret h he d_M_small_20 ?_
      exact ⟨by congr 2; simp only [sm_]; split <;> omega, rfl⟩
theorem cM_thrown {G : mt_G} {l : Launch} {mem : mt_M} : CT G l y_M_thrown c_M_thrown 1 (some .int) 1 [vr G 182] mem (fun v m' => v = some (vi (mem 182 0)) ∧ mem = m') := by
  refine CT.intro (by decide) rfl (Nat.le_of_ble_eq_true rfl) (fun X h he => ?_)
  refine jj_aload_n h d_M_thrown_0 rfl ⟨_, rfl⟩ ?_
  refine jj_g_M_thrown h  fl_M_43 d_M_thrown_1 ?_
  refine jj_iret h he d_M_thrown_4 ?_
  exact ⟨rfl, rfl⟩
/-- one number more behind the text -/
def k1 (mem : mt_M) (c : Int) : mt_M := st_ (st_ mem 187 (mem 182 9) c) 182 9 (mem 182 9 + 1)
theorem cM_keep {G : mt_G} {l : Launch} {mem : mt_M} {c : Int} (h0 : 0 ≤ mem 182 9) (h1 : mem 182 9 < 1400) : CT G l y_M_keep c_M_keep 2 none 1 [vr G 182, vi c] mem (fun v m' => v = none ∧ k1 mem c = m') := by
  refine CT.intro (by decide) rfl (Nat.le_of_ble_eq_true rfl) (fun X h he => ?_)
  refine jj_aload_n h d_M_keep_0 rfl ⟨_, rfl⟩ ?_
  refine jj_g_M_text h  fl_M_22 d_M_keep_1 ?_
  refine jj_aload_n h d_M_keep_4 rfl ⟨_, rfl⟩ ?_
  refine jj_g_M_textSize h  fl_M_56 d_M_keep_5 ?_
  refine jj_iload_n h d_M_keep_8 rfl ?_
  refine jj_iastore (N := 1400) h (by decide) (fun _ => rfl) (by decide) (by omega) (by omega) d_M_keep_9 ?_
  refine jj_aload_n h d_M_keep_10 rfl ⟨_, rfl⟩ ?_
  refine jj_dup h d_M_keep_11 rfl ?_
  refine jj_g_M_textSize h  fl_M_56 d_M_keep_12 ?_
  refine jj_iconst h d_M_keep_15 ?_
  refine jj_iadd h d_M_keep_16 ?_
  refine jj_p_M_textSize h  fl_M_56 d_M_keep_17 ?_
  refine jj_vret h he d_M_keep_20 ?_
  exact ⟨rfl, rfl⟩
theorem cM_of {G : mt_G} {l : Launch} {mem : mt_M} {e w : Int} (h0 : 0 ≤ 16 * e + w) (h1 : 16 * e + w < 256) : CT G l y_M_of c_M_of 3 (some .int) 1 [vr G 182, vi e, vi w] mem (fun v m' => v = some (vi (mem 185 (16 * e + w))) ∧ mem = m') := by
  refine CT.intro (by decide) rfl (Nat.le_of_ble_eq_true rfl) (fun X h he => ?_)
  refine jj_aload_n h d_M_of_0 rfl ⟨_, rfl⟩ ?_
  refine jj_g_M_data h  fl_M_16 d_M_of_1 ?_
  refine jj_bipush h d_M_of_4 (by decide) ?_
  refine jj_iload_n h d_M_of_6 rfl ?_
  refine jj_imul h d_M_of_7 ?_
  refine jj_iload_n h d_M_of_8 rfl ?_
  refine jj_iadd h d_M_of_9 ?_
  refine jj_iaload (N := 256) h (by decide) rfl (by decide) (by omega) (by omega) d_M_of_10 ?_
  refine jj_iret h he d_M_of_11 ?_
  exact ⟨rfl, rfl⟩
theorem cM_set {G : mt_G} {l : Launch} {mem : mt_M} {e w x : Int} (h0 : 0 ≤ 16 * e + w) (h1 : 16 * e + w < 256) : CT G l y_M_set c_M_set 4 none 1 [vr G 182, vi e, vi w, vi x] mem (fun v m' => v = none ∧ st_ mem 185 (16 * e + w) x = m') := by
  refine CT.intro (by decide) rfl (Nat.le_of_ble_eq_true rfl) (fun X h he => ?_)
  refine jj_aload_n h d_M_set_0 rfl ⟨_, rfl⟩ ?_
  refine jj_g_M_data h  fl_M_16 d_M_set_1 ?_
  refine jj_bipush h d_M_set_4 (by decide) ?_
  refine jj_iload_n h d_M_set_6 rfl ?_
  refine jj_imul h d_M_set_7 ?_
  refine jj_iload_n h d_M_set_8 rfl ?_
  refine jj_iadd h d_M_set_9 ?_
  refine jj_iload_n h d_M_set_10 rfl ?_
  refine jj_iastore (N := 256) h (by decide) (fun _ => rfl) (by decide) (by omega) (by omega) d_M_set_11 ?_
  refine jj_vret h he d_M_set_12 ?_
  exact ⟨rfl, rfl⟩
theorem cM_fieldOf {G : mt_G} {l : Launch} {mem : mt_M} {e f w : Int} (h0 : 0 ≤ 4 * (8 * e + f) + w) (h1 : 4 * (8 * e + f) + w < 512) : CT G l y_M_fieldOf c_M_fieldOf 4 (some .int) 1 [vr G 182, vi e, vi f, vi w] mem (fun v m' => v = some (vi (mem 186 (4 * (8 * e + f) + w))) ∧ mem = m') := by
  refine CT.intro (by decide) rfl (Nat.le_of_ble_eq_true rfl) (fun X h he => ?_)
  refine jj_aload_n h d_M_fieldOf_0 rfl ⟨_, rfl⟩ ?_
  refine jj_g_M_field h  fl_M_19 d_M_fieldOf_1 ?_
  refine jj_iconst h d_M_fieldOf_4 ?_
  refine jj_bipush h d_M_fieldOf_5 (by decide) ?_
  refine jj_iload_n h d_M_fieldOf_7 rfl ?_
  refine jj_imul h d_M_fieldOf_8 ?_
  refine jj_iload_n h d_M_fieldOf_9 rfl ?_
  refine jj_iadd h d_M_fieldOf_10 ?_
  refine jj_imul h d_M_fieldOf_11 ?_
  refine jj_iload_n h d_M_fieldOf_12 rfl ?_
  refine jj_iadd h d_M_fieldOf_13 ?_
  refine jj_iaload (N := 512) h (by decide) rfl (by decide) (by omega) (by omega) d_M_fieldOf_14 ?_
  refine jj_iret h he d_M_fieldOf_15 ?_
  exact ⟨rfl, rfl⟩
/-- now(): -1 behind the end -/
theorem cM_now {G : mt_G} {l : Launch} {mem : mt_M} (h0 : 0 ≤ mem 182 13) (h1 : mem 182 14 ≤ 1400) (h2 : 0 ≤ mem 182 14) (h3 : mem 182 13 ≤ 1400) : CT G l y_M_now c_M_now 1 (some .int) 1 [vr G 182] mem (fun v m' => v = some (vi (if mem 182 13 < mem 182 14 then mem 187 (mem 182 13) else -1)) ∧ mem = m') := by
  refine CT.intro (by decide) rfl (Nat.le_of_ble_eq_true rfl) (fun X h he => ?_)
  refine jj_aload_n h d_M_now_0 rfl ⟨_, rfl⟩ ?_
  refine jj_g_M_at h  fl_M_93 d_M_now_1 ?_
  refine jj_aload_n h d_M_now_4 rfl ⟨_, rfl⟩ ?_
  refine jj_g_M_stop h  fl_M_96 d_M_now_5 ?_
  refine jj_icmp_ge h 23 d_M_now_8 (by decide) ⟨by omega, by omega⟩ ⟨by omega, by omega⟩ (fun q8 => ?_) (fun q8 => ?_)
  · refine jj_iconst h d_M_now_23 ?_
    refine jj_iret h he d_M_now_24 ?_
    first | exact ⟨by rw [if_neg (by omega)], rfl⟩ | exact ⟨by rw [if_pos (by omega)], rfl⟩
  · refine jj_aload_n h d_M_now_11 rfl ⟨_, rfl⟩ ?_
    refine jj_g_M_text h  fl_M_22 d_M_now_12 ?_
    refine jj_aload_n h d_M_now_15 rfl ⟨_, rfl⟩ ?_
    refine jj_g_M_at h  fl_M_93 d_M_now_16 ?_
    refine jj_iaload (N := 1400) h (by decide) rfl (by decide) (by omega) (by omega) d_M_now_19 ?_
    refine jj_goto h 24 d_M_now_20 (by decide) ?_
    refine jj_iret h he d_M_now_24 ?_
    first | exact ⟨by rw [if_neg (by omega)], rfl⟩ | exact ⟨by rw [if_pos (by omega)], rfl⟩
def le_ (f : Int → Int) (e : Int) : Nat → Int → Int
  | 0, _ => e
  | n + 1, q => if f q = 10 then q + 1 else le_ f e n (q + 1)
/-- where the line that begins at p ends, its end with it -/
def lineEnd_ (f : Int → Int) (p e : Int) : Int := le_ f e (e - p).toNat p
theorem lineEnd_out {f : Int → Int} {p e : Int} (h : e ≤ p) : lineEnd_ f p e = e := by
  unfold lineEnd_; rw [show (e - p).toNat = 0 by omega]; rfl
theorem lineEnd_in {f : Int → Int} {p e : Int} (h : p < e) : lineEnd_ f p e = if f p = 10 then p + 1 else lineEnd_ f (p + 1) e := by
  unfold lineEnd_; rw [show (e - p).toNat = (e - (p + 1)).toNat + 1 by omega]; rfl
theorem lineEnd_b {f : Int → Int} {e : Int} : ∀ (n : Nat) (p : Int), (e - p).toNat = n → p ≤ e → p ≤ lineEnd_ f p e ∧ lineEnd_ f p e ≤ e ∧ (p < e → p < lineEnd_ f p e)
  | 0, p, hn, hp => by rw [lineEnd_out (by omega)]; omega
  | n + 1, p, hn, hp => by
    rw [lineEnd_in (by omega)]
    split
    · omega
    · have := lineEnd_b (f := f) (e := e) n (p + 1) (by omega) (by omega); omega
theorem cM_lineEnd {G : mt_G} {l : Launch} {mem : mt_M} {p e : Int} (h0 : 0 ≤ p) (h1 : p ≤ e) (h2 : e ≤ 320) (hb : by_ (mem 184) p e) : CT G l y_M_lineEnd c_M_lineEnd 4 (some .int) 1 [vr G 182, vi p, vi e] mem (fun v m' => v = some (vi (lineEnd_ (mem 184) p e)) ∧ mem = m') := by
  refine CT.intro (by decide) rfl (Nat.le_of_ble_eq_true rfl) (fun X h he => ?_)
  have loop : ∀ (n : Nat) (q : Int), (e - q).toNat = n → p ≤ q → q ≤ e → lineEnd_ (mem 184) p e = lineEnd_ (mem 184) q e → JJ G X 0 0 mem 2 [some (vr G 182), some (vi p), some (vi e), some (vi q)] [] := by
    intro n
    induction n with
    | zero =>
      intro q hn hp hq hq2
      refine jj_iload_n h d_M_lineEnd_2 rfl ?_
      refine jj_iload_n h d_M_lineEnd_3 rfl ?_
      refine jj_icmp_ge h 24 d_M_lineEnd_4 (by decide) ⟨by omega, by omega⟩ ⟨by omega, by omega⟩ (fun _ => ?_) (fun q4 => absurd (by omega) q4)
      refine jj_iload_n h d_M_lineEnd_24 rfl ?_
      refine jj_iload_n h d_M_lineEnd_25 rfl ?_
      refine jj_icmp_ge h 35 d_M_lineEnd_26 (by decide) ⟨by omega, by omega⟩ ⟨by omega, by omega⟩ (fun _ => ?_) (fun q26 => absurd (by omega) q26)
      refine jj_iload_n h d_M_lineEnd_35 rfl ?_
      refine jj_iret h he d_M_lineEnd_36 ?_
      exact ⟨by rw [hq2, lineEnd_out (by omega)], rfl⟩
    | succ n ih =>
      intro q hn hp hq hq2
      have hq3 := hb q hp (by omega)
      rw [lineEnd_in (p := q) (by omega)] at hq2
      refine jj_iload_n h d_M_lineEnd_2 rfl ?_
      refine jj_iload_n h d_M_lineEnd_3 rfl ?_
      refine jj_icmp_ge h 24 d_M_lineEnd_4 (by decide) ⟨by omega, by omega⟩ ⟨by omega, by omega⟩ (fun q4 => absurd q4 (by omega)) (fun _ => ?_)
      refine jj_aload_n h d_M_lineEnd_7 rfl ⟨_, rfl⟩ ?_
      refine jj_g_M_src h  fl_M_13 d_M_lineEnd_8 ?_
      refine jj_iload_n h d_M_lineEnd_11 rfl ?_
      refine jj_iaload (N := 320) h (by decide) rfl (by decide) (by omega) (by omega) d_M_lineEnd_12 ?_
      refine jj_bipush h d_M_lineEnd_13 (by decide) ?_
      refine jj_icmp_eq h 24 d_M_lineEnd_15 (by decide) ⟨by omega, by omega⟩ ⟨by omega, by omega⟩ (fun q15 => ?_) (fun q15 => ?_)
      · refine jj_iload_n h d_M_lineEnd_24 rfl ?_
        refine jj_iload_n h d_M_lineEnd_25 rfl ?_
        refine jj_icmp_ge h 35 d_M_lineEnd_26 (by decide) ⟨by omega, by omega⟩ ⟨by omega, by omega⟩ (fun q26 => absurd q26 (by omega)) (fun _ => ?_)
        refine jj_iload_n h d_M_lineEnd_29 rfl ?_
        refine jj_iconst h d_M_lineEnd_30 ?_
        refine jj_iadd h d_M_lineEnd_31 ?_
        refine jj_goto h 36 d_M_lineEnd_32 (by decide) ?_
        refine jj_iret h he d_M_lineEnd_36 ?_
        exact ⟨by rw [hq2, if_pos (by assumption)], rfl⟩
      · refine jj_iinc h d_M_lineEnd_18 rfl rfl ?_
        refine jj_goto h 2 d_M_lineEnd_21 (by decide) ?_
        exact ih (q + 1) (by omega) (by omega) (by omega) (by rw [hq2, if_neg (by assumption)])
  refine jj_iload_n h d_M_lineEnd_0 rfl ?_
  refine jj_istore_n h d_M_lineEnd_1 (Nat.le_of_ble_eq_true rfl) rfl ?_
  exact loop _ p rfl (by omega) h1 rfl
end
section
/-! The reference: lines' texts, names, scanning. -/
def textEnd_ (f : Int → Int) (p e : Int) : Int := if lineEnd_ f p e = p ∨ ¬ f (lineEnd_ f p e - 1) = 10 then lineEnd_ f p e else if p < lineEnd_ f p e - 1 ∧ f (lineEnd_ f p e - 2) = 13 then lineEnd_ f p e - 2 else lineEnd_ f p e - 1
theorem textEnd_b {f : Int → Int} {p e : Int} (h : p ≤ e) : p ≤ textEnd_ f p e ∧ textEnd_ f p e ≤ lineEnd_ f p e ∧ textEnd_ f p e ≤ e := by
  have q := lineEnd_b (f := f) (e := e) _ p rfl h
  unfold textEnd_
  split
  · omega
  · split <;> omega
theorem cM_textEnd {G : mt_G} {l : Launch} {mem : mt_M} {p e : Int} (h0 : 0 ≤ p) (h1 : p ≤ e) (h2 : e ≤ 320) (hb : by_ (mem 184) p e) : CT G l y_M_textEnd c_M_textEnd 4 (some .int) 2 [vr G 182, vi p, vi e] mem (fun v m' => v = some (vi (textEnd_ (mem 184) p e)) ∧ mem = m') := by
  have hq := lineEnd_b (f := mem 184) (e := e) _ p rfl h1
  refine CT.intro (by decide) rfl (Nat.le_of_ble_eq_true rfl) (fun X h he => ?_)
  unfold textEnd_ at he
  refine jj_aload_n h d_M_textEnd_0 rfl ⟨_, rfl⟩ ?_
  refine jj_iload_n h d_M_textEnd_1 rfl ?_
  refine jj_iload_n h d_M_textEnd_2 rfl ?_
  refine jj_callV h (cM_lineEnd h0 h1 h2 hb) cv_M_52 (ro_of he (by decide) (by decide)) rfl rfl (by decide) rfl rfl rfl (Nat.le_of_ble_eq_true rfl) d_M_textEnd_3 (fun v m1 hv => ?_)
  obtain ⟨rfl, rfl⟩ := hv
  refine jj_istore_n h d_M_textEnd_6 (Nat.le_of_ble_eq_true rfl) rfl ?_
  refine jj_iload_n h d_M_textEnd_7 rfl ?_
  refine jj_iload_n h d_M_textEnd_8 rfl ?_
  refine jj_icmp_eq h 25 d_M_textEnd_9 (by decide) ⟨by omega, by omega⟩ ⟨by omega, by omega⟩ (fun q9 => ?_) (fun q9 => ?_)
  · refine jj_iload_n h d_M_textEnd_25 rfl ?_
    refine jj_iret h he d_M_textEnd_26 ?_
    exact ⟨by rw [if_pos (by omega)], rfl⟩
  · have hq2 := hb (lineEnd_ (mem 184) p e - 1) (by omega) (by omega)
    refine jj_aload_n h d_M_textEnd_12 rfl ⟨_, rfl⟩ ?_
    refine jj_g_M_src h  fl_M_13 d_M_textEnd_13 ?_
    refine jj_iload_n h d_M_textEnd_16 rfl ?_
    refine jj_iconst h d_M_textEnd_17 ?_
    refine jj_isub h d_M_textEnd_18 ?_
    refine jj_iaload (N := 320) h (by decide) rfl (by decide) (by omega) (by omega) d_M_textEnd_19 ?_
    refine jj_bipush h d_M_textEnd_20 (by decide) ?_
    refine jj_icmp_eq h 27 d_M_textEnd_22 (by decide) ⟨by omega, by omega⟩ ⟨by omega, by omega⟩ (fun q22 => ?_) (fun q22 => ?_)
    · refine jj_iinc h d_M_textEnd_27 rfl rfl ?_
      refine jj_iload_n h d_M_textEnd_30 rfl ?_
      refine jj_iload_n h d_M_textEnd_31 rfl ?_
      refine jj_icmp_le h 54 d_M_textEnd_32 (by decide) ⟨by omega, by omega⟩ ⟨by omega, by omega⟩ (fun q32 => ?_) (fun q32 => ?_)
      · refine jj_iload_n h d_M_textEnd_54 rfl ?_
        refine jj_iret h he d_M_textEnd_55 ?_
        first | exact ⟨by rw [if_neg (by omega), if_neg (by omega)]; congr 2, rfl⟩ | exact ⟨by rw [if_neg (by omega), if_pos (by omega)]; congr 2; omega, rfl⟩
      · have hq3 := hb (lineEnd_ (mem 184) p e - 2) (by omega) (by omega)
        refine jj_aload_n h d_M_textEnd_35 rfl ⟨_, rfl⟩ ?_
        refine jj_g_M_src h  fl_M_13 d_M_textEnd_36 ?_
        refine jj_iload_n h d_M_textEnd_39 rfl ?_
        refine jj_iconst h d_M_textEnd_40 ?_
        refine jj_isub h d_M_textEnd_41 ?_
        refine jj_iaload (N := 320) h (by decide) rfl (by decide) (by omega) (by omega) d_M_textEnd_42 ?_
        rw [show lineEnd_ (mem 184) p e + -1 - 1 = lineEnd_ (mem 184) p e - 2 by omega]
        refine jj_bipush h d_M_textEnd_43 (by decide) ?_
        refine jj_icmp_ne h 54 d_M_textEnd_45 (by decide) ⟨by omega, by omega⟩ ⟨by omega, by omega⟩ (fun q45 => ?_) (fun q45 => ?_)
        · refine jj_iload_n h d_M_textEnd_54 rfl ?_
          refine jj_iret h he d_M_textEnd_55 ?_
          first | exact ⟨by rw [if_neg (by omega), if_neg (by omega)]; congr 2, rfl⟩ | exact ⟨by rw [if_neg (by omega), if_pos (by omega)]; congr 2; omega, rfl⟩
        · refine jj_iload_n h d_M_textEnd_48 rfl ?_
          refine jj_iconst h d_M_textEnd_49 ?_
          refine jj_isub h d_M_textEnd_50 ?_
          refine jj_goto h 55 d_M_textEnd_51 (by decide) ?_
          refine jj_iret h he d_M_textEnd_55 ?_
          first | exact ⟨by rw [if_neg (by omega), if_neg (by omega)]; congr 2, rfl⟩ | exact ⟨by rw [if_neg (by omega), if_pos (by omega)]; congr 2; omega, rfl⟩
    · refine jj_iload_n h d_M_textEnd_25 rfl ?_
      refine jj_iret h he d_M_textEnd_26 ?_
      exact ⟨by rw [if_pos (by omega)], rfl⟩
/-- how many bytes of a name stand at p, with a ":" behind them; else 0 -/
def nb_ (c : Int) : Prop := 33 ≤ c ∧ c ≤ 126 ∧ c ≠ 58
def ns_ (f : Int → Int) (p e : Int) : Nat → Int → Int
  | 0, _ => 0
  | n + 1, q => if 32 < f q ∧ f q < 127 ∧ f q ≠ 58 then ns_ f p e n (q + 1) else if f q = 58 then q - p else 0
def nameSize_ (f : Int → Int) (p e : Int) : Int := ns_ f p e (e - p).toNat p
theorem cM_nameSize {G : mt_G} {l : Launch} {mem : mt_M} {p e : Int} (h0 : 0 ≤ p) (h1 : p ≤ e) (h2 : e ≤ 320) (hb : by_ (mem 184) p e) : CT G l y_M_nameSize c_M_nameSize 4 (some .int) 1 [vr G 182, vi p, vi e] mem (fun v m' => v = some (vi (nameSize_ (mem 184) p e)) ∧ mem = m') := by
  refine CT.intro (by decide) rfl (Nat.le_of_ble_eq_true rfl) (fun X h he => ?_)
  have loop : ∀ (n : Nat) (q : Int), (e - q).toNat = n → p ≤ q → q ≤ e → nameSize_ (mem 184) p e = ns_ (mem 184) p e n q → JJ G X 0 0 mem 2 [some (vr G 182), some (vi p), some (vi e), some (vi q)] [] := by
    intro n
    induction n with
    | zero =>
      intro q hn hp hq hq2
      refine jj_iload_n h d_M_nameSize_2 rfl ?_
      refine jj_iload_n h d_M_nameSize_3 rfl ?_
      refine jj_icmp_ge h 46 d_M_nameSize_4 (by decide) ⟨by omega, by omega⟩ ⟨by omega, by omega⟩ (fun _ => ?_) (fun q4 => absurd (by omega) q4)
      refine jj_iload_n h d_M_nameSize_46 rfl ?_
      refine jj_iload_n h d_M_nameSize_47 rfl ?_
      refine jj_icmp_ge h 68 d_M_nameSize_48 (by decide) ⟨by omega, by omega⟩ ⟨by omega, by omega⟩ (fun _ => ?_) (fun q48 => absurd (by omega) q48)
      refine jj_iconst h d_M_nameSize_68 ?_
      refine jj_iret h he d_M_nameSize_69 ?_
      exact ⟨by rw [hq2]; rfl, rfl⟩
    | succ n ih =>
      intro q hn hp hq hq2
      have hq3 := hb q hp (by omega)
      unfold ns_ at hq2
      refine jj_iload_n h d_M_nameSize_2 rfl ?_
      refine jj_iload_n h d_M_nameSize_3 rfl ?_
      refine jj_icmp_ge h 46 d_M_nameSize_4 (by decide) ⟨by omega, by omega⟩ ⟨by omega, by omega⟩ (fun q4 => absurd q4 (by omega)) (fun _ => ?_)
      refine jj_aload_n h d_M_nameSize_7 rfl ⟨_, rfl⟩ ?_
      refine jj_g_M_src h  fl_M_13 d_M_nameSize_8 ?_
      refine jj_iload_n h d_M_nameSize_11 rfl ?_
      refine jj_iaload (N := 320) h (by decide) rfl (by decide) (by omega) (by omega) d_M_nameSize_12 ?_
      refine jj_bipush h d_M_nameSize_13 (by decide) ?_
      refine jj_icmp_le h 46 d_M_nameSize_15 (by decide) ⟨by omega, by omega⟩ ⟨by omega, by omega⟩ (fun q15 => ?_) (fun q15 => ?_)
      · refine jj_iload_n h d_M_nameSize_46 rfl ?_
        refine jj_iload_n h d_M_nameSize_47 rfl ?_
        refine jj_icmp_ge h 68 d_M_nameSize_48 (by decide) ⟨by omega, by omega⟩ ⟨by omega, by omega⟩ (fun q48 => absurd q48 (by omega)) (fun _ => ?_)
        refine jj_aload_n h d_M_nameSize_51 rfl ⟨_, rfl⟩ ?_
        refine jj_g_M_src h  fl_M_13 d_M_nameSize_52 ?_
        refine jj_iload_n h d_M_nameSize_55 rfl ?_
        refine jj_iaload (N := 320) h (by decide) rfl (by decide) (by omega) (by omega) d_M_nameSize_56 ?_
        refine jj_bipush h d_M_nameSize_57 (by decide) ?_
        refine jj_icmp_ne h 68 d_M_nameSize_59 (by decide) ⟨by omega, by omega⟩ ⟨by omega, by omega⟩ (fun q59 => ?_) (fun q59 => ?_)
        · refine jj_iconst h d_M_nameSize_68 ?_
          refine jj_iret h he d_M_nameSize_69 ?_
          first | (exfalso; omega) | exact ⟨by rw [hq2, if_neg (by omega), if_neg (by omega)], rfl⟩ | exact ⟨by rw [hq2, if_neg (by omega), if_pos (by omega)], rfl⟩
        · refine jj_iload_n h d_M_nameSize_62 rfl ?_
          refine jj_iload_n h d_M_nameSize_63 rfl ?_
          refine jj_isub h d_M_nameSize_64 ?_
          refine jj_goto h 69 d_M_nameSize_65 (by decide) ?_
          refine jj_iret h he d_M_nameSize_69 ?_
          first | (exfalso; omega) | exact ⟨by rw [hq2, if_neg (by omega), if_neg (by omega)], rfl⟩ | exact ⟨by rw [hq2, if_neg (by omega), if_pos (by omega)], rfl⟩
      · refine jj_aload_n h d_M_nameSize_18 rfl ⟨_, rfl⟩ ?_
        refine jj_g_M_src h  fl_M_13 d_M_nameSize_19 ?_
        refine jj_iload_n h d_M_nameSize_22 rfl ?_
        refine jj_iaload (N := 320) h (by decide) rfl (by decide) (by omega) (by omega) d_M_nameSize_23 ?_
        refine jj_bipush h d_M_nameSize_24 (by decide) ?_
        refine jj_icmp_ge h 46 d_M_nameSize_26 (by decide) ⟨by omega, by omega⟩ ⟨by omega, by omega⟩ (fun q26 => ?_) (fun q26 => ?_)
        · refine jj_iload_n h d_M_nameSize_46 rfl ?_
          refine jj_iload_n h d_M_nameSize_47 rfl ?_
          refine jj_icmp_ge h 68 d_M_nameSize_48 (by decide) ⟨by omega, by omega⟩ ⟨by omega, by omega⟩ (fun q48 => absurd q48 (by omega)) (fun _ => ?_)
          refine jj_aload_n h d_M_nameSize_51 rfl ⟨_, rfl⟩ ?_
          refine jj_g_M_src h  fl_M_13 d_M_nameSize_52 ?_
          refine jj_iload_n h d_M_nameSize_55 rfl ?_
          refine jj_iaload (N := 320) h (by decide) rfl (by decide) (by omega) (by omega) d_M_nameSize_56 ?_
          refine jj_bipush h d_M_nameSize_57 (by decide) ?_
          refine jj_icmp_ne h 68 d_M_nameSize_59 (by decide) ⟨by omega, by omega⟩ ⟨by omega, by omega⟩ (fun q59 => ?_) (fun q59 => ?_)
          · refine jj_iconst h d_M_nameSize_68 ?_
            refine jj_iret h he d_M_nameSize_69 ?_
            first | (exfalso; omega) | exact ⟨by rw [hq2, if_neg (by omega), if_neg (by omega)], rfl⟩ | exact ⟨by rw [hq2, if_neg (by omega), if_pos (by omega)], rfl⟩
          · refine jj_iload_n h d_M_nameSize_62 rfl ?_
            refine jj_iload_n h d_M_nameSize_63 rfl ?_
            refine jj_isub h d_M_nameSize_64 ?_
            refine jj_goto h 69 d_M_nameSize_65 (by decide) ?_
            refine jj_iret h he d_M_nameSize_69 ?_
            first | (exfalso; omega) | exact ⟨by rw [hq2, if_neg (by omega), if_neg (by omega)], rfl⟩ | exact ⟨by rw [hq2, if_neg (by omega), if_pos (by omega)], rfl⟩
        · refine jj_aload_n h d_M_nameSize_29 rfl ⟨_, rfl⟩ ?_
          refine jj_g_M_src h  fl_M_13 d_M_nameSize_30 ?_
          refine jj_iload_n h d_M_nameSize_33 rfl ?_
          refine jj_iaload (N := 320) h (by decide) rfl (by decide) (by omega) (by omega) d_M_nameSize_34 ?_
          refine jj_bipush h d_M_nameSize_35 (by decide) ?_
          refine jj_icmp_eq h 46 d_M_nameSize_37 (by decide) ⟨by omega, by omega⟩ ⟨by omega, by omega⟩ (fun q37 => ?_) (fun q37 => ?_)
          · refine jj_iload_n h d_M_nameSize_46 rfl ?_
            refine jj_iload_n h d_M_nameSize_47 rfl ?_
            refine jj_icmp_ge h 68 d_M_nameSize_48 (by decide) ⟨by omega, by omega⟩ ⟨by omega, by omega⟩ (fun q48 => absurd q48 (by omega)) (fun _ => ?_)
            refine jj_aload_n h d_M_nameSize_51 rfl ⟨_, rfl⟩ ?_
            refine jj_g_M_src h  fl_M_13 d_M_nameSize_52 ?_
            refine jj_iload_n h d_M_nameSize_55 rfl ?_
            refine jj_iaload (N := 320) h (by decide) rfl (by decide) (by omega) (by omega) d_M_nameSize_56 ?_
            refine jj_bipush h d_M_nameSize_57 (by decide) ?_
            refine jj_icmp_ne h 68 d_M_nameSize_59 (by decide) ⟨by omega, by omega⟩ ⟨by omega, by omega⟩ (fun q59 => ?_) (fun q59 => ?_)
            · refine jj_iconst h d_M_nameSize_68 ?_
              refine jj_iret h he d_M_nameSize_69 ?_
              first | (exfalso; omega) | exact ⟨by rw [hq2, if_neg (by omega), if_neg (by omega)], rfl⟩ | exact ⟨by rw [hq2, if_neg (by omega), if_pos (by omega)], rfl⟩
            · refine jj_iload_n h d_M_nameSize_62 rfl ?_
              refine jj_iload_n h d_M_nameSize_63 rfl ?_
              refine jj_isub h d_M_nameSize_64 ?_
              refine jj_goto h 69 d_M_nameSize_65 (by decide) ?_
              refine jj_iret h he d_M_nameSize_69 ?_
              first | (exfalso; omega) | exact ⟨by rw [hq2, if_neg (by omega), if_neg (by omega)], rfl⟩ | exact ⟨by rw [hq2, if_neg (by omega), if_pos (by omega)], rfl⟩
          · refine jj_iinc h d_M_nameSize_40 rfl rfl ?_
            refine jj_goto h 2 d_M_nameSize_43 (by decide) ?_
            exact ih (q + 1) (by omega) (by omega) (by omega) (by rw [hq2, if_pos (by omega)])
  refine jj_iload_n h d_M_nameSize_0 rfl ?_
  refine jj_istore_n h d_M_nameSize_1 (Nat.le_of_ble_eq_true rfl) rfl ?_
  exact loop _ p rfl (by omega) h1 rfl
theorem slc_suf {f : Int → Int} {a s : Int} (h : a ≤ s) {l' : List Int} (hl : l' <:+ slc f a s) : slc f (s - l'.length) s = l' ∧ a ≤ s - l'.length ∧ (l'.length : Int) ≤ s - a := by
  obtain ⟨t, ht⟩ := hl
  have e1 := congrArg List.length ht
  rw [List.length_append, slc_len] at e1
  have e2 : slc f a s = slc f a (s - l'.length) ++ slc f (s - l'.length) s := slc_app (by omega) (by omega)
  rw [← ht] at e2
  have e3 := List.append_inj_right' e2 (by rw [slc_len]; omega)
  exact ⟨e3.symm, by omega, by omega⟩
theorem at_t {c : Int} (h : at_ c = true) : 33 ≤ c ∧ c ≤ 126 ∧ ¬ (c = 40 ∨ c = 41 ∨ c = 60 ∨ c = 62 ∨ c = 64 ∨ c = 44 ∨ c = 59 ∨ c = 58 ∨ c = 92 ∨ c = 34 ∨ c = 47 ∨ c = 91 ∨ c = 93 ∨ c = 63 ∨ c = 61) := of_decide_eq_true h
theorem cM_isAtom {G : mt_G} {l : Launch} {mem : mt_M} {c : Int} (hc : r32 c) : CT G l y_M_isAtom c_M_isAtom 1 (some .boolean) 1 [vi c] mem (fun v m' => v = some (vi (if at_ c then 1 else 0)) ∧ mem = m') := by
  obtain ⟨hc1, hc2⟩ := hc
  refine CT.intro (by decide) rfl (Nat.le_of_ble_eq_true rfl) (fun X h he => ?_)
  refine jj_iload_n h d_M_isAtom_0 rfl ?_
  refine jj_bipush h d_M_isAtom_1 (by decide) ?_
  refine jj_icmp_lt h 12 d_M_isAtom_3 (by decide) ⟨by omega, by omega⟩ ⟨by omega, by omega⟩ (fun q3 => ?_) (fun q3 => ?_)
  · refine jj_iconst h d_M_isAtom_12 ?_
    refine jj_zret h he (by omega) d_M_isAtom_13 ?_
    exact ⟨by rw [if_neg (fun q => by have := at_t q; omega)], rfl⟩
  · refine jj_iload_n h d_M_isAtom_6 rfl ?_
    refine jj_bipush h d_M_isAtom_7 (by decide) ?_
    refine jj_icmp_le h 14 d_M_isAtom_9 (by decide) ⟨by omega, by omega⟩ ⟨by omega, by omega⟩ (fun q9 => ?_) (fun q9 => ?_)
    · refine jj_iload_n h d_M_isAtom_14 rfl ?_
      by_cases q0 : c = 33 ∨ 93 < c
      · refine jj_tableOut h 270 d_M_isAtom_15 ⟨by omega, by omega⟩ (by omega) (by decide) ?_
        refine jj_iconst h d_M_isAtom_270 ?_
        refine jj_zret h he (by omega) d_M_isAtom_271 ?_
        have q2 : at_ c = true := decide_eq_true (by omega)
        exact ⟨by rw [if_pos q2], rfl⟩
      · have q1 : c = 34 ∨ c = 35 ∨ c = 36 ∨ c = 37 ∨ c = 38 ∨ c = 39 ∨ c = 40 ∨ c = 41 ∨ c = 42 ∨ c = 43 ∨ c = 44 ∨ c = 45 ∨ c = 46 ∨ c = 47 ∨ c = 48 ∨ c = 49 ∨ c = 50 ∨ c = 51 ∨ c = 52 ∨ c = 53 ∨ c = 54 ∨ c = 55 ∨ c = 56 ∨ c = 57 ∨ c = 58 ∨ c = 59 ∨ c = 60 ∨ c = 61 ∨ c = 62 ∨ c = 63 ∨ c = 64 ∨ c = 65 ∨ c = 66 ∨ c = 67 ∨ c = 68 ∨ c = 69 ∨ c = 70 ∨ c = 71 ∨ c = 72 ∨ c = 73 ∨ c = 74 ∨ c = 75 ∨ c = 76 ∨ c = 77 ∨ c = 78 ∨ c = 79 ∨ c = 80 ∨ c = 81 ∨ c = 82 ∨ c = 83 ∨ c = 84 ∨ c = 85 ∨ c = 86 ∨ c = 87 ∨ c = 88 ∨ c = 89 ∨ c = 90 ∨ c = 91 ∨ c = 92 ∨ c = 93 := by omega
        rcases q1 with rfl | rfl | rfl | rfl | rfl | rfl | rfl | rfl | rfl | rfl | rfl | rfl | rfl | rfl | rfl | rfl | rfl | rfl | rfl | rfl | rfl | rfl | rfl | rfl | rfl | rfl | rfl | rfl | rfl | rfl | rfl | rfl | rfl | rfl | rfl | rfl | rfl | rfl | rfl | rfl | rfl | rfl | rfl | rfl | rfl | rfl | rfl | rfl | rfl | rfl | rfl | rfl | rfl | rfl | rfl | rfl | rfl | rfl | rfl | rfl <;> first
          | (refine jj_tableIn h 268 d_M_isAtom_15 ⟨by decide, by decide⟩ (by decide) (by decide) rfl (by decide) ?_
             refine jj_iconst h d_M_isAtom_268 ?_
             refine jj_zret h he (by omega) d_M_isAtom_269 ?_
             exact ⟨by decide, rfl⟩)
          | (refine jj_tableIn h 270 d_M_isAtom_15 ⟨by decide, by decide⟩ (by decide) (by decide) rfl (by decide) ?_
             refine jj_iconst h d_M_isAtom_270 ?_
             refine jj_zret h he (by omega) d_M_isAtom_271 ?_
             exact ⟨by decide, rfl⟩)
    · refine jj_iconst h d_M_isAtom_12 ?_
      refine jj_zret h he (by omega) d_M_isAtom_13 ?_
      exact ⟨by rw [if_neg (fun q => by have := at_t q; omega)], rfl⟩
end
section
/-! The reference: scanning a value. The text from 'at' up to 'stop' is a list; each method is a function of that list. -/
theorem skp_suf : ∀ (l : List Int) (o : Nat), skp o l <:+ l
  | [], o => by simp [skp]
  | [b], o => by unfold skp; split <;> simp
  | b :: c :: t, o => by
    unfold skp
    split
    · exact List.suffix_refl _
    · split
      · exact (skp_suf (c :: t) (o + 1)).trans (List.suffix_cons b _)
      · split
        · exact (skp_suf (c :: t) (o - 1)).trans (List.suffix_cons b _)
        · split
          · exact ((skp_suf t o).trans (List.suffix_cons c _)).trans (List.suffix_cons b _)
          · exact (skp_suf (c :: t) o).trans (List.suffix_cons b _)
/-- behind a comment; o more are open than the one that must be closed -/
def cmt : Nat → List Int → List Int
  | _, [] => []
  | _, [_] => []
  | o, b :: c :: t => if b = 92 then cmt o t else if b = 40 then cmt (o + 1) (c :: t) else if b = 41 then (match o with | 0 => c :: t | o + 1 => cmt o (c :: t)) else cmt o (c :: t)
theorem skp_c (o : Nat) (b c : Int) (t : List Int) : skp o (b :: c :: t) = if o = 0 ∧ b ≠ 40 ∧ ¬ bl_ b then b :: c :: t else if b = 40 then skp (o + 1) (c :: t) else if b = 41 then skp (o - 1) (c :: t) else if b = 92 then skp o t else skp o (c :: t) := by rw [skp]
theorem cmt_c (o : Nat) (b c : Int) (t : List Int) : cmt o (b :: c :: t) = if b = 92 then cmt o t else if b = 40 then cmt (o + 1) (c :: t) else if b = 41 then (match o with | 0 => c :: t | o + 1 => cmt o (c :: t)) else cmt o (c :: t) := by rw [cmt.eq_def]
theorem skp_cmt : ∀ (l : List Int) (o : Nat), skp (o + 1) l = skp 0 (cmt o l)
  | [], o => by simp [skp, cmt]
  | [b], o => by simp [skp, cmt]
  | b :: c :: t, o => by
    rw [skp_c, cmt_c, if_neg (by omega)]
    by_cases h92 : b = 92
    · rw [if_pos h92, if_neg (by omega), if_neg (by omega), if_pos h92]
      exact skp_cmt t o
    · rw [if_neg h92]
      by_cases h40 : b = 40
      · rw [if_pos h40, if_pos h40, if_neg h92]
        exact skp_cmt (c :: t) (o + 1)
      · rw [if_neg h40, if_neg h40]
        by_cases h41 : b = 41
        · rw [if_pos h41, if_pos h41, if_neg h92]
          cases o with
          | zero => rfl
          | succ o => exact skp_cmt (c :: t) o
        · rw [if_neg h41, if_neg h41, if_neg h92]
          exact skp_cmt (c :: t) o
theorem slc_tail {f : Int → Int} {p e : Int} : (slc f p e).tail = slc f (p + 1) e := by
  by_cases h : p < e
  · rw [slc_cons h]; rfl
  · rw [slc_nil (by omega), slc_nil (by omega)]; rfl
theorem cmt_92 (o : Nat) (l : List Int) : cmt o (92 :: l) = cmt o l.tail := by
  cases l with
  | nil => simp [cmt]
  | cons c t => rw [cmt_c, if_pos rfl]; rfl
theorem cmt_40 (o : Nat) (l : List Int) : cmt o (40 :: l) = cmt (o + 1) l := by
  cases l with
  | nil => simp [cmt]
  | cons c t => rw [cmt_c, if_neg (by decide), if_pos rfl]
theorem cmt_41 (o : Nat) (l : List Int) : cmt (o + 1) (41 :: l) = cmt o l := by
  cases l with
  | nil => simp [cmt]
  | cons c t => rw [cmt_c, if_neg (by decide), if_neg (by decide), if_pos rfl]
theorem cmt_0 (l : List Int) : cmt 0 (41 :: l) = l := by
  cases l with
  | nil => simp [cmt]
  | cons c t => rw [cmt_c, if_neg (by decide), if_neg (by decide), if_pos rfl]
theorem cmt_e {o : Nat} {b : Int} {l : List Int} (h1 : b ≠ 92) (h2 : b ≠ 40) (h3 : b ≠ 41) : cmt o (b :: l) = cmt o l := by
  cases l with
  | nil => simp [cmt]
  | cons c t => rw [cmt_c, if_neg h1, if_neg h2, if_neg h3]
theorem skp_stop {b : Int} {l : List Int} (h1 : b ≠ 40) (h2 : ¬ bl_ b) : skp 0 (b :: l) = b :: l := by
  cases l with
  | nil => unfold skp; rw [if_pos ⟨rfl, h1, h2⟩]
  | cons c t => rw [skp_c, if_pos ⟨rfl, h1, h2⟩]
theorem skp_40 (o : Nat) (l : List Int) : skp o (40 :: l) = skp (o + 1) l := by
  cases l with
  | nil => simp [skp]
  | cons c t => rw [skp_c, if_neg (by omega), if_pos rfl]
theorem skp_41 (o : Nat) (l : List Int) : skp (o + 1) (41 :: l) = skp o l := by
  cases l with
  | nil => simp [skp]
  | cons c t => rw [skp_c, if_neg (by omega), if_neg (by decide), if_pos rfl]; rfl
theorem skp_92 (o : Nat) (l : List Int) : skp (o + 1) (92 :: l) = skp (o + 1) l.tail := by
  cases l with
  | nil => simp [skp]
  | cons c t => rw [skp_c, if_neg (by omega), if_neg (by decide), if_neg (by decide), if_pos rfl]; rfl
theorem skp_e {o : Nat} {b : Int} {l : List Int} (h0 : o ≠ 0 ∨ bl_ b) (h1 : b ≠ 92) (h2 : b ≠ 40) (h3 : b ≠ 41) : skp o (b :: l) = skp o l := by
  cases l with
  | nil => unfold skp; rw [if_neg (by rintro ⟨a, _, d⟩; rcases h0 with h0 | h0; exact h0 a; exact d h0)]
  | cons c t => rw [skp_c, if_neg (by rintro ⟨a, _, d⟩; rcases h0 with h0 | h0; exact h0 a; exact d h0), if_neg h2, if_neg h3, if_neg h1]
theorem cmt_suf : ∀ (l : List Int) (o : Nat), cmt o l <:+ l
  | [], o => by simp [cmt]
  | [b], o => by simp [cmt]
  | b :: c :: t, o => by
    unfold cmt
    split
    · exact ((cmt_suf t o).trans (List.suffix_cons c _)).trans (List.suffix_cons b _)
    · split
      · exact (cmt_suf (c :: t) (o + 1)).trans (List.suffix_cons b _)
      · split
        · cases o with
          | zero => exact List.suffix_cons b _
          | succ o => exact (cmt_suf (c :: t) o).trans (List.suffix_cons b _)
        · exact (cmt_suf (c :: t) o).trans (List.suffix_cons b _)
/-- the reference's scanner stands in the row t at a, before s -/
def sc_ (mem : mt_M) (a s : Int) : Prop := mem 182 13 = a ∧ mem 182 14 = s ∧ 0 ≤ a ∧ a ≤ s ∧ s ≤ 1400 ∧ by_ (mem 187) a s
theorem sc_.to {mem : mt_M} {a s b : Int} (h : sc_ mem a s) (h1 : a ≤ b) (h2 : b ≤ s) : sc_ (st_ mem 182 13 b) b s := by
  obtain ⟨q1, q2, q3, q4, q5, q6⟩ := h
  refine ⟨st_same, ?_, by omega, h2, q5, ?_⟩
  · rw [st_ne (by decide)]; exact q2
  · rw [st_row (by decide)]; exact q6.sub h1 (by omega)
theorem cM_now2 {G : mt_G} {l : Launch} {mem : mt_M} {a s : Int} (hs : sc_ mem a s) : CT G l y_M_now c_M_now 1 (some .int) 1 [vr G 182] mem (fun v m' => v = some (vi (if a < s then mem 187 a else -1)) ∧ mem = m') := by
  obtain ⟨q1, q2, q3, q4, q5, q6⟩ := hs
  have := cM_now (G := G) (l := l) (mem := mem) (by omega) (by omega) (by omega) (by omega)
  rw [q1, q2] at this
  exact this
theorem cM_comment {G : mt_G} {l : Launch} {mem : mt_M} {a s : Int} (hs : sc_ mem a s) (ha : a < s) (h40 : mem 187 a = 40) : CT G l y_M_comment c_M_comment 3 none 1 [vr G 182] mem (fun v m' => v = none ∧ st_ mem 182 13 (s - (cmt 0 (slc (mem 187) (a + 1) s)).length) = m') := by
  refine CT.intro (by decide) rfl (Nat.le_of_ble_eq_true rfl) (fun X h he => ?_)
  have hst := hs.2.1
  have hby := hs.2.2.2.2.2
  have h0 := hs.2.2.1
  have h14 := hs.2.2.2.2.1
  have loop : ∀ (n : Nat) (q : Int) (o : Nat) (x : Option Value), (s - q).toNat = n → a ≤ q → q ≤ s + 1 → (o : Int) ≤ q - a → cmt 0 (slc (mem 187) (a + 1) s) = cmt o (slc (mem 187) q s) → JJ G X 0 0 (st_ mem 182 13 q) 2 [some (vr G 182), some (vi (o + 1)), x] [] := by
    intro n
    induction n using Nat.strongRecOn with
    | ind n ih =>
      intro q o x hn hq hq1 ho hc
      by_cases hqs : s ≤ q
      · rw [slc_nil hqs] at hc
        refine jj_aload_n h d_M_comment_2 rfl ⟨_, rfl⟩ ?_
        refine jj_g_M_at h  fl_M_93 d_M_comment_3 ?_
        simp only [st_at, and_self, true_and, and_true, false_and, and_false, reduceIte, hst]
        refine jj_aload_n h d_M_comment_6 rfl ⟨_, rfl⟩ ?_
        refine jj_g_M_stop h  fl_M_96 d_M_comment_7 ?_
        simp only [st_at, and_self, true_and, and_true, false_and, and_false, reduceIte, hst]
        refine jj_icmp_ge h 81 d_M_comment_10 (by decide) ⟨by omega, by omega⟩ ⟨by omega, by omega⟩ (fun _ => ?_) (fun q10 => absurd (by omega) q10)
        refine jj_aload_n h d_M_comment_81 rfl ⟨_, rfl⟩ ?_
        refine jj_aload_n h d_M_comment_82 rfl ⟨_, rfl⟩ ?_
        refine jj_g_M_stop h  fl_M_96 d_M_comment_83 ?_
        simp only [st_at, and_self, true_and, and_true, false_and, and_false, reduceIte, hst]
        refine jj_p_M_at h  fl_M_93 d_M_comment_86 ?_
        refine jj_vret h he d_M_comment_89 ?_
        exact ⟨rfl, by rw [st_st, hc]; simp [cmt]⟩
      · have hq3 := hby q (by omega) (by omega)
        rw [slc_cons (by omega : q < s)] at hc
        refine jj_aload_n h d_M_comment_2 rfl ⟨_, rfl⟩ ?_
        refine jj_g_M_at h  fl_M_93 d_M_comment_3 ?_
        try simp only [st_at, Nat.reduceEqDiff, Int.reduceEq, and_self, true_and, and_true, false_and, and_false, reduceIte, hst]
        refine jj_aload_n h d_M_comment_6 rfl ⟨_, rfl⟩ ?_
        refine jj_g_M_stop h  fl_M_96 d_M_comment_7 ?_
        try simp only [st_at, Nat.reduceEqDiff, Int.reduceEq, and_self, true_and, and_true, false_and, and_false, reduceIte, hst]
        refine jj_icmp_ge h 81 d_M_comment_10 (by decide) ⟨by omega, by omega⟩ ⟨by omega, by omega⟩ (fun q10 => absurd q10 (by omega)) (fun _ => ?_)
        refine jj_aload_n h d_M_comment_13 rfl ⟨_, rfl⟩ ?_
        refine jj_g_M_text h  fl_M_22 d_M_comment_14 ?_
        try simp only [st_at, Nat.reduceEqDiff, Int.reduceEq, and_self, true_and, and_true, false_and, and_false, reduceIte, hst]
        refine jj_aload_n h d_M_comment_17 rfl ⟨_, rfl⟩ ?_
        refine jj_g_M_at h  fl_M_93 d_M_comment_18 ?_
        try simp only [st_at, Nat.reduceEqDiff, Int.reduceEq, and_self, true_and, and_true, false_and, and_false, reduceIte, hst]
        refine jj_iaload (N := 1400) h (by decide) rfl (by decide) (by omega) (by omega) d_M_comment_21 ?_
        try simp only [st_at, Nat.reduceEqDiff, Int.reduceEq, and_self, true_and, and_true, false_and, and_false, reduceIte, hst]
        refine jj_istore_n h d_M_comment_22 (Nat.le_of_ble_eq_true rfl) rfl ?_
        refine jj_aload_n h d_M_comment_23 rfl ⟨_, rfl⟩ ?_
        refine jj_dup h d_M_comment_24 rfl ?_
        refine jj_g_M_at h  fl_M_93 d_M_comment_25 ?_
        try simp only [st_at, Nat.reduceEqDiff, Int.reduceEq, and_self, true_and, and_true, false_and, and_false, reduceIte, hst]
        refine jj_iconst h d_M_comment_28 ?_
        refine jj_iadd h d_M_comment_29 ?_
        refine jj_p_M_at h  fl_M_93 d_M_comment_30 ?_
        refine jj_iload_n h d_M_comment_33 rfl ?_
        refine jj_bipush h d_M_comment_34 (by decide) ?_
        refine jj_icmp_ne h 52 d_M_comment_36 (by decide) ⟨by omega, by omega⟩ ⟨by omega, by omega⟩ (fun q36 => ?_) (fun q36 => ?_)
        · refine jj_iload_n h d_M_comment_52 rfl ?_
          refine jj_bipush h d_M_comment_53 (by decide) ?_
          refine jj_icmp_ne h 64 d_M_comment_55 (by decide) ⟨by omega, by omega⟩ ⟨by omega, by omega⟩ (fun q55 => ?_) (fun q55 => ?_)
          · refine jj_iload_n h d_M_comment_64 rfl ?_
            refine jj_bipush h d_M_comment_65 (by decide) ?_
            refine jj_icmp_ne h 73 d_M_comment_67 (by decide) ⟨by omega, by omega⟩ ⟨by omega, by omega⟩ (fun q67 => ?_) (fun q67 => ?_)
            · refine jj_iload_n h d_M_comment_73 rfl ?_
              refine jj_if_ne h 78 d_M_comment_74 (by decide) ⟨by omega, by omega⟩ (fun q74 => ?_) (fun q74 => ?_)
              · refine jj_goto h 2 d_M_comment_78 (by decide) ?_
                simp only [st_st]
                exact ih _ (by omega) (q + 1) o _ rfl (by omega) (by omega) (by omega) (by rw [hc, cmt_e q36 q55 q67])
              · refine jj_vret h he d_M_comment_77 ?_
                exfalso; omega
            · refine jj_iinc h d_M_comment_70 rfl rfl ?_
              refine jj_iload_n h d_M_comment_73 rfl ?_
              refine jj_if_ne h 78 d_M_comment_74 (by decide) ⟨by omega, by omega⟩ (fun q74 => ?_) (fun q74 => ?_)
              · refine jj_goto h 2 d_M_comment_78 (by decide) ?_
                simp only [st_st]
                obtain ⟨o', rfl⟩ : ∃ o', o = o' + 1 := ⟨o - 1, by omega⟩
                rw [show ((o' + 1 : Nat) : Int) + 1 + -1 = (o' : Int) + 1 by omega]
                exact ih _ (by omega) (q + 1) o' _ rfl (by omega) (by omega) (by omega) (by rw [hc, q67, cmt_41])
              · refine jj_vret h he d_M_comment_77 ?_
                have e9 : o = 0 := by omega
                subst e9
                refine ⟨rfl, ?_⟩
                rw [hc, q67, cmt_0, slc_len, st_st]
                congr 1; omega
          · refine jj_iinc h d_M_comment_58 rfl rfl ?_
            refine jj_goto h 73 d_M_comment_61 (by decide) ?_
            refine jj_iload_n h d_M_comment_73 rfl ?_
            refine jj_if_ne h 78 d_M_comment_74 (by decide) ⟨by omega, by omega⟩ (fun q74 => ?_) (fun q74 => ?_)
            · refine jj_goto h 2 d_M_comment_78 (by decide) ?_
              simp only [st_st]
              exact ih _ (by omega) (q + 1) (o + 1) _ rfl (by omega) (by omega) (by omega) (by rw [hc, q55, cmt_40])
            · refine jj_vret h he d_M_comment_77 ?_
              exfalso; omega
        · refine jj_aload_n h d_M_comment_39 rfl ⟨_, rfl⟩ ?_
          refine jj_dup h d_M_comment_40 rfl ?_
          refine jj_g_M_at h  fl_M_93 d_M_comment_41 ?_
          try simp only [st_at, Nat.reduceEqDiff, Int.reduceEq, and_self, true_and, and_true, false_and, and_false, reduceIte, hst]
          refine jj_iconst h d_M_comment_44 ?_
          refine jj_iadd h d_M_comment_45 ?_
          refine jj_p_M_at h  fl_M_93 d_M_comment_46 ?_
          refine jj_goto h 73 d_M_comment_49 (by decide) ?_
          refine jj_iload_n h d_M_comment_73 rfl ?_
          refine jj_if_ne h 78 d_M_comment_74 (by decide) ⟨by omega, by omega⟩ (fun q74 => ?_) (fun q74 => ?_)
          · refine jj_goto h 2 d_M_comment_78 (by decide) ?_
            simp only [st_st]
            exact ih _ (by omega) (q + 1 + 1) o _ rfl (by omega) (by omega) (by omega) (by rw [hc, q36, cmt_92, slc_tail])
          · refine jj_vret h he d_M_comment_77 ?_
            exfalso; omega
  have hs1 := hs.1
  have e0 : mem = st_ mem 182 13 a := by rw [← hs1, st_id]
  refine jj_iconst h d_M_comment_0 ?_
  refine jj_istore_n h d_M_comment_1 (Nat.le_of_ble_eq_true rfl) rfl ?_
  rw [e0]
  refine jj_aload_n h d_M_comment_2 rfl ⟨_, rfl⟩ ?_
  refine jj_g_M_at h  fl_M_93 d_M_comment_3 ?_
  try simp only [st_at, Nat.reduceEqDiff, Int.reduceEq, and_self, true_and, and_true, false_and, and_false, reduceIte, hst]
  refine jj_aload_n h d_M_comment_6 rfl ⟨_, rfl⟩ ?_
  refine jj_g_M_stop h  fl_M_96 d_M_comment_7 ?_
  try simp only [st_at, Nat.reduceEqDiff, Int.reduceEq, and_self, true_and, and_true, false_and, and_false, reduceIte, hst]
  refine jj_icmp_ge h 81 d_M_comment_10 (by decide) ⟨by omega, by omega⟩ ⟨by omega, by omega⟩ (fun q10 => absurd q10 (by omega)) (fun _ => ?_)
  refine jj_aload_n h d_M_comment_13 rfl ⟨_, rfl⟩ ?_
  refine jj_g_M_text h  fl_M_22 d_M_comment_14 ?_
  try simp only [st_at, Nat.reduceEqDiff, Int.reduceEq, and_self, true_and, and_true, false_and, and_false, reduceIte, hst]
  refine jj_aload_n h d_M_comment_17 rfl ⟨_, rfl⟩ ?_
  refine jj_g_M_at h  fl_M_93 d_M_comment_18 ?_
  try simp only [st_at, Nat.reduceEqDiff, Int.reduceEq, and_self, true_and, and_true, false_and, and_false, reduceIte, hst]
  refine jj_iaload (N := 1400) h (by decide) rfl (by decide) (by omega) (by omega) d_M_comment_21 ?_
  try simp only [st_at, Nat.reduceEqDiff, Int.reduceEq, and_self, true_and, and_true, false_and, and_false, reduceIte, hst]
  refine jj_istore_n h d_M_comment_22 (Nat.le_of_ble_eq_true rfl) rfl ?_
  refine jj_aload_n h d_M_comment_23 rfl ⟨_, rfl⟩ ?_
  refine jj_dup h d_M_comment_24 rfl ?_
  refine jj_g_M_at h  fl_M_93 d_M_comment_25 ?_
  try simp only [st_at, Nat.reduceEqDiff, Int.reduceEq, and_self, true_and, and_true, false_and, and_false, reduceIte, hst]
  refine jj_iconst h d_M_comment_28 ?_
  refine jj_iadd h d_M_comment_29 ?_
  refine jj_p_M_at h  fl_M_93 d_M_comment_30 ?_
  refine jj_iload_n h d_M_comment_33 rfl ?_
  refine jj_bipush h d_M_comment_34 (by decide) ?_
  refine jj_icmp_ne h 52 d_M_comment_36 (by decide) ⟨by omega, by omega⟩ ⟨by omega, by omega⟩ (fun _ => ?_) (fun q36 => absurd q36 (by omega))
  refine jj_iload_n h d_M_comment_52 rfl ?_
  refine jj_bipush h d_M_comment_53 (by decide) ?_
  refine jj_icmp_ne h 64 d_M_comment_55 (by decide) ⟨by omega, by omega⟩ ⟨by omega, by omega⟩ (fun q55 => absurd (by omega) q55) (fun _ => ?_)
  refine jj_iinc h d_M_comment_58 rfl rfl ?_
  refine jj_goto h 73 d_M_comment_61 (by decide) ?_
  refine jj_iload_n h d_M_comment_73 rfl ?_
  refine jj_if_ne h 78 d_M_comment_74 (by decide) ⟨by omega, by omega⟩ (fun _ => ?_) (fun q74 => absurd q74 (by omega))
  refine jj_goto h 2 d_M_comment_78 (by decide) ?_
  simp only [st_st]
  exact loop _ (a + 1) 0 _ rfl (by omega) (by omega) (by omega) rfl
/-- a known place -/
theorem cM_space {G : mt_G} {l : Launch} {mem : mt_M} {a s : Int} (hs : sc_ mem a s) : CT G l y_M_space c_M_space 2 none 3 [vr G 182] mem (fun v m' => v = none ∧ st_ mem 182 13 (s - (skp 0 (slc (mem 187) a s)).length) = m') := by
  refine CT.intro (by decide) rfl (Nat.le_of_ble_eq_true rfl) (fun X h he => ?_)
  have hst := hs.2.1
  have hby := hs.2.2.2.2.2
  have h0 := hs.2.2.1
  have h14 := hs.2.2.2.2.1
  have h4 := hs.2.2.2.1
  have loop : ∀ (n : Nat) (q : Int), (s - q).toNat = n → a ≤ q → q ≤ s → skp 0 (slc (mem 187) a s) = skp 0 (slc (mem 187) q s) → JJ G X 0 0 (st_ mem 182 13 q) 2 [some (vr G 182), some (vi 1)] [] := by
    intro n
    induction n using Nat.strongRecOn with
    | ind n ih =>
      intro q hn hq hq1 hc
      have hsq := hs.to hq hq1
      by_cases hqs : q < s
      · have hq3 := hby q (by omega) (by omega)
        rw [slc_cons hqs] at hc
        refine jj_iload_n h d_M_space_2 rfl ?_
        refine jj_if_eq h 50 d_M_space_3 (by decide) ⟨by omega, by omega⟩ (fun q3 => absurd q3 (by omega)) (fun _ => ?_)
        refine jj_aload_n h d_M_space_6 rfl ⟨_, rfl⟩ ?_
        refine jj_callV h (cM_now2 hsq) cv_M_99 (ro_of he (by decide) (by decide)) rfl rfl (by decide) rfl rfl rfl (Nat.le_of_ble_eq_true rfl) d_M_space_7 (fun v m1 hv => ?_)
        obtain ⟨rfl, rfl⟩ := hv
        rw [if_pos hqs, st_row (by decide)]
        refine jj_callS h (cM_isBlank ⟨by omega, by omega⟩) cv_M_62 (ro_of he (by decide) (by decide)) rfl rfl rfl (Nat.le_of_ble_eq_true rfl) d_M_space_10 (fun v m1 hv => ?_)
        obtain ⟨rfl, rfl⟩ := hv
        refine jj_if_eq h 29 d_M_space_13 (by decide) ⟨by split <;> omega, by split <;> omega⟩ (fun q13 => ?_) (fun q13 => ?_)
        · have q13 : ¬ bl_ (mem 187 q) := fun z => by rw [if_pos z] at q13; omega
          refine jj_aload_n h d_M_space_29 rfl ⟨_, rfl⟩ ?_
          refine jj_callV h (cM_now2 hsq) cv_M_99 (ro_of he (by decide) (by decide)) rfl rfl (by decide) rfl rfl rfl (Nat.le_of_ble_eq_true rfl) d_M_space_30 (fun v m1 hv => ?_)
          obtain ⟨rfl, rfl⟩ := hv
          rw [if_pos hqs, st_row (by decide)]
          refine jj_bipush h d_M_space_33 (by decide) ?_
          refine jj_icmp_ne h 45 d_M_space_35 (by decide) ⟨by omega, by omega⟩ ⟨by omega, by omega⟩ (fun q35 => ?_) (fun q35 => ?_)
          · refine jj_iconst h d_M_space_45 ?_
            refine jj_istore_n h d_M_space_46 (Nat.le_of_ble_eq_true rfl) rfl ?_
            refine jj_goto h 2 d_M_space_47 (by decide) ?_
            refine jj_iload_n h d_M_space_2 rfl ?_
            refine jj_if_eq h 50 d_M_space_3 (by decide) ⟨by omega, by omega⟩ (fun _ => ?_) (fun q3 => absurd rfl q3)
            refine jj_vret h he d_M_space_50 ?_
            exact ⟨rfl, by rw [hc, skp_stop q35 q13, ← slc_cons hqs, slc_len]; congr 1; omega⟩
          · refine jj_aload_n h d_M_space_38 rfl ⟨_, rfl⟩ ?_
            refine jj_callV h (cM_comment hsq hqs (by rw [st_row (by decide)]; exact q35)) cv_M_103 (ro_of he (by decide) (by decide)) rfl rfl (by decide) rfl rfl rfl (Nat.le_of_ble_eq_true rfl) d_M_space_39 (fun v m1 hv => ?_)
            obtain ⟨rfl, rfl⟩ := hv
            rw [st_row (by decide)]
            refine jj_goto h 2 d_M_space_42 (by decide) ?_
            simp only [st_st]
            have hz := slc_suf (f := mem 187) (a := q + 1) (s := s) (by omega) (cmt_suf (slc (mem 187) (q + 1) s) 0)
            exact ih _ (by omega) _ rfl (by omega) (by omega) (by rw [hc, q35, skp_40, skp_cmt, hz.1])
        · have q13 : bl_ (mem 187 q) := Decidable.byContradiction fun z => q13 (by rw [if_neg z])
          refine jj_aload_n h d_M_space_16 rfl ⟨_, rfl⟩ ?_
          refine jj_dup h d_M_space_17 rfl ?_
          refine jj_g_M_at h  fl_M_93 d_M_space_18 ?_
          try simp only [st_at, Nat.reduceEqDiff, Int.reduceEq, and_self, true_and, and_true, false_and, and_false, reduceIte, hst]
          refine jj_iconst h d_M_space_21 ?_
          refine jj_iadd h d_M_space_22 ?_
          refine jj_p_M_at h  fl_M_93 d_M_space_23 ?_
          refine jj_goto h 2 d_M_space_26 (by decide) ?_
          simp only [st_st]
          exact ih _ (by omega) (q + 1) rfl (by omega) (by omega) (by rw [hc, skp_e (Or.inr q13) (by omega) (by omega) (by omega)])
      · rw [slc_nil (p := q) (by omega)] at hc
        refine jj_iload_n h d_M_space_2 rfl ?_
        refine jj_if_eq h 50 d_M_space_3 (by decide) ⟨by omega, by omega⟩ (fun q3 => absurd q3 (by omega)) (fun _ => ?_)
        refine jj_aload_n h d_M_space_6 rfl ⟨_, rfl⟩ ?_
        refine jj_callV h (cM_now2 hsq) cv_M_99 (ro_of he (by decide) (by decide)) rfl rfl (by decide) rfl rfl rfl (Nat.le_of_ble_eq_true rfl) d_M_space_7 (fun v m1 hv => ?_)
        obtain ⟨rfl, rfl⟩ := hv
        rw [if_neg hqs]
        refine jj_callS h (cM_isBlank ⟨by omega, by omega⟩) cv_M_62 (ro_of he (by decide) (by decide)) rfl rfl rfl (Nat.le_of_ble_eq_true rfl) d_M_space_10 (fun v m1 hv => ?_)
        obtain ⟨rfl, rfl⟩ := hv
        refine jj_if_eq h 29 d_M_space_13 (by decide) ⟨by decide, by decide⟩ (fun _ => ?_) (fun q13 => absurd (rfl) q13)
        refine jj_aload_n h d_M_space_29 rfl ⟨_, rfl⟩ ?_
        refine jj_callV h (cM_now2 hsq) cv_M_99 (ro_of he (by decide) (by decide)) rfl rfl (by decide) rfl rfl rfl (Nat.le_of_ble_eq_true rfl) d_M_space_30 (fun v m1 hv => ?_)
        obtain ⟨rfl, rfl⟩ := hv
        rw [if_neg hqs]
        refine jj_bipush h d_M_space_33 (by decide) ?_
        refine jj_icmp_ne h 45 d_M_space_35 (by decide) ⟨by omega, by omega⟩ ⟨by omega, by omega⟩ (fun _ => ?_) (fun q35 => absurd q35 (by omega))
        refine jj_iconst h d_M_space_45 ?_
        refine jj_istore_n h d_M_space_46 (Nat.le_of_ble_eq_true rfl) rfl ?_
        refine jj_goto h 2 d_M_space_47 (by decide) ?_
        refine jj_iload_n h d_M_space_2 rfl ?_
        refine jj_if_eq h 50 d_M_space_3 (by decide) ⟨by omega, by omega⟩ (fun _ => ?_) (fun q3 => absurd rfl q3)
        refine jj_vret h he d_M_space_50 ?_
        exact ⟨rfl, by rw [hc]; simp only [skp, List.length_nil]; congr 1; omega⟩
  have e0 : mem = st_ mem 182 13 a := by rw [← hs.1, st_id]
  refine jj_iconst h d_M_space_0 ?_
  refine jj_istore_n h d_M_space_1 (Nat.le_of_ble_eq_true rfl) rfl ?_
  rw [e0]
  exact loop _ a rfl (by omega) (by omega) rfl
theorem twl {p : Int → Bool} {f : Int → Int} {q s : Int} (h : q < s) (hp : p (f q) = true) : (slc f q s).takeWhile p = f q :: (slc f (q + 1) s).takeWhile p ∧ (slc f q s).dropWhile p = (slc f (q + 1) s).dropWhile p := by
  rw [slc_cons h]; simp [hp]
theorem twn {p : Int → Bool} {f : Int → Int} {q s : Int} (h : q < s) (hp : ¬ p (f q) = true) : (slc f q s).takeWhile p = [] ∧ (slc f q s).dropWhile p = slc f q s := by
  rw [slc_cons h]; simp [hp]
/-- atom(): the word's place and size, and where it goes on -/
def am_ (mem : mt_M) (a s : Int) : mt_M := st_ (st_ (st_ mem 182 15 a) 182 13 (s - ((slc (mem 187) a s).dropWhile at_).length)) 182 16 (s - ((slc (mem 187) a s).dropWhile at_).length - a)
theorem cM_atom {G : mt_G} {l : Launch} {mem : mt_M} {a s : Int} (hs : sc_ mem a s) : CT G l y_M_atom c_M_atom 1 (some .boolean) 3 [vr G 182] mem (fun v m' => v = some (vi (if (slc (mem 187) a s).takeWhile at_ = [] then 0 else 1)) ∧ am_ mem a s = m') := by
  refine CT.intro (by decide) rfl (Nat.le_of_ble_eq_true rfl) (fun X h he => ?_)
  have hst := hs.2.1
  have hby := hs.2.2.2.2.2
  have h0 := hs.2.2.1
  have h14 := hs.2.2.2.2.1
  have h4 := hs.2.2.2.1
  have hat := hs.1
  have fin : ∀ q : Int, a ≤ q → q ≤ s → ((slc (mem 187) a s).dropWhile at_) = slc (mem 187) q s → ((slc (mem 187) a s).takeWhile at_ = [] ↔ q = a) → JJ G X 0 0 (st_ (st_ mem 182 15 a) 182 13 q) 31 [some (vr G 182)] [] := by
    intro q hq hq1 hd ht
    have hl : (s - ((slc (mem 187) a s).dropWhile at_).length : Int) = q := by rw [hd, slc_len]; omega
    refine jj_aload_n h d_M_atom_31 rfl ⟨_, rfl⟩ ?_
    refine jj_aload_n h d_M_atom_32 rfl ⟨_, rfl⟩ ?_
    refine jj_g_M_at h  fl_M_93 d_M_atom_33 ?_
    try simp only [st_at, Nat.reduceEqDiff, Int.reduceEq, and_self, true_and, and_true, false_and, and_false, reduceIte, hst]
    refine jj_aload_n h d_M_atom_36 rfl ⟨_, rfl⟩ ?_
    refine jj_g_M_wordAt h  fl_M_106 d_M_atom_37 ?_
    try simp only [st_at, Nat.reduceEqDiff, Int.reduceEq, and_self, true_and, and_true, false_and, and_false, reduceIte, hst]
    refine jj_isub h d_M_atom_40 ?_
    refine jj_p_M_wordSize h  fl_M_112 d_M_atom_41 ?_
    refine jj_aload_n h d_M_atom_44 rfl ⟨_, rfl⟩ ?_
    refine jj_g_M_wordSize h  fl_M_112 d_M_atom_45 ?_
    try simp only [st_at, Nat.reduceEqDiff, Int.reduceEq, and_self, true_and, and_true, false_and, and_false, reduceIte, hst]
    refine jj_if_le h 55 d_M_atom_48 (by decide) ⟨by omega, by omega⟩ (fun q48 => ?_) (fun q48 => ?_)
    · refine jj_iconst h d_M_atom_55 ?_
      refine jj_zret h he (by omega) d_M_atom_56 ?_
      exact ⟨by rw [if_pos (ht.mpr (by omega))], by unfold am_; rw [hl]⟩
    · refine jj_iconst h d_M_atom_51 ?_
      refine jj_goto h 56 d_M_atom_52 (by decide) ?_
      refine jj_zret h he (by omega) d_M_atom_56 ?_
      exact ⟨by rw [if_neg (fun z => q48 (by have := ht.mp z; omega))], by unfold am_; rw [hl]⟩
  have loop : ∀ (n : Nat) (q : Int), (s - q).toNat = n → a ≤ q → q ≤ s → (slc (mem 187) a s).dropWhile at_ = (slc (mem 187) q s).dropWhile at_ → (a < q → ¬ (slc (mem 187) a s).takeWhile at_ = []) → JJ G X 0 0 (st_ (st_ mem 182 15 a) 182 13 q) 8 [some (vr G 182)] [] := by
    intro n
    induction n with
    | zero =>
      intro q hn hq hq1 hd ht
      have hsq : sc_ (st_ (st_ mem 182 15 a) 182 13 q) q s := ⟨st_same, by rw [st_ne (by decide), st_ne (by decide)]; exact hst, by omega, hq1, h14, by rw [st_row (by decide), st_row (by decide)]; exact hby.sub hq (by omega)⟩
      refine jj_aload_n h d_M_atom_8 rfl ⟨_, rfl⟩ ?_
      refine jj_callV h (cM_now2 hsq) cv_M_99 (ro_of he (by decide) (by decide)) rfl rfl (by decide) rfl rfl rfl (Nat.le_of_ble_eq_true rfl) d_M_atom_9 (fun v m1 hv => ?_)
      obtain ⟨rfl, rfl⟩ := hv
      rw [if_neg (by omega)]
      refine jj_callS h (cM_isAtom ⟨by omega, by omega⟩) cv_M_109 (ro_of he (by decide) (by decide)) rfl rfl rfl (Nat.le_of_ble_eq_true rfl) d_M_atom_12 (fun v m1 hv => ?_)
      obtain ⟨rfl, rfl⟩ := hv
      refine jj_if_eq h 31 d_M_atom_15 (by decide) ⟨by decide, by decide⟩ (fun _ => ?_) (fun q15 => absurd (rfl) q15)
      refine fin q hq hq1 (by rw [hd, slc_nil (by omega)]; rfl) ⟨fun z => ?_, fun z => ?_⟩
      · exact Decidable.byContradiction fun y => ht (by omega) z
      · rw [← z, slc_nil (by omega)]; rfl
    | succ n ih =>
      intro q hn hq hq1 hd ht
      have hsq : sc_ (st_ (st_ mem 182 15 a) 182 13 q) q s := ⟨st_same, by rw [st_ne (by decide), st_ne (by decide)]; exact hst, by omega, hq1, h14, by rw [st_row (by decide), st_row (by decide)]; exact hby.sub hq (by omega)⟩
      have hq3 := hby q (by omega) (by omega)
      refine jj_aload_n h d_M_atom_8 rfl ⟨_, rfl⟩ ?_
      refine jj_callV h (cM_now2 hsq) cv_M_99 (ro_of he (by decide) (by decide)) rfl rfl (by decide) rfl rfl rfl (Nat.le_of_ble_eq_true rfl) d_M_atom_9 (fun v m1 hv => ?_)
      obtain ⟨rfl, rfl⟩ := hv
      rw [if_pos (by omega), st_row (by decide), st_row (by decide)]
      refine jj_callS h (cM_isAtom ⟨by omega, by omega⟩) cv_M_109 (ro_of he (by decide) (by decide)) rfl rfl rfl (Nat.le_of_ble_eq_true rfl) d_M_atom_12 (fun v m1 hv => ?_)
      obtain ⟨rfl, rfl⟩ := hv
      refine jj_if_eq h 31 d_M_atom_15 (by decide) ⟨by split <;> omega, by split <;> omega⟩ (fun q15 => ?_) (fun q15 => ?_)
      · have q15 : ¬ at_ (mem 187 q) = true := fun z => by rw [if_pos z] at q15; omega
        refine fin q hq hq1 (by rw [hd, (twn (by omega) q15).2]) ⟨fun z => ?_, fun z => ?_⟩
        · exact Decidable.byContradiction fun y => ht (by omega) z
        · subst z; exact (twn (by omega) q15).1
      · have q15 : at_ (mem 187 q) = true := Decidable.byContradiction fun z => q15 (by rw [if_neg z])
        refine jj_aload_n h d_M_atom_18 rfl ⟨_, rfl⟩ ?_
        refine jj_dup h d_M_atom_19 rfl ?_
        refine jj_g_M_at h  fl_M_93 d_M_atom_20 ?_
        try simp only [st_at, Nat.reduceEqDiff, Int.reduceEq, and_self, true_and, and_true, false_and, and_false, reduceIte, hst]
        refine jj_iconst h d_M_atom_23 ?_
        refine jj_iadd h d_M_atom_24 ?_
        refine jj_p_M_at h  fl_M_93 d_M_atom_25 ?_
        refine jj_goto h 8 d_M_atom_28 (by decide) ?_
        simp only [st_st]
        refine ih (q + 1) (by omega) (by omega) (by omega) (by rw [hd, (twl (by omega) q15).2]) (fun _ => ?_)
        by_cases hqa : a = q
        · subst hqa; rw [(twl (by omega) q15).1]; simp
        · exact ht (by omega)
  have e0 : st_ mem 182 15 a = st_ (st_ mem 182 15 a) 182 13 a := by
    rw [st_comm (by decide), show st_ mem 182 13 a = mem by rw [← hat, st_id]]
  refine jj_aload_n h d_M_atom_0 rfl ⟨_, rfl⟩ ?_
  refine jj_aload_n h d_M_atom_1 rfl ⟨_, rfl⟩ ?_
  refine jj_g_M_at h  fl_M_93 d_M_atom_2 ?_
  try simp only [st_at, Nat.reduceEqDiff, Int.reduceEq, and_self, true_and, and_true, false_and, and_false, reduceIte, hat]
  refine jj_p_M_wordAt h  fl_M_106 d_M_atom_5 ?_
  rw [e0]
  exact loop _ a rfl (by omega) h4 rfl (fun z => absurd z (by omega))
theorem cM_takes {G : mt_G} {l : Launch} {mem : mt_M} {a s c : Int} (hs : sc_ mem a s) (hc : 0 ≤ c ∧ c ≤ 255) : CT G l y_M_takes c_M_takes 2 (some .boolean) 3 [vr G 182, vi c] mem (fun v m' => match tk_ c (slc (mem 187) a s) with
    | none => v = some (vi 0) ∧ mem = m'
    | some _ => v = some (vi 1) ∧ st_ mem 182 13 (a + 1) = m') := by
  refine CT.intro (by decide) rfl (Nat.le_of_ble_eq_true rfl) (fun X h he => ?_)
  have hst := hs.2.1
  have hby := hs.2.2.2.2.2
  have hat := hs.1
  by_cases hqs : a < s
  · have hq3 := hby a (by omega) (by omega)
    rw [slc_cons hqs] at he
    refine jj_aload_n h d_M_takes_0 rfl ⟨_, rfl⟩ ?_
    refine jj_callV h (cM_now2 hs) cv_M_99 (ro_of he (by decide) (by decide)) rfl rfl (by decide) rfl rfl rfl (Nat.le_of_ble_eq_true rfl) d_M_takes_1 (fun v m1 hv => ?_)
    obtain ⟨rfl, rfl⟩ := hv
    rw [if_pos hqs]
    refine jj_iload_n h d_M_takes_4 rfl ?_
    refine jj_icmp_eq h 10 d_M_takes_5 (by decide) ⟨by omega, by omega⟩ ⟨by omega, by omega⟩ (fun q5 => ?_) (fun q5 => ?_)
    · refine jj_aload_n h d_M_takes_10 rfl ⟨_, rfl⟩ ?_
      refine jj_dup h d_M_takes_11 rfl ?_
      refine jj_g_M_at h  fl_M_93 d_M_takes_12 ?_
      try simp only [st_at, Nat.reduceEqDiff, Int.reduceEq, and_self, true_and, and_true, false_and, and_false, reduceIte, hat]
      refine jj_iconst h d_M_takes_15 ?_
      refine jj_iadd h d_M_takes_16 ?_
      refine jj_p_M_at h  fl_M_93 d_M_takes_17 ?_
      refine jj_iconst h d_M_takes_20 ?_
      refine jj_zret h he (by omega) d_M_takes_21 ?_
      simp [tk_, q5]
    · refine jj_iconst h d_M_takes_8 ?_
      refine jj_zret h he (by omega) d_M_takes_9 ?_
      simp [tk_, q5]
  · rw [slc_nil (by omega)] at he
    refine jj_aload_n h d_M_takes_0 rfl ⟨_, rfl⟩ ?_
    refine jj_callV h (cM_now2 hs) cv_M_99 (ro_of he (by decide) (by decide)) rfl rfl (by decide) rfl rfl rfl (Nat.le_of_ble_eq_true rfl) d_M_takes_1 (fun v m1 hv => ?_)
    obtain ⟨rfl, rfl⟩ := hv
    rw [if_neg hqs]
    refine jj_iload_n h d_M_takes_4 rfl ?_
    refine jj_icmp_eq h 10 d_M_takes_5 (by decide) ⟨by omega, by omega⟩ ⟨by omega, by omega⟩ (fun q5 => absurd q5 (by omega)) (fun _ => ?_)
    refine jj_iconst h d_M_takes_8 ?_
    refine jj_zret h he (by omega) d_M_takes_9 ?_
    exact ⟨rfl, rfl⟩
end
section
/-! The reference: quoted ones; what scanning may change. -/
theorem k1_at (m : mt_M) (c : Int) (r : Nat) (z : Int) : k1 m c r z = if r = 182 ∧ z = 9 then m 182 9 + 1 else if r = 187 ∧ z = m 182 9 then c else m r z := by
  simp only [k1, st_at]
/-- scanning: the text behind its end, and the scanner's own numbers, may have changed -/
def fr_ (mem m : mt_M) : Prop := mem 182 9 ≤ m 182 9 ∧ ∀ (r : Nat) (z : Int), (r ≠ 187 ∨ z < mem 182 9) → (r ≠ 182 ∨ (z ≠ 13 ∧ z ≠ 15 ∧ z ≠ 16 ∧ z ≠ 9)) → m r z = mem r z
theorem fr_.rf {mem : mt_M} : fr_ mem mem := ⟨Int.le_refl _, fun _ _ _ _ => rfl⟩
theorem fr_.trans {a b c : mt_M} (h1 : fr_ a b) (h2 : fr_ b c) : fr_ a c := ⟨Int.le_trans h1.1 h2.1, fun r z p q => by
  rw [h2.2 r z (by have := h1.1; rcases p with p | p; exact Or.inl p; exact Or.inr (by omega)) q]; exact h1.2 r z p q⟩
theorem fr_.st {a b : mt_M} {z v : Int} (h : fr_ a b) (hz : z = 13 ∨ z = 15 ∨ z = 16) : fr_ a (st_ b 182 z v) := ⟨by rw [st_ne (by rcases hz with rfl | rfl | rfl <;> decide)]; exact h.1, fun r z' p q => by
  rw [st_ne (by rcases q with q | q; exact Or.inl q; exact Or.inr (by rcases hz with rfl | rfl | rfl <;> omega))]; exact h.2 r z' p q⟩
theorem fr_.k1 {a b : mt_M} {c : Int} (h : fr_ a b) : fr_ a (k1 b c) := ⟨by rw [k1_at, if_pos ⟨rfl, rfl⟩]; have := h.1; omega, fun r z p q => by
  rw [k1_at, if_neg (by rintro ⟨rfl, rfl⟩; rcases q with q | q; exact q rfl; exact q.2.2.2 rfl), if_neg (by rintro ⟨rfl, rfl⟩; have := h.1; rcases p with p | p; exact p rfl; omega)]
  exact h.2 r z p q⟩
theorem fr_.txt {a b : mt_M} (h : fr_ a b) {z : Int} (hz : z < a 182 9) : b 187 z = a 187 z := h.2 _ _ (Or.inr hz) (Or.inl (by decide))
theorem fr_.slc {a b : mt_M} (h : fr_ a b) {p e : Int} (hz : e ≤ a 182 9) : slc (b 187) p e = slc (a 187) p e := slc_ext (fun i _ h2 => h.txt (by omega))
theorem qtd_34 (l : List Int) : qtd (34 :: l) = some ([], l) := by
  cases l with
  | nil => simp [qtd]
  | cons c t => rw [qtd, if_pos rfl]
theorem qtd_92 (c : Int) (l : List Int) : qtd (92 :: c :: l) = (qtd l).map (fun q => (c :: q.1, q.2)) := by rw [qtd, if_neg (by decide), if_pos rfl]
theorem qtd_1 : qtd [92] = none := by simp [qtd]
theorem qtd_e {b : Int} {l : List Int} (h1 : b ≠ 34) (h2 : b ≠ 92) : qtd (b :: l) = (qtd l).map (fun q => (b :: q.1, q.2)) := by
  cases l with
  | nil => simp [qtd, h1]
  | cons c t => rw [qtd, if_neg h1, if_neg h2]
theorem k1_slc {m : mt_M} {c p : Int} {w : List Int} (hp : p ≤ m 182 9) (h : slc (m 187) p (m 182 9) = w) : slc ((k1 m c) 187) p (m 182 9 + 1) = w ++ [c] := by
  rw [slc_snoc hp, slc_ext (g := m 187), h]
  · congr 1
    rw [k1_at, if_neg (by omega), if_pos ⟨rfl, rfl⟩]
  · intro i _ h2
    rw [k1_at, if_neg (by omega), if_neg (by rintro ⟨_, rfl⟩; omega)]
theorem k1_by {m : mt_M} {c : Int} (h0 : 0 ≤ c ∧ c ≤ 255) (h : by_ (m 187) 0 (m 182 9)) : by_ ((k1 m c) 187) 0 ((k1 m c) 182 9) := by
  intro i i0 i1
  rw [k1_at, if_pos (by decide)] at i1
  rw [k1_at, if_neg (by omega)]
  split
  · exact h0
  · rename_i hn
    exact h i i0 (by
      have : i ≠ m 182 9 := fun z => hn ⟨rfl, z⟩
      omega)
theorem qtd_suf : ∀ (L : List Int) (q : List Int × List Int), qtd L = some q → q.2 <:+ L
  | [], q, h => by simp [qtd] at h
  | [b], q, h => by
    unfold qtd at h
    split at h
    · cases h; exact List.nil_suffix
    · cases h
  | b :: c :: t, q, h => by
    rw [qtd] at h
    split at h
    · cases h; exact List.suffix_cons b _
    · split at h
      · obtain ⟨q', h', rfl⟩ := Option.map_eq_some_iff.mp h
        exact ((qtd_suf t q' h').trans (List.suffix_cons c t)).trans (List.suffix_cons b _)
      · obtain ⟨q', h', rfl⟩ := Option.map_eq_some_iff.mp h
        exact (qtd_suf (c :: t) q' h').trans (List.suffix_cons b _)
theorem cM_quoted {G : mt_G} {l : Launch} {mem : mt_M} {a s : Int} (hs : sc_ mem a s) (hts : s ≤ mem 182 9) (hro : mem 182 9 + (s - a) ≤ 1400) (ha : a < s) (h34 : mem 187 a = 34) (hbt : by_ (mem 187) 0 (mem 182 9)) : CT G l y_M_quoted c_M_quoted 1 (some .boolean) 3 [vr G 182] mem (fun v m' => by_ (m' 187) 0 (m' 182 9) ∧ fr_ mem m' ∧ m' 182 9 ≤ mem 182 9 + (m' 182 13 - a) ∧ a ≤ m' 182 13 ∧ m' 182 13 ≤ s ∧ match qtd (slc (mem 187) (a + 1) s) with
    | none => v = some (vi 0)
    | some q => v = some (vi 1) ∧ m' 182 13 = s - q.2.length ∧ m' 182 15 = mem 182 9 ∧ m' 182 16 = q.1.length ∧ m' 182 9 = mem 182 9 + q.1.length ∧ slc (m' 187) (mem 182 9) (m' 182 9) = q.1) := by
  refine CT.intro (by decide) rfl (Nat.le_of_ble_eq_true rfl) (fun X h he => ?_)
  have hst := hs.2.1
  have hby := hs.2.2.2.2.2
  have hat := hs.1
  have h0 := hs.2.2.1
  generalize hT : mem 182 9 = T at *
  have loop : ∀ (n : Nat) (q : Int) (w : List Int) (m : mt_M), (s - q).toNat = n → a + 1 ≤ q → q ≤ s → fr_ mem m → m 182 13 = q → m 182 15 = T → m 182 9 = T + w.length → (w.length : Int) < q - a → slc (m 187) T (m 182 9) = w → by_ (m 187) 0 (m 182 9) → qtd (slc (mem 187) (a + 1) s) = (qtd (slc (mem 187) q s)).map (fun p => (w ++ p.1, p.2)) → JJ G X 0 0 m 29 [some (vr G 182)] [] := by
    intro n
    induction n using Nat.strongRecOn with
    | ind n ih =>
      intro q w m hn hq hq1 hf m1 m2 m3 hw hsl hbm hc
      have m4 : m 182 14 = s := by rw [hf.2 _ _ (Or.inl (by decide)) (Or.inr (by decide))]; exact hst
      by_cases hqs : q < s
      · have hq3 := hby q (by omega) (by omega)
        have ht : m 187 q = mem 187 q := hf.txt (by omega)
        rw [slc_cons hqs] at hc
        refine jj_aload_n h d_M_quoted_29 rfl ⟨_, rfl⟩ ?_
        refine jj_g_M_at h  fl_M_93 d_M_quoted_30 ?_
        try simp only [st_at, Nat.reduceEqDiff, Int.reduceEq, and_self, true_and, and_true, false_and, and_false, reduceIte, k1_at, m1, m2, m3, m4, ht]
        refine jj_aload_n h d_M_quoted_33 rfl ⟨_, rfl⟩ ?_
        refine jj_g_M_stop h  fl_M_96 d_M_quoted_34 ?_
        try simp only [st_at, Nat.reduceEqDiff, Int.reduceEq, and_self, true_and, and_true, false_and, and_false, reduceIte, k1_at, m1, m2, m3, m4, ht]
        refine jj_icmp_ge h 115 d_M_quoted_37 (by decide) ⟨by omega, by omega⟩ ⟨by omega, by omega⟩ (fun q37 => absurd q37 (by omega)) (fun _ => ?_)
        refine jj_aload_n h d_M_quoted_40 rfl ⟨_, rfl⟩ ?_
        refine jj_g_M_text h  fl_M_22 d_M_quoted_41 ?_
        try simp only [st_at, Nat.reduceEqDiff, Int.reduceEq, and_self, true_and, and_true, false_and, and_false, reduceIte, k1_at, m1, m2, m3, m4, ht]
        refine jj_aload_n h d_M_quoted_44 rfl ⟨_, rfl⟩ ?_
        refine jj_g_M_at h  fl_M_93 d_M_quoted_45 ?_
        try simp only [st_at, Nat.reduceEqDiff, Int.reduceEq, and_self, true_and, and_true, false_and, and_false, reduceIte, k1_at, m1, m2, m3, m4, ht]
        refine jj_iaload (N := 1400) h (by decide) rfl (by decide) (by omega) (by omega) d_M_quoted_48 ?_
        try simp only [st_at, Nat.reduceEqDiff, Int.reduceEq, and_self, true_and, and_true, false_and, and_false, reduceIte, k1_at, m1, m2, m3, m4, ht]
        refine jj_bipush h d_M_quoted_49 (by decide) ?_
        refine jj_icmp_eq h 115 d_M_quoted_51 (by decide) ⟨by omega, by omega⟩ ⟨by omega, by omega⟩ (fun q51 => ?_) (fun q51 => ?_)
        · refine jj_aload_n h d_M_quoted_115 rfl ⟨_, rfl⟩ ?_
          refine jj_aload_n h d_M_quoted_116 rfl ⟨_, rfl⟩ ?_
          refine jj_g_M_textSize h  fl_M_56 d_M_quoted_117 ?_
          try simp only [st_at, Nat.reduceEqDiff, Int.reduceEq, and_self, true_and, and_true, false_and, and_false, reduceIte, k1_at, m1, m2, m3, m4, ht]
          refine jj_aload_n h d_M_quoted_120 rfl ⟨_, rfl⟩ ?_
          refine jj_g_M_wordAt h  fl_M_106 d_M_quoted_121 ?_
          try simp only [st_at, Nat.reduceEqDiff, Int.reduceEq, and_self, true_and, and_true, false_and, and_false, reduceIte, k1_at, m1, m2, m3, m4, ht]
          refine jj_isub h d_M_quoted_124 ?_
          refine jj_p_M_wordSize h  fl_M_112 d_M_quoted_125 ?_
          refine jj_aload_n h d_M_quoted_128 rfl ⟨_, rfl⟩ ?_
          refine jj_g_M_at h  fl_M_93 d_M_quoted_129 ?_
          try simp only [st_at, Nat.reduceEqDiff, Int.reduceEq, and_self, true_and, and_true, false_and, and_false, reduceIte, k1_at, m1, m2, m3, m4, ht]
          refine jj_aload_n h d_M_quoted_132 rfl ⟨_, rfl⟩ ?_
          refine jj_g_M_stop h  fl_M_96 d_M_quoted_133 ?_
          try simp only [st_at, Nat.reduceEqDiff, Int.reduceEq, and_self, true_and, and_true, false_and, and_false, reduceIte, k1_at, m1, m2, m3, m4, ht]
          refine jj_icmp_lt h 141 d_M_quoted_136 (by decide) ⟨by omega, by omega⟩ ⟨by omega, by omega⟩ (fun _ => ?_) (fun q136 => absurd (by omega) q136)
          refine jj_aload_n h d_M_quoted_141 rfl ⟨_, rfl⟩ ?_
          refine jj_dup h d_M_quoted_142 rfl ?_
          refine jj_g_M_at h  fl_M_93 d_M_quoted_143 ?_
          try simp only [st_at, Nat.reduceEqDiff, Int.reduceEq, and_self, true_and, and_true, false_and, and_false, reduceIte, k1_at, m1, m2, m3, m4, ht]
          refine jj_iconst h d_M_quoted_146 ?_
          refine jj_iadd h d_M_quoted_147 ?_
          refine jj_p_M_at h  fl_M_93 d_M_quoted_148 ?_
          refine jj_iconst h d_M_quoted_151 ?_
          refine jj_zret h he (by omega) d_M_quoted_152 ?_
          refine ⟨by rw [st_row (by decide), st_row (by decide), st_ne (by decide), st_ne (by decide)]; exact hbm, (hf.st (by decide)).st (by decide), ?_, ?_, ?_, ?_⟩
          · simp only [st_at, Nat.reduceEqDiff, Int.reduceEq, and_self, and_false, reduceIte]; omega
          · simp only [st_at, and_self, reduceIte]; omega
          · simp only [st_at, and_self, reduceIte]; omega
          · rw [hc, q51, qtd_34]
            simp only [Option.map_some, List.append_nil]
            refine ⟨trivial, ?_, ?_, ?_, ?_, ?_⟩
            · rw [st_same, slc_len]; omega
            · rw [st_ne (by decide), st_ne (by decide)]; exact m2
            · rw [st_ne (by decide), st_same]; omega
            · rw [st_ne (by decide), st_ne (by decide)]; exact m3
            · rw [st_row (by decide), st_row (by decide), st_ne (by decide), st_ne (by decide)]; exact hsl
        · refine jj_aload_n h d_M_quoted_54 rfl ⟨_, rfl⟩ ?_
          refine jj_g_M_text h  fl_M_22 d_M_quoted_55 ?_
          try simp only [st_at, Nat.reduceEqDiff, Int.reduceEq, and_self, true_and, and_true, false_and, and_false, reduceIte, k1_at, m1, m2, m3, m4, ht]
          refine jj_aload_n h d_M_quoted_58 rfl ⟨_, rfl⟩ ?_
          refine jj_g_M_at h  fl_M_93 d_M_quoted_59 ?_
          try simp only [st_at, Nat.reduceEqDiff, Int.reduceEq, and_self, true_and, and_true, false_and, and_false, reduceIte, k1_at, m1, m2, m3, m4, ht]
          refine jj_iaload (N := 1400) h (by decide) rfl (by decide) (by omega) (by omega) d_M_quoted_62 ?_
          try simp only [st_at, Nat.reduceEqDiff, Int.reduceEq, and_self, true_and, and_true, false_and, and_false, reduceIte, k1_at, m1, m2, m3, m4, ht]
          refine jj_bipush h d_M_quoted_63 (by decide) ?_
          refine jj_icmp_ne h 78 d_M_quoted_65 (by decide) ⟨by omega, by omega⟩ ⟨by omega, by omega⟩ (fun q65 => ?_) (fun q65 => ?_)
          · refine jj_aload_n h d_M_quoted_78 rfl ⟨_, rfl⟩ ?_
            refine jj_g_M_at h  fl_M_93 d_M_quoted_79 ?_
            try simp only [st_at, Nat.reduceEqDiff, Int.reduceEq, and_self, true_and, and_true, false_and, and_false, reduceIte, k1_at, m1, m2, m3, m4, ht]
            refine jj_aload_n h d_M_quoted_82 rfl ⟨_, rfl⟩ ?_
            refine jj_g_M_stop h  fl_M_96 d_M_quoted_83 ?_
            try simp only [st_at, Nat.reduceEqDiff, Int.reduceEq, and_self, true_and, and_true, false_and, and_false, reduceIte, k1_at, m1, m2, m3, m4, ht]
            refine jj_icmp_ge h 29 d_M_quoted_86 (by decide) ⟨by omega, by omega⟩ ⟨by omega, by omega⟩ (fun q86 => absurd q86 (by omega)) (fun _ => ?_)
            refine jj_aload_n h d_M_quoted_89 rfl ⟨_, rfl⟩ ?_
            refine jj_aload_n h d_M_quoted_90 rfl ⟨_, rfl⟩ ?_
            refine jj_g_M_text h  fl_M_22 d_M_quoted_91 ?_
            try simp only [st_at, Nat.reduceEqDiff, Int.reduceEq, and_self, true_and, and_true, false_and, and_false, reduceIte, k1_at, m1, m2, m3, m4, ht]
            refine jj_aload_n h d_M_quoted_94 rfl ⟨_, rfl⟩ ?_
            refine jj_g_M_at h  fl_M_93 d_M_quoted_95 ?_
            try simp only [st_at, Nat.reduceEqDiff, Int.reduceEq, and_self, true_and, and_true, false_and, and_false, reduceIte, k1_at, m1, m2, m3, m4, ht]
            refine jj_iaload (N := 1400) h (by decide) rfl (by decide) (by omega) (by omega) d_M_quoted_98 ?_
            try simp only [st_at, Nat.reduceEqDiff, Int.reduceEq, and_self, true_and, and_true, false_and, and_false, reduceIte, k1_at, m1, m2, m3, m4, ht]
            refine jj_callV h (cM_keep (by omega) (by omega)) cv_M_66 (ro_of he (by decide) (by decide)) rfl rfl (by decide) rfl rfl rfl (Nat.le_of_ble_eq_true rfl) d_M_quoted_99 (fun v m99 hv => ?_)
            obtain ⟨rfl, rfl⟩ := hv
            refine jj_aload_n h d_M_quoted_102 rfl ⟨_, rfl⟩ ?_
            refine jj_dup h d_M_quoted_103 rfl ?_
            refine jj_g_M_at h  fl_M_93 d_M_quoted_104 ?_
            try simp only [st_at, Nat.reduceEqDiff, Int.reduceEq, and_self, true_and, and_true, false_and, and_false, reduceIte, k1_at, m1, m2, m3, m4, ht]
            refine jj_iconst h d_M_quoted_107 ?_
            refine jj_iadd h d_M_quoted_108 ?_
            refine jj_p_M_at h  fl_M_93 d_M_quoted_109 ?_
            refine jj_goto h 29 d_M_quoted_112 (by decide) ?_
            refine ih _ (by omega) (q + 1) (w ++ [mem 187 q]) _ rfl (by omega) (by omega) ((hf.k1).st (by decide)) st_same ?_ ?_ ?_ ?_ (by rw [st_row (by decide), st_ne (by decide)]; exact k1_by hq3 hbm) ?_
            · rw [st_ne (by decide), k1_at, if_neg (by decide), if_neg (by omega)]; exact m2
            · rw [st_ne (by decide), k1_at, if_pos (by decide), List.length_append, m3]; simp only [List.length_cons, List.length_nil]; omega
            · rw [List.length_append]; simp only [List.length_cons, List.length_nil]; omega
            · rw [st_ne (by decide), st_row (by decide), k1_at _ _ 182, if_pos (by decide)]; exact k1_slc (by omega) hsl
            · rw [hc, qtd_e q51 q65]; simp [Function.comp_def]
          · refine jj_aload_n h d_M_quoted_68 rfl ⟨_, rfl⟩ ?_
            refine jj_dup h d_M_quoted_69 rfl ?_
            refine jj_g_M_at h  fl_M_93 d_M_quoted_70 ?_
            try simp only [st_at, Nat.reduceEqDiff, Int.reduceEq, and_self, true_and, and_true, false_and, and_false, reduceIte, k1_at, m1, m2, m3, m4, ht]
            refine jj_iconst h d_M_quoted_73 ?_
            refine jj_iadd h d_M_quoted_74 ?_
            refine jj_p_M_at h  fl_M_93 d_M_quoted_75 ?_
            refine jj_aload_n h d_M_quoted_78 rfl ⟨_, rfl⟩ ?_
            refine jj_g_M_at h  fl_M_93 d_M_quoted_79 ?_
            try simp only [st_at, Nat.reduceEqDiff, Int.reduceEq, and_self, true_and, and_true, false_and, and_false, reduceIte, k1_at, m1, m2, m3, m4, ht]
            refine jj_aload_n h d_M_quoted_82 rfl ⟨_, rfl⟩ ?_
            refine jj_g_M_stop h  fl_M_96 d_M_quoted_83 ?_
            try simp only [st_at, Nat.reduceEqDiff, Int.reduceEq, and_self, true_and, and_true, false_and, and_false, reduceIte, k1_at, m1, m2, m3, m4, ht]
            refine jj_icmp_ge h 29 d_M_quoted_86 (by decide) ⟨by omega, by omega⟩ ⟨by omega, by omega⟩ (fun q86 => ?_) (fun q86 => ?_)
            · refine ih _ (by omega) (q + 1) w _ rfl (by omega) (by omega) (hf.st (by decide)) st_same ?_ ?_ (by omega) ?_ (by rw [st_row (by decide), st_ne (by decide)]; exact hbm) ?_
              · rw [st_ne (by decide)]; exact m2
              · rw [st_ne (by decide)]; exact m3
              · rw [st_ne (by decide), st_row (by decide)]; exact hsl
              · rw [hc, q65, slc_nil (by omega : s ≤ q + 1), qtd_1]; rfl
            · have ht2 := hf.txt (z := q + 1) (by omega)
              refine jj_aload_n h d_M_quoted_89 rfl ⟨_, rfl⟩ ?_
              refine jj_aload_n h d_M_quoted_90 rfl ⟨_, rfl⟩ ?_
              refine jj_g_M_text h  fl_M_22 d_M_quoted_91 ?_
              try simp only [st_at, Nat.reduceEqDiff, Int.reduceEq, and_self, true_and, and_true, false_and, and_false, reduceIte, k1_at, m1, m2, m3, m4, ht]
              refine jj_aload_n h d_M_quoted_94 rfl ⟨_, rfl⟩ ?_
              refine jj_g_M_at h  fl_M_93 d_M_quoted_95 ?_
              try simp only [st_at, Nat.reduceEqDiff, Int.reduceEq, and_self, true_and, and_true, false_and, and_false, reduceIte, k1_at, m1, m2, m3, m4, ht]
              refine jj_iaload (N := 1400) h (by decide) rfl (by decide) (by omega) (by omega) d_M_quoted_98 ?_
              try simp only [st_at, Nat.reduceEqDiff, Int.reduceEq, and_self, true_and, and_true, false_and, and_false, reduceIte, m1, m4, ht2]
              refine jj_callV h (cM_keep (by rw [st_ne (by decide)]; omega) (by rw [st_ne (by decide)]; omega)) cv_M_66 (ro_of he (by decide) (by decide)) rfl rfl (by decide) rfl rfl rfl (Nat.le_of_ble_eq_true rfl) d_M_quoted_99 (fun v m99 hv => ?_)
              obtain ⟨rfl, rfl⟩ := hv
              refine jj_aload_n h d_M_quoted_102 rfl ⟨_, rfl⟩ ?_
              refine jj_dup h d_M_quoted_103 rfl ?_
              refine jj_g_M_at h  fl_M_93 d_M_quoted_104 ?_
              try simp only [st_at, Nat.reduceEqDiff, Int.reduceEq, and_self, true_and, and_true, false_and, and_false, reduceIte, k1_at, m1, m2, m3, m4, ht]
              refine jj_iconst h d_M_quoted_107 ?_
              refine jj_iadd h d_M_quoted_108 ?_
              refine jj_p_M_at h  fl_M_93 d_M_quoted_109 ?_
              refine jj_goto h 29 d_M_quoted_112 (by decide) ?_
              have hf2 : fr_ mem (st_ m 182 13 (q + 1)) := hf.st (by decide)
              have e3 : (st_ m 182 13 (q + 1)) 182 9 = T + w.length := by rw [st_ne (by decide)]; exact m3
              refine ih _ (by omega) (q + 1 + 1) (w ++ [mem 187 (q + 1)]) _ rfl (by omega) (by omega) ((hf2.k1).st (by decide)) st_same ?_ ?_ ?_ ?_ (by rw [st_row (by decide), st_ne (by decide)]; exact k1_by (hby (q + 1) (by omega) (by omega)) (by rw [st_row (by decide), st_ne (by decide)]; exact hbm)) ?_
              · rw [st_ne (by decide), k1_at, if_neg (by decide), if_neg (by omega), st_ne (by decide)]; exact m2
              · rw [st_ne (by decide), k1_at, if_pos (by decide), List.length_append, e3]; simp only [List.length_cons, List.length_nil]; omega
              · rw [List.length_append]; simp only [List.length_cons, List.length_nil]; omega
              · rw [st_ne (by decide), st_row (by decide), k1_at _ _ 182, if_pos (by decide)]; exact k1_slc (by omega) (by rw [st_row (by decide), e3, ← m3]; exact hsl)
              · rw [hc, q65, slc_cons (by omega : q + 1 < s), qtd_92]; simp [Function.comp_def]
      · rw [slc_nil (p := q) (by omega)] at hc
        refine jj_aload_n h d_M_quoted_29 rfl ⟨_, rfl⟩ ?_
        refine jj_g_M_at h  fl_M_93 d_M_quoted_30 ?_
        try simp only [st_at, Nat.reduceEqDiff, Int.reduceEq, and_self, true_and, and_true, false_and, and_false, reduceIte, m1, m2, m3, m4]
        refine jj_aload_n h d_M_quoted_33 rfl ⟨_, rfl⟩ ?_
        refine jj_g_M_stop h  fl_M_96 d_M_quoted_34 ?_
        try simp only [st_at, Nat.reduceEqDiff, Int.reduceEq, and_self, true_and, and_true, false_and, and_false, reduceIte, m1, m2, m3, m4]
        refine jj_icmp_ge h 115 d_M_quoted_37 (by decide) ⟨by omega, by omega⟩ ⟨by omega, by omega⟩ (fun _ => ?_) (fun q37 => absurd (by omega) q37)
        refine jj_aload_n h d_M_quoted_115 rfl ⟨_, rfl⟩ ?_
        refine jj_aload_n h d_M_quoted_116 rfl ⟨_, rfl⟩ ?_
        refine jj_g_M_textSize h  fl_M_56 d_M_quoted_117 ?_
        try simp only [st_at, Nat.reduceEqDiff, Int.reduceEq, and_self, true_and, and_true, false_and, and_false, reduceIte, m1, m2, m3, m4]
        refine jj_aload_n h d_M_quoted_120 rfl ⟨_, rfl⟩ ?_
        refine jj_g_M_wordAt h  fl_M_106 d_M_quoted_121 ?_
        try simp only [st_at, Nat.reduceEqDiff, Int.reduceEq, and_self, true_and, and_true, false_and, and_false, reduceIte, m1, m2, m3, m4]
        refine jj_isub h d_M_quoted_124 ?_
        refine jj_p_M_wordSize h  fl_M_112 d_M_quoted_125 ?_
        refine jj_aload_n h d_M_quoted_128 rfl ⟨_, rfl⟩ ?_
        refine jj_g_M_at h  fl_M_93 d_M_quoted_129 ?_
        try simp only [st_at, Nat.reduceEqDiff, Int.reduceEq, and_self, true_and, and_true, false_and, and_false, reduceIte, m1, m2, m3, m4]
        refine jj_aload_n h d_M_quoted_132 rfl ⟨_, rfl⟩ ?_
        refine jj_g_M_stop h  fl_M_96 d_M_quoted_133 ?_
        try simp only [st_at, Nat.reduceEqDiff, Int.reduceEq, and_self, true_and, and_true, false_and, and_false, reduceIte, m1, m2, m3, m4]
        refine jj_icmp_lt h 141 d_M_quoted_136 (by decide) ⟨by omega, by omega⟩ ⟨by omega, by omega⟩ (fun q136 => absurd q136 (by omega)) (fun _ => ?_)
        refine jj_iconst h d_M_quoted_139 ?_
        refine jj_zret h he (by omega) d_M_quoted_140 ?_
        refine ⟨by rw [st_row (by decide), st_ne (by decide)]; exact hbm, hf.st (by decide), ?_, ?_, ?_, ?_⟩
        · rw [st_ne (by decide), st_ne (by decide)]; omega
        · rw [st_ne (by decide)]; omega
        · rw [st_ne (by decide)]; omega
        · rw [hc]; rfl
  refine jj_aload_n h d_M_quoted_0 rfl ⟨_, rfl⟩ ?_
  refine jj_callV h (cM_now2 hs) cv_M_99 (ro_of he (by decide) (by decide)) rfl rfl (by decide) rfl rfl rfl (Nat.le_of_ble_eq_true rfl) d_M_quoted_1 (fun v m1 hv => ?_)
  obtain ⟨rfl, rfl⟩ := hv
  rw [if_pos ha]
  refine jj_bipush h d_M_quoted_4 (by decide) ?_
  refine jj_icmp_eq h 11 d_M_quoted_6 (by decide) ⟨by omega, by omega⟩ ⟨by omega, by omega⟩ (fun _ => ?_) (fun q6 => absurd (by omega) q6)
  refine jj_aload_n h d_M_quoted_11 rfl ⟨_, rfl⟩ ?_
  refine jj_aload_n h d_M_quoted_12 rfl ⟨_, rfl⟩ ?_
  refine jj_g_M_textSize h  fl_M_56 d_M_quoted_13 ?_
  try simp only [st_at, Nat.reduceEqDiff, Int.reduceEq, and_self, true_and, and_true, false_and, and_false, reduceIte, hat]
  refine jj_p_M_wordAt h  fl_M_106 d_M_quoted_16 ?_
  refine jj_aload_n h d_M_quoted_19 rfl ⟨_, rfl⟩ ?_
  refine jj_dup h d_M_quoted_20 rfl ?_
  refine jj_g_M_at h  fl_M_93 d_M_quoted_21 ?_
  try simp only [st_at, Nat.reduceEqDiff, Int.reduceEq, and_self, true_and, and_true, false_and, and_false, reduceIte, hat]
  refine jj_iconst h d_M_quoted_24 ?_
  refine jj_iadd h d_M_quoted_25 ?_
  refine jj_p_M_at h  fl_M_93 d_M_quoted_26 ?_
  refine loop _ (a + 1) [] _ rfl (by omega) (by omega) ((fr_.rf.st (by decide)).st (by decide)) st_same ?_ ?_ ?_ ?_ (by rw [st_row (by decide), st_row (by decide), st_ne (by decide), st_ne (by decide), hT]; exact hbt) ?_
  · rw [st_ne (by decide), st_same]; exact hT
  · rw [st_ne (by decide), st_ne (by decide)]; simp [hT]
  · simp only [List.length_nil]; omega
  · rw [st_ne (by decide), st_ne (by decide), hT]; exact slc_nil (Int.le_refl _)
  · simp
end
section
/-! The reference: words that are packed into numbers. -/
/-- letter k of the word that the three numbers hold -/
def ltr (a b c : Int) (k : Int) : Int := l2i_ (land_ (lshr_ (if k < 9 then a else if k < 18 then b else c) (56 - 7 * irem_ k 9)) 127)
def wl_ (a b c : Int) (k : Nat) : List Int := ((List.range k).map (fun (i : Nat) => ltr a b c (i : Int))).filter (fun x => decide (0 < x))
theorem wl_s (a b c : Int) (k : Nat) : wl_ a b c (k + 1) = wl_ a b c k ++ (if 0 < ltr a b c k then [ltr a b c k] else []) := by
  unfold wl_
  rw [List.range_succ, List.map_append, List.filter_append]
  congr 1
  by_cases h : 0 < ltr a b c k
  · simp [h]
  · simp [h]
theorem pre_snoc {w L : List Int} {x : Int} : (w ++ [x]) <+: L ↔ w <+: L ∧ L[w.length]? = some x := by
  constructor
  · rintro ⟨t, rfl⟩
    exact ⟨⟨[x] ++ t, by simp⟩, by simp⟩
  · rintro ⟨⟨t, rfl⟩, h2⟩
    cases t with
    | nil => simp at h2
    | cons y t =>
      simp at h2
      subst h2
      exact ⟨t, by simp⟩
theorem pre_eq {w L : List Int} (h : w <+: L) (hl : w.length = L.length) : L = w := (h.eq_of_length hl).symm
theorem cM_isWord {G : mt_G} {l : Launch} {mem : mt_M} {a b c p n : Int} {w : List Int} (hw : wl_ a b c 27 = w) (hl : ∀ k : Nat, k < 27 → 0 ≤ ltr a b c k ∧ ltr a b c k ≤ 127) (h0 : 0 ≤ p) (h1 : 0 ≤ n) (h2 : p + n ≤ 1400) (hb : by_ (mem 187) p (p + n)) : CT G l y_M_isWord c_M_isWord 15 (some .boolean) 2 [vr G 182, vi p, vi n, vl a, vl b, vl c] mem (fun v m' => v = some (vi (if wd_ w (slc (mem 187) p (p + n)) then 1 else 0)) ∧ mem = m') := by
  refine CT.intro (by decide) rfl (Nat.le_of_ble_eq_true rfl) (fun X h he => ?_)
  generalize hL : (slc (mem 187) p (p + n)).map sm_ = L
  have hLl : (L.length : Int) = n := by rw [← hL, List.length_map, slc_len]; omega
  have hLg : ∀ i : Int, 0 ≤ i → i < n → L[i.toNat]? = some (sm_ (mem 187 (p + i))) := fun i i0 i1 => by
    rw [← hL, List.getElem?_map, slc_get i0 (by omega)]; rfl
  have loop : ∀ (j : Nat) (k : Nat) (x y z : Option Value), 27 - k = j → k ≤ 27 → JJ G X 0 0 mem 9 [some (vr G 182), some (vi p), some (vi n), some (vl a), none, some (vl b), none, some (vl c), none, some (vi ((wl_ a b c k).length)), some (vi (if wl_ a b c k <+: L then 1 else 0)), some (vi k), x, y, z] [] := by
    intro j
    induction j with
    | zero =>
      intro k x y z hj hk
      have hk : k = 27 := by omega
      subst hk
      rw [hw]
      have hwl : (w.length : Int) ≤ 27 := by rw [← hw]; unfold wl_; exact_mod_cast Nat.le_trans (List.length_filter_le _ _) (by simp)
      refine jj_iload h d_M_isWord_9 rfl ?_
      refine jj_bipush h d_M_isWord_11 (by decide) ?_
      refine jj_icmp_ge h 113 d_M_isWord_13 (by decide) ⟨by omega, by omega⟩ ⟨by omega, by omega⟩ (fun _ => ?_) (fun q13 => absurd (by omega) q13)
      refine jj_iload h d_M_isWord_113 rfl ?_
      refine jj_if_eq h 128 d_M_isWord_115 (by decide) ⟨by split <;> omega, by split <;> omega⟩ (fun q115 => ?_) (fun q115 => ?_)
      · refine jj_iconst h d_M_isWord_128 ?_
        refine jj_zret h he (by omega) d_M_isWord_129 ?_
        refine ⟨?_, rfl⟩
        have e1 : ¬ w <+: L := fun z9 => by rw [if_pos z9] at q115; omega
        have e2 : ¬ wd_ w (slc (mem 187) p (p + n)) = true := fun z9 => e1 (by rw [← hL, of_decide_eq_true z9]; exact List.prefix_refl _)
        rw [if_neg e2]
      · refine jj_iload h d_M_isWord_118 rfl ?_
        refine jj_iload_n h d_M_isWord_120 rfl ?_
        refine jj_icmp_ne h 128 d_M_isWord_121 (by decide) ⟨by omega, by omega⟩ ⟨by omega, by omega⟩ (fun q121 => ?_) (fun q121 => ?_)
        · refine jj_iconst h d_M_isWord_128 ?_
          refine jj_zret h he (by omega) d_M_isWord_129 ?_
          refine ⟨?_, rfl⟩
          have e2 : ¬ wd_ w (slc (mem 187) p (p + n)) = true := fun z9 => q121 (by rw [← hLl, ← hL, of_decide_eq_true z9])
          rw [if_neg e2]
        · refine jj_iconst h d_M_isWord_124 ?_
          refine jj_goto h 129 d_M_isWord_125 (by decide) ?_
          refine jj_zret h he (by omega) d_M_isWord_129 ?_
          refine ⟨?_, rfl⟩
          have e1 : w <+: L := Decidable.byContradiction fun z9 => q115 (by rw [if_neg z9])
          have e2 : wd_ w (slc (mem 187) p (p + n)) = true := decide_eq_true (by rw [hL]; exact pre_eq e1 (by omega))
          rw [if_pos e2]
    | succ j ih =>
      intro k x y z hj hk
      have hlk := hl k (by omega)
      have hwl : ((wl_ a b c k).length : Int) ≤ 27 := by unfold wl_; exact_mod_cast Nat.le_trans (List.length_filter_le _ _) (by simp; omega)
      have hnx : ∀ x' y' z', JJ G X 0 0 mem 9 [some (vr G 182), some (vi p), some (vi n), some (vl a), none, some (vl b), none, some (vl c), none, some (vi ((wl_ a b c (k + 1)).length)), some (vi (if wl_ a b c (k + 1) <+: L then 1 else 0)), some (vi ((k : Int) + 1)), x', y', z'] [] := fun x' y' z' => ih (k + 1) x' y' z' (by omega) (by omega)
      have body : ∀ r, ltr a b c k = l2i_ (land_ (lshr_ r (56 - 7 * irem_ k 9)) 127) → JJ G X 0 0 mem 41 [some (vr G 182), some (vi p), some (vi n), some (vl a), none, some (vl b), none, some (vl c), none, some (vi ((wl_ a b c k).length)), some (vi (if wl_ a b c k <+: L then 1 else 0)), some (vi k), x, y, z] [vl r] := by
        intro r hr
        have hs := wl_s a b c k
        refine jj_lstore h d_M_isWord_41 (Nat.le_of_ble_eq_true rfl) rfl ?_
        refine jj_lload h d_M_isWord_43 rfl ?_
        refine jj_bipush h d_M_isWord_45 (by decide) ?_
        refine jj_bipush h d_M_isWord_47 (by decide) ?_
        refine jj_iload h d_M_isWord_49 rfl ?_
        refine jj_bipush h d_M_isWord_51 (by decide) ?_
        refine jj_irem h d_M_isWord_53 (by decide) ?_
        refine jj_imul h d_M_isWord_54 ?_
        refine jj_isub h d_M_isWord_55 ?_
        refine jj_lshr h d_M_isWord_56 ?_
        refine jj_ldc2 h (127) d_M_isWord_57 wk_M_87 ?_
        refine jj_land h d_M_isWord_60 ?_
        refine jj_l2i h d_M_isWord_61 ?_
        rw [← hr]
        refine jj_istore h d_M_isWord_62 (Nat.le_of_ble_eq_true rfl) rfl ?_
        refine jj_iload h d_M_isWord_64 rfl ?_
        refine jj_if_le h 107 d_M_isWord_66 (by decide) ⟨by omega, by omega⟩ (fun q66 => ?_) (fun q66 => ?_)
        · rw [if_neg (by omega), List.append_nil] at hs
          refine jj_iinc h d_M_isWord_107 rfl rfl ?_
          refine jj_goto h 9 d_M_isWord_110 (by decide) ?_
          rw [hs] at hnx
          exact hnx _ _ _
        · rw [if_pos (by omega)] at hs
          refine jj_iload h d_M_isWord_69 rfl ?_
          refine jj_if_eq h 101 d_M_isWord_71 (by decide) ⟨by split <;> omega, by split <;> omega⟩ (fun q71 => ?_) (fun q71 => ?_)
          · refine jj_iconst h d_M_isWord_101 ?_
            refine jj_istore h d_M_isWord_102 (Nat.le_of_ble_eq_true rfl) rfl ?_
            refine jj_iinc h d_M_isWord_104 rfl rfl ?_
            refine jj_iinc h d_M_isWord_107 rfl rfl ?_
            refine jj_goto h 9 d_M_isWord_110 (by decide) ?_
            have e1 : ¬ wl_ a b c k <+: L := fun z9 => by rw [if_pos z9] at q71; omega
            have e2 : ¬ wl_ a b c (k + 1) <+: L := by rw [hs]; exact fun z9 => e1 (pre_snoc.mp z9).1
            have hnx := hnx (some (vl r)) none (some (vi (ltr a b c k)))
            rw [if_neg e2, hs, List.length_append] at hnx
            exact hnx
          · refine jj_iload h d_M_isWord_74 rfl ?_
            refine jj_iload_n h d_M_isWord_76 rfl ?_
            refine jj_icmp_ge h 101 d_M_isWord_77 (by decide) ⟨by omega, by omega⟩ ⟨by omega, by omega⟩ (fun q77 => ?_) (fun q77 => ?_)
            · refine jj_iconst h d_M_isWord_101 ?_
              refine jj_istore h d_M_isWord_102 (Nat.le_of_ble_eq_true rfl) rfl ?_
              refine jj_iinc h d_M_isWord_104 rfl rfl ?_
              refine jj_iinc h d_M_isWord_107 rfl rfl ?_
              refine jj_goto h 9 d_M_isWord_110 (by decide) ?_
              have e2 : ¬ wl_ a b c (k + 1) <+: L := by
                rw [hs]; intro z9
                have := (List.getElem?_eq_some_iff.mp (pre_snoc.mp z9).2).1
                omega
              have hnx := hnx (some (vl r)) none (some (vi (ltr a b c k)))
              rw [if_neg e2, hs, List.length_append] at hnx
              exact hnx
            · have hby := hb (p + (wl_ a b c k).length) (by omega) (by omega)
              refine jj_aload_n h d_M_isWord_80 rfl ⟨_, rfl⟩ ?_
              refine jj_g_M_text h  fl_M_22 d_M_isWord_81 ?_
              refine jj_iload_n h d_M_isWord_84 rfl ?_
              refine jj_iload h d_M_isWord_85 rfl ?_
              refine jj_iadd h d_M_isWord_87 ?_
              refine jj_iaload (N := 1400) h (by decide) rfl (by decide) (by omega) (by omega) d_M_isWord_88 ?_
              refine jj_callS h (cM_small ⟨by omega, by omega⟩) cv_M_89 (ro_of he (by decide) (by decide)) rfl rfl rfl (Nat.le_of_ble_eq_true rfl) d_M_isWord_89 (fun v m1 hv => ?_)
              obtain ⟨rfl, rfl⟩ := hv
              refine jj_iload h d_M_isWord_92 rfl ?_
              refine jj_icmp_ne h 101 d_M_isWord_94 (by decide) ⟨by unfold sm_; split <;> omega, by unfold sm_; split <;> omega⟩ ⟨by omega, by omega⟩ (fun q94 => ?_) (fun q94 => ?_)
              · refine jj_iconst h d_M_isWord_101 ?_
                refine jj_istore h d_M_isWord_102 (Nat.le_of_ble_eq_true rfl) rfl ?_
                refine jj_iinc h d_M_isWord_104 rfl rfl ?_
                refine jj_iinc h d_M_isWord_107 rfl rfl ?_
                refine jj_goto h 9 d_M_isWord_110 (by decide) ?_
                have e3 := hLg (wl_ a b c k).length (by omega) (by omega)
                have e2 : ¬ wl_ a b c (k + 1) <+: L := by
                  rw [hs]; intro z9
                  have := (pre_snoc.mp z9).2
                  rw [show (((wl_ a b c k).length : Int)).toNat = (wl_ a b c k).length from rfl] at e3
                  rw [e3] at this
                  exact q94 (Option.some.inj this)
                have hnx := hnx (some (vl r)) none (some (vi (ltr a b c k)))
                rw [if_neg e2, hs, List.length_append] at hnx
                exact hnx
              · refine jj_iconst h d_M_isWord_97 ?_
                refine jj_goto h 102 d_M_isWord_98 (by decide) ?_
                refine jj_istore h d_M_isWord_102 (Nat.le_of_ble_eq_true rfl) rfl ?_
                refine jj_iinc h d_M_isWord_104 rfl rfl ?_
                refine jj_iinc h d_M_isWord_107 rfl rfl ?_
                refine jj_goto h 9 d_M_isWord_110 (by decide) ?_
                have e3 := hLg (wl_ a b c k).length (by omega) (by omega)
                have e1 : wl_ a b c k <+: L := Decidable.byContradiction fun z9 => q71 (by rw [if_neg z9])
                have e2 : wl_ a b c (k + 1) <+: L := by
                  rw [hs]
                  rw [show (((wl_ a b c k).length : Int)).toNat = (wl_ a b c k).length from rfl, q94] at e3
                  exact pre_snoc.mpr ⟨e1, e3⟩
                have hnx := hnx (some (vl r)) none (some (vi (ltr a b c k)))
                rw [if_pos e2, hs, List.length_append] at hnx
                exact hnx
      refine jj_iload h d_M_isWord_9 rfl ?_
      refine jj_bipush h d_M_isWord_11 (by decide) ?_
      refine jj_icmp_ge h 113 d_M_isWord_13 (by decide) ⟨by omega, by omega⟩ ⟨by omega, by omega⟩ (fun q13 => absurd q13 (by omega)) (fun _ => ?_)
      refine jj_iload h d_M_isWord_16 rfl ?_
      refine jj_bipush h d_M_isWord_18 (by decide) ?_
      refine jj_icmp_ge h 27 d_M_isWord_20 (by decide) ⟨by omega, by omega⟩ ⟨by omega, by omega⟩ (fun q20 => ?_) (fun q20 => ?_)
      · refine jj_iload h d_M_isWord_27 rfl ?_
        refine jj_bipush h d_M_isWord_29 (by decide) ?_
        refine jj_icmp_ge h 39 d_M_isWord_31 (by decide) ⟨by omega, by omega⟩ ⟨by omega, by omega⟩ (fun q31 => ?_) (fun q31 => ?_)
        · refine jj_lload h d_M_isWord_39 rfl ?_
          exact body c (by unfold ltr; rw [if_neg (by omega), if_neg (by omega)])
        · refine jj_lload h d_M_isWord_34 rfl ?_
          refine jj_goto h 41 d_M_isWord_36 (by decide) ?_
          exact body b (by unfold ltr; rw [if_neg (by omega), if_pos (by omega)])
      · refine jj_lload_n h d_M_isWord_23 rfl ?_
        refine jj_goto h 41 d_M_isWord_24 (by decide) ?_
        exact body a (by unfold ltr; rw [if_pos (by omega)])
  refine jj_iconst h d_M_isWord_0 ?_
  refine jj_istore h d_M_isWord_1 (Nat.le_of_ble_eq_true rfl) rfl ?_
  refine jj_iconst h d_M_isWord_3 ?_
  refine jj_istore h d_M_isWord_4 (Nat.le_of_ble_eq_true rfl) rfl ?_
  refine jj_iconst h d_M_isWord_6 ?_
  refine jj_istore h d_M_isWord_7 (Nat.le_of_ble_eq_true rfl) rfl ?_
  have e9 := loop 27 0 none none none rfl (by omega)
  have e8 : wl_ a b c 0 <+: L := ⟨L, rfl⟩
  rw [if_pos e8] at e9
  exact e9
theorem wl_cte : wl_ 7196677052775077620 8269659629885888229 487216738105191 27 = w_cte ∧ ∀ k : Nat, k < 27 → 0 ≤ ltr 7196677052775077620 8269659629885888229 487216738105191 k ∧ ltr 7196677052775077620 8269659629885888229 487216738105191 k ≤ 127 := by decide +kernel
theorem wl_ctype : wl_ 7196677052775077620 1996901 0 27 = w_ctype ∧ ∀ k : Nat, k < 27 → 0 ≤ ltr 7196677052775077620 1996901 0 k ∧ ltr 7196677052775077620 1996901 0 k ≤ 127 := by decide +kernel
theorem wl_base64 : wl_ 3393535433524 0 0 27 = w_base64 ∧ ∀ k : Nat, k < 27 → 0 ≤ ltr 3393535433524 0 0 k ∧ ltr 3393535433524 0 0 k ≤ 127 := by decide +kernel
theorem wl_qp : wl_ 8208865467050981490 465605798442597 0 27 = w_qp ∧ ∀ k : Nat, k < 27 → 0 ≤ ltr 8208865467050981490 465605798442597 0 k ∧ ltr 8208865467050981490 465605798442597 0 k ≤ 127 := by decide +kernel
theorem wl_boundary : wl_ 55661328426629497 0 0 27 = w_boundary ∧ ∀ k : Nat, k < 27 → 0 ≤ ltr 55661328426629497 0 0 k ∧ ltr 55661328426629497 0 0 k ≤ 127 := by decide +kernel
theorem wl_message : wl_ 482888516137957 0 0 27 = w_message ∧ ∀ k : Nat, k < 27 → 0 ≤ ltr 482888516137957 0 0 k ∧ ltr 482888516137957 0 0 k ≤ 127 := by decide +kernel
theorem wl_rfc822 : wl_ 3944599132466 0 0 27 = w_rfc822 ∧ ∀ k : Nat, k < 27 → 0 ≤ ltr 3944599132466 0 0 k ∧ ltr 3944599132466 0 0 k ≤ 127 := by decide +kernel
theorem wl_multipart : wl_ 7920621897859496308 0 0 27 = w_multipart ∧ ∀ k : Nat, k < 27 → 0 ≤ ltr 7920621897859496308 0 0 k ∧ ltr 7920621897859496308 0 0 k ≤ 127 := by decide +kernel
end
section
/-! The reference: contracts of the scanner's methods in lists; fields, encoding. -/
theorem CT.mono {G : mt_G} {l : Launch} {y : MethodName} {cc : ByteArray} {nL : Nat} {ret : Option FieldType} {d : Nat} {vs : List Value} {mem : mt_M} {P P' : Option Value → mt_M → Prop} (h : CT G l y cc nL ret d vs mem P) (hp : ∀ v m, P v m → P' v m) : CT G l y cc nL ret d vs mem P' := by
  intro sz p e ha h1 h2 s m args below hf hap hP hk
  obtain ⟨n, o, a, b, c, ⟨⟨v, mem', e1, e2, e3⟩, hF⟩, hL⟩ := h sz p e ha h1 h2 s m args below hf hap hP hk
  exact ⟨n, o, a, b, c, ⟨⟨v, mem', e1, hp v mem' e2, e3⟩, hF⟩, hL⟩
/-- only the scanner's place and word may have changed -/
def fq_ (mem m : mt_M) : Prop := ∀ (r : Nat) (z : Int), (r ≠ 182 ∨ (z ≠ 13 ∧ z ≠ 15 ∧ z ≠ 16)) → m r z = mem r z
theorem fq_.rf {mem : mt_M} : fq_ mem mem := fun _ _ _ => rfl
theorem fq_.trans {a b c : mt_M} (h1 : fq_ a b) (h2 : fq_ b c) : fq_ a c := fun r z p => (h2 r z p).trans (h1 r z p)
theorem fq_.st {a b : mt_M} {z v : Int} (h : fq_ a b) (hz : z = 13 ∨ z = 15 ∨ z = 16) : fq_ a (st_ b 182 z v) := fun r z' q => by
  rw [st_ne (by rcases q with q | q; exact Or.inl q; exact Or.inr (by rcases hz with rfl | rfl | rfl <;> omega))]; exact h r z' q
theorem fq_.txt {a b : mt_M} (h : fq_ a b) : b 187 = a 187 := by funext z; exact h _ _ (Or.inl (by decide))
theorem fq_.fr {a b : mt_M} (h : fq_ a b) : fr_ a b := ⟨by rw [h _ _ (Or.inr (by decide))]; exact Int.le_refl _, fun r z _ q => h r z (by rcases q with q | q; exact Or.inl q; exact Or.inr ⟨q.1, q.2.1, q.2.2.1⟩)⟩
/-- the scanner stands before the list L -/
def sL (mem : mt_M) (s : Int) (L : List Int) : Prop := sc_ mem (mem 182 13) s ∧ slc (mem 187) (mem 182 13) s = L
theorem sL.len {mem : mt_M} {s : Int} {L : List Int} (h : sL mem s L) : (L.length : Int) = s - mem 182 13 := by rw [← h.2, slc_len]; have := h.1.2.2.2.1; omega
theorem sL.suf {mem : mt_M} {s : Int} {L L' : List Int} (h : sL mem s L) (hL : L' <:+ L) : sL (st_ mem 182 13 (s - L'.length)) s L' := by
  have h4 := h.1.2.2.2.1
  rw [← h.2] at hL
  obtain ⟨e1, e2, e3⟩ := slc_suf h4 hL
  refine ⟨?_, ?_⟩
  · rw [st_same]; exact h.1.to e2 (by omega)
  · rw [st_same, st_row (by decide)]; exact e1
theorem cM_spaceL {G : mt_G} {l : Launch} {mem : mt_M} {s : Int} {L : List Int} (hs : sL mem s L) : CT G l y_M_space c_M_space 2 none 3 [vr G 182] mem (fun v m' => v = none ∧ fq_ mem m' ∧ sL m' s (skp 0 L) ∧ m' 182 15 = mem 182 15 ∧ m' 182 16 = mem 182 16) := by
  refine (cM_space hs.1).mono (fun v m hv => ?_)
  obtain ⟨rfl, rfl⟩ := hv
  rw [hs.2]
  exact ⟨rfl, fq_.rf.st (by decide), hs.suf (skp_suf L 0), st_ne (by decide), st_ne (by decide)⟩
theorem dw_suf (p : Int → Bool) (L : List Int) : L.dropWhile p <:+ L := ⟨L.takeWhile p, List.takeWhile_append_dropWhile⟩
theorem cM_atomL {G : mt_G} {l : Launch} {mem : mt_M} {s : Int} {L : List Int} (hs : sL mem s L) : CT G l y_M_atom c_M_atom 1 (some .boolean) 3 [vr G 182] mem (fun v m' => v = some (vi (if L.takeWhile at_ = [] then 0 else 1)) ∧ fq_ mem m' ∧ sL m' s (L.dropWhile at_) ∧ 0 ≤ m' 182 15 ∧ 0 ≤ m' 182 16 ∧ m' 182 15 + m' 182 16 ≤ s ∧ mem 182 13 ≤ m' 182 15 ∧ slc (mem 187) (m' 182 15) (m' 182 15 + m' 182 16) = L.takeWhile at_) := by
  refine (cM_atom hs.1).mono (fun v m hv => ?_)
  obtain ⟨rfl, rfl⟩ := hv
  rw [hs.2]
  have h4 := hs.1.2.2.2.1
  have h3 := hs.1.2.2.1
  have hl := hs.len
  have hd := dw_suf at_ L
  have hq := hs.suf hd
  have hdl := hd.length_le
  have e1 : am_ mem (mem 182 13) s 182 15 = mem 182 13 := by unfold am_; rw [st_ne (by decide), st_ne (by decide), st_same]
  have e2 : am_ mem (mem 182 13) s 182 16 = s - (L.dropWhile at_).length - mem 182 13 := by unfold am_; rw [st_same, hs.2]
  have e3 : am_ mem (mem 182 13) s 182 13 = s - (L.dropWhile at_).length := by unfold am_; rw [st_ne (by decide), st_same, hs.2]
  have e4 : fq_ mem (am_ mem (mem 182 13) s) := ((fq_.rf.st (by decide)).st (by decide)).st (by decide)
  refine ⟨rfl, e4, ⟨?_, ?_⟩, by omega, by omega, by omega, by omega, ?_⟩
  · obtain ⟨q1, q2, q3, q4, q5, q6⟩ := hq.1
    rw [st_same] at q1 q3 q4 q6
    rw [st_row (by decide)] at q6
    rw [st_ne (by decide)] at q2
    refine ⟨rfl, ?_, by omega, by omega, q5, ?_⟩
    · rw [e4 _ _ (Or.inr (by decide))]; exact q2
    · rw [e4.txt, e3]; exact q6
  · have := hq.2
    rw [st_same, st_row (by decide)] at this
    rw [e4.txt, e3]; exact this
  · rw [e1, e2]
    have e5 : slc (mem 187) (mem 182 13) s = slc (mem 187) (mem 182 13) (s - (L.dropWhile at_).length) ++ slc (mem 187) (s - (L.dropWhile at_).length) s := slc_app (by omega) (by omega)
    have e6 := hq.2
    rw [st_same, st_row (by decide)] at e6
    rw [hs.2, e6] at e5
    have e7 : L.takeWhile at_ ++ L.dropWhile at_ = L := List.takeWhile_append_dropWhile
    rw [show mem 182 13 + (s - ((L.dropWhile at_).length : Int) - mem 182 13) = s - (L.dropWhile at_).length by omega]
    exact (List.append_cancel_right (e7.trans e5)).symm
theorem cM_takesL {G : mt_G} {l : Launch} {mem : mt_M} {s c : Int} {L : List Int} (hs : sL mem s L) (hc : 0 ≤ c ∧ c ≤ 255) : CT G l y_M_takes c_M_takes 2 (some .boolean) 3 [vr G 182, vi c] mem (fun v m' => fq_ mem m' ∧ match tk_ c L with
    | none => v = some (vi 0) ∧ mem = m'
    | some L' => v = some (vi 1) ∧ sL m' s L') := by
  refine (cM_takes hs.1 hc).mono (fun v m hv => ?_)
  rw [hs.2] at hv
  cases L with
  | nil => obtain ⟨rfl, rfl⟩ := hv; exact ⟨fq_.rf, rfl, rfl⟩
  | cons b t =>
    have e0 : tk_ c (b :: t) = if b = c then some t else none := rfl
    rw [e0] at hv ⊢
    by_cases hb : b = c
    · rw [if_pos hb] at hv ⊢
      obtain ⟨rfl, rfl⟩ := hv
      refine ⟨fq_.rf.st (by decide), rfl, ?_⟩
      have := hs.suf (L' := t) (List.suffix_cons b t)
      have hl := hs.len
      rw [List.length_cons] at hl
      rw [show mem 182 13 + 1 = s - t.length by omega]
      exact this
    · rw [if_neg hb] at hv ⊢
      obtain ⟨rfl, rfl⟩ := hv
      exact ⟨fq_.rf, rfl, rfl⟩
end
section
/-! The reference: fields of an entity, its encoding. -/
/-- the text is bytes, and there is room -/
def tb_ (mem : mt_M) : Prop := 0 ≤ mem 182 9 ∧ mem 182 9 ≤ 1400 ∧ by_ (mem 187) 0 (mem 182 9)
/-- entity e has nf fields, each in the text -/
def fw_ (mem : mt_M) (e : Int) (nf : Int) : Prop := 0 ≤ e ∧ e < 16 ∧ 0 ≤ nf ∧ nf ≤ 8 ∧ mem 185 (16 * e + 3) = nf ∧ ∀ f : Int, 0 ≤ f → f < nf → 0 ≤ mem 186 (4 * (8 * e + f)) ∧ 0 ≤ mem 186 (4 * (8 * e + f) + 1) ∧ mem 186 (4 * (8 * e + f)) + mem 186 (4 * (8 * e + f) + 1) ≤ mem 182 9 ∧ 0 ≤ mem 186 (4 * (8 * e + f) + 2) ∧ 0 ≤ mem 186 (4 * (8 * e + f) + 3) ∧ mem 186 (4 * (8 * e + f) + 2) + mem 186 (4 * (8 * e + f) + 3) ≤ mem 182 9
def fN_ (mem : mt_M) (e f : Int) : List Int := slc (mem 187) (mem 186 (4 * (8 * e + f))) (mem 186 (4 * (8 * e + f)) + mem 186 (4 * (8 * e + f) + 1))
def fV_ (mem : mt_M) (e f : Int) : List Int := slc (mem 187) (mem 186 (4 * (8 * e + f) + 2)) (mem 186 (4 * (8 * e + f) + 2) + mem 186 (4 * (8 * e + f) + 3))
theorem cM_firstField {G : mt_G} {l : Launch} {mem : mt_M} {a b c e nf : Int} {w : List Int} (hw : wl_ a b c 27 = w ∧ ∀ k : Nat, k < 27 → 0 ≤ ltr a b c k ∧ ltr a b c k ≤ 127) (ht : tb_ mem) (hf : fw_ mem e nf) : CT G l y_M_firstField c_M_firstField 9 (some .int) 4 [vr G 182, vi e, vl a, vl b, vl c] mem (fun v m' => mem = m' ∧ ∃ r : Int, v = some (vi r) ∧ ((r = -1 ∧ ∀ f : Int, 0 ≤ f → f < nf → ¬ wd_ w (fN_ mem e f) = true) ∨ (0 ≤ r ∧ r < nf ∧ wd_ w (fN_ mem e r) = true ∧ ∀ f : Int, 0 ≤ f → f < r → ¬ wd_ w (fN_ mem e f) = true))) := by
  obtain ⟨f0, f1, f2, f3, f4, f5⟩ := hf
  refine CT.intro (by decide) rfl (Nat.le_of_ble_eq_true rfl) (fun X h he => ?_)
  have loop : ∀ (n : Nat) (q : Int), (nf - q).toNat = n → 0 ≤ q → q ≤ nf → (∀ f : Int, 0 ≤ f → f < q → ¬ wd_ w (fN_ mem e f) = true) → JJ G X 0 0 mem 3 [some (vr G 182), some (vi e), some (vl a), none, some (vl b), none, some (vl c), none, some (vi q)] [] := by
    intro n
    induction n with
    | zero =>
      intro q hn hq hq1 hn2
      refine jj_iload h d_M_firstField_3 rfl ?_
      refine jj_aload_n h d_M_firstField_5 rfl ⟨_, rfl⟩ ?_
      refine jj_iload_n h d_M_firstField_6 rfl ?_
      refine jj_iconst h d_M_firstField_7 ?_
      refine jj_callV h (cM_of (by omega) (by omega)) cv_M_59 (ro_of he (by decide) (by decide)) rfl rfl (by decide) rfl rfl rfl (Nat.le_of_ble_eq_true rfl) d_M_firstField_8 (fun v m1 hv => ?_)
      obtain ⟨rfl, rfl⟩ := hv
      rw [f4]
      refine jj_icmp_ge h 51 d_M_firstField_11 (by decide) ⟨by omega, by omega⟩ ⟨by omega, by omega⟩ (fun _ => ?_) (fun q11 => absurd (by omega) q11)
      refine jj_iconst h d_M_firstField_51 ?_
      refine jj_iret h he d_M_firstField_52 ?_
      exact ⟨rfl, -1, rfl, Or.inl ⟨rfl, fun f g1 g2 => hn2 f g1 (by omega)⟩⟩
    | succ n ih =>
      intro q hn hq hq1 hn2
      have g := f5 q hq (by omega)
      have hbt := ht.2.2
      have ht1 := ht.2.1
      refine jj_iload h d_M_firstField_3 rfl ?_
      refine jj_aload_n h d_M_firstField_5 rfl ⟨_, rfl⟩ ?_
      refine jj_iload_n h d_M_firstField_6 rfl ?_
      refine jj_iconst h d_M_firstField_7 ?_
      refine jj_callV h (cM_of (by omega) (by omega)) cv_M_59 (ro_of he (by decide) (by decide)) rfl rfl (by decide) rfl rfl rfl (Nat.le_of_ble_eq_true rfl) d_M_firstField_8 (fun v m1 hv => ?_)
      obtain ⟨rfl, rfl⟩ := hv
      rw [f4]
      refine jj_icmp_ge h 51 d_M_firstField_11 (by decide) ⟨by omega, by omega⟩ ⟨by omega, by omega⟩ (fun q11 => absurd q11 (by omega)) (fun _ => ?_)
      refine jj_aload_n h d_M_firstField_14 rfl ⟨_, rfl⟩ ?_
      refine jj_aload_n h d_M_firstField_15 rfl ⟨_, rfl⟩ ?_
      refine jj_iload_n h d_M_firstField_16 rfl ?_
      refine jj_iload h d_M_firstField_17 rfl ?_
      refine jj_iconst h d_M_firstField_19 ?_
      refine jj_callV h (cM_fieldOf (by omega) (by omega)) cv_M_115 (ro_of he (by decide) (by decide)) rfl rfl (by decide) rfl rfl rfl (Nat.le_of_ble_eq_true rfl) d_M_firstField_20 (fun v m1 hv => ?_)
      obtain ⟨rfl, rfl⟩ := hv
      refine jj_aload_n h d_M_firstField_23 rfl ⟨_, rfl⟩ ?_
      refine jj_iload_n h d_M_firstField_24 rfl ?_
      refine jj_iload h d_M_firstField_25 rfl ?_
      refine jj_iconst h d_M_firstField_27 ?_
      refine jj_callV h (cM_fieldOf (by omega) (by omega)) cv_M_115 (ro_of he (by decide) (by decide)) rfl rfl (by decide) rfl rfl rfl (Nat.le_of_ble_eq_true rfl) d_M_firstField_28 (fun v m1 hv => ?_)
      obtain ⟨rfl, rfl⟩ := hv
      rw [show 4 * (8 * e + q) + 0 = 4 * (8 * e + q) from Int.add_zero _]
      refine jj_lload_n h d_M_firstField_31 rfl ?_
      refine jj_lload h d_M_firstField_32 rfl ?_
      refine jj_lload h d_M_firstField_34 rfl ?_
      refine jj_callV h (cM_isWord hw.1 hw.2 (by omega) (by omega) (by omega) (hbt.sub (by omega) (by omega))) cv_M_119 (ro_of he (by decide) (by decide)) rfl rfl (by decide) rfl rfl rfl (Nat.le_of_ble_eq_true rfl) d_M_firstField_36 (fun v m1 hv => ?_)
      obtain ⟨rfl, rfl⟩ := hv
      refine jj_if_eq h 45 d_M_firstField_39 (by decide) ⟨by split <;> omega, by split <;> omega⟩ (fun q39 => ?_) (fun q39 => ?_)
      · have q39 : ¬ wd_ w (fN_ mem e q) = true := fun z => by unfold fN_ at z; rw [if_pos z] at q39; omega
        refine jj_iinc h d_M_firstField_45 rfl rfl ?_
        refine jj_goto h 3 d_M_firstField_48 (by decide) ?_
        refine ih (q + 1) (by omega) (by omega) (by omega) (fun f g1 g2 => ?_)
        by_cases hfq : f = q
        · subst hfq; exact q39
        · exact hn2 f g1 (by omega)
      · have q39 : wd_ w (fN_ mem e q) = true := Decidable.byContradiction fun z => q39 (by unfold fN_ at z; rw [if_neg z])
        refine jj_iload h d_M_firstField_42 rfl ?_
        refine jj_iret h he d_M_firstField_44 ?_
        exact ⟨rfl, q, rfl, Or.inr ⟨hq, by omega, q39, hn2⟩⟩
  refine jj_iconst h d_M_firstField_0 ?_
  refine jj_istore h d_M_firstField_1 (Nat.le_of_ble_eq_true rfl) rfl ?_
  exact loop _ 0 rfl (by omega) (by omega) (fun f g1 g2 => by omega)
theorem cM_enter {G : mt_G} {l : Launch} {mem : mt_M} {e f nf : Int} (hf : fw_ mem e nf) (h0 : 0 ≤ f) (h1 : f < nf) : CT G l y_M_enter c_M_enter 3 none 2 [vr G 182, vi e, vi f] mem (fun v m' => v = none ∧ st_ (st_ mem 182 13 (mem 186 (4 * (8 * e + f) + 2))) 182 14 (mem 186 (4 * (8 * e + f) + 2) + mem 186 (4 * (8 * e + f) + 3)) = m') := by
  obtain ⟨f0, f1, f2, f3, f4, f5⟩ := hf
  refine CT.intro (by decide) rfl (Nat.le_of_ble_eq_true rfl) (fun X h he => ?_)
  refine jj_aload_n h d_M_enter_0 rfl ⟨_, rfl⟩ ?_
  refine jj_aload_n h d_M_enter_1 rfl ⟨_, rfl⟩ ?_
  refine jj_iload_n h d_M_enter_2 rfl ?_
  refine jj_iload_n h d_M_enter_3 rfl ?_
  refine jj_iconst h d_M_enter_4 ?_
  refine jj_callV h (cM_fieldOf (by omega) (by omega)) cv_M_115 (ro_of he (by decide) (by decide)) rfl rfl (by decide) rfl rfl rfl (Nat.le_of_ble_eq_true rfl) d_M_enter_5 (fun v m1 hv => ?_)
  obtain ⟨rfl, rfl⟩ := hv
  refine jj_p_M_at h  fl_M_93 d_M_enter_8 ?_
  refine jj_aload_n h d_M_enter_11 rfl ⟨_, rfl⟩ ?_
  refine jj_aload_n h d_M_enter_12 rfl ⟨_, rfl⟩ ?_
  refine jj_g_M_at h  fl_M_93 d_M_enter_13 ?_
  try simp only [st_at, Nat.reduceEqDiff, Int.reduceEq, and_self, true_and, and_true, false_and, and_false, reduceIte]
  refine jj_aload_n h d_M_enter_16 rfl ⟨_, rfl⟩ ?_
  refine jj_iload_n h d_M_enter_17 rfl ?_
  refine jj_iload_n h d_M_enter_18 rfl ?_
  refine jj_iconst h d_M_enter_19 ?_
  refine jj_callV h (cM_fieldOf (by omega) (by omega)) cv_M_115 (ro_of he (by decide) (by decide)) rfl rfl (by decide) rfl rfl rfl (Nat.le_of_ble_eq_true rfl) d_M_enter_20 (fun v m1 hv => ?_)
  obtain ⟨rfl, rfl⟩ := hv
  try simp only [st_at, Nat.reduceEqDiff, Int.reduceEq, and_self, true_and, and_true, false_and, and_false, reduceIte]
  refine jj_iadd h d_M_enter_23 ?_
  refine jj_p_M_stop h  fl_M_96 d_M_enter_24 ?_
  refine jj_vret h he d_M_enter_27 ?_
  exact ⟨rfl, rfl⟩
/-- scanning a value: as fr_, and 'stop' too -/
def fs_ (mem m : mt_M) : Prop := mem 182 9 ≤ m 182 9 ∧ ∀ (r : Nat) (z : Int), (r ≠ 187 ∨ z < mem 182 9) → (r ≠ 182 ∨ (z ≠ 13 ∧ z ≠ 14 ∧ z ≠ 15 ∧ z ≠ 16 ∧ z ≠ 9)) → m r z = mem r z
theorem fs_.rf {mem : mt_M} : fs_ mem mem := ⟨Int.le_refl _, fun _ _ _ _ => rfl⟩
theorem fs_.fr {a b c : mt_M} (h1 : fs_ a b) (h2 : fr_ b c) : fs_ a c := ⟨Int.le_trans h1.1 h2.1, fun r z p q => by
  rw [h2.2 r z (by have := h1.1; rcases p with p | p; exact Or.inl p; exact Or.inr (by omega)) (by rcases q with q | q; exact Or.inl q; exact Or.inr ⟨q.1, q.2.2⟩)]; exact h1.2 r z p q⟩
theorem fs_.enter {mem : mt_M} {a s : Int} : fs_ mem (st_ (st_ mem 182 13 a) 182 14 s) := ⟨by rw [st_ne (by decide), st_ne (by decide)]; exact Int.le_refl _, fun r z _ q => by
  rw [st_ne (by rcases q with q | q; exact Or.inl q; exact Or.inr q.2.1), st_ne (by rcases q with q | q; exact Or.inl q; exact Or.inr q.1)]⟩
theorem fs_.slc {a b : mt_M} (h : fs_ a b) {p e : Int} (hz : e ≤ a 182 9) : slc (b 187) p e = slc (a 187) p e := slc_ext (fun i _ h2 => h.2 _ _ (Or.inr (by omega)) (Or.inl (by decide)))
/-- the first value of that name -/
def fld_ (mem : mt_M) (e nf : Int) (w : List Int) (o : Option (List Int)) : Prop := match o with
  | none => ∀ f : Int, 0 ≤ f → f < nf → ¬ wd_ w (fN_ mem e f) = true
  | some v => ∃ r : Int, 0 ≤ r ∧ r < nf ∧ wd_ w (fN_ mem e r) = true ∧ (∀ f : Int, 0 ≤ f → f < r → ¬ wd_ w (fN_ mem e f) = true) ∧ fV_ mem e r = v
end
section
/-! The reference: encoding, parameters, boundary, kind. -/
theorem fld_u {mem : mt_M} {e nf : Int} {w : List Int} {o o' : Option (List Int)} (h : fld_ mem e nf w o) (h' : fld_ mem e nf w o') : o = o' := by
  cases o with
  | none =>
    cases o' with
    | none => rfl
    | some v => obtain ⟨r, r0, r1, r2, -⟩ := h'; exact absurd r2 (h r r0 r1)
  | some v =>
    obtain ⟨r, r0, r1, r2, r3, rfl⟩ := h
    cases o' with
    | none => exact absurd r2 (h' r r0 r1)
    | some v' =>
      obtain ⟨q, q0, q1, q2, q3, rfl⟩ := h'
      have : r = q := by
        rcases Int.lt_trichotomy r q with g | g | g
        · exact absurd r2 (q3 r r0 g)
        · exact g
        · exact absurd q2 (r3 q q0 g)
      rw [this]
theorem sL_enter {mem : mt_M} {e nf r : Int} (ht : tb_ mem) (hf : fw_ mem e nf) (h0 : 0 ≤ r) (h1 : r < nf) : sL (st_ (st_ mem 182 13 (mem 186 (4 * (8 * e + r) + 2))) 182 14 (mem 186 (4 * (8 * e + r) + 2) + mem 186 (4 * (8 * e + r) + 3))) (mem 186 (4 * (8 * e + r) + 2) + mem 186 (4 * (8 * e + r) + 3)) (fV_ mem e r) := by
  have g := hf.2.2.2.2.2 r h0 h1
  obtain ⟨t0, t1, t2⟩ := ht
  have e1 : (st_ (st_ mem 182 13 (mem 186 (4 * (8 * e + r) + 2))) 182 14 (mem 186 (4 * (8 * e + r) + 2) + mem 186 (4 * (8 * e + r) + 3))) 182 13 = mem 186 (4 * (8 * e + r) + 2) := by rw [st_ne (by decide), st_same]
  refine ⟨⟨rfl, st_same, by rw [e1]; omega, by rw [e1]; omega, by omega, ?_⟩, ?_⟩
  · rw [e1, st_row (by decide), st_row (by decide)]; exact t2.sub (by omega) (by omega)
  · rw [e1, st_row (by decide), st_row (by decide)]; rfl
theorem sL.nil {mem : mt_M} {s : Int} {L : List Int} (h : sL mem s L) : L = [] ↔ mem 182 13 = s := by
  have := h.len
  constructor
  · rintro rfl; simp at this; omega
  · intro q; exact List.length_eq_zero_iff.mp (by omega)
def encO_ (o : Option (List Int)) : Int := match o with
  | none => 0
  | some L => enc_ L
theorem cM_encoding {G : mt_G} {l : Launch} {mem : mt_M} {e nf : Int} {o : Option (List Int)} (ht : tb_ mem) (hf : fw_ mem e nf) (ho : fld_ mem e nf w_cte o) : CT G l y_M_encoding c_M_encoding 5 (some .int) 5 [vr G 182, vi e] mem (fun v m' => v = some (vi (encO_ o)) ∧ fs_ mem m' ∧ m' 182 9 = mem 182 9) := by
  refine CT.intro (by decide) rfl (Nat.le_of_ble_eq_true rfl) (fun X h he => ?_)
  have tail : ∀ r : Int, 0 ≤ r → r < nf → o = some (fV_ mem e r) → JJ G X 0 0 mem 21 [some (vr G 182), some (vi e), some (vi r), none, none] [] := by
    intro r h0 h1 hr
    subst hr
    have g := hf.2.2.2.2.2 r h0 h1
    have hs := sL_enter ht hf h0 h1
    have ht1 := ht.2.1
    generalize hV : fV_ mem e r = V at *
    refine jj_aload_n h d_M_encoding_21 rfl ⟨_, rfl⟩ ?_
    refine jj_iload_n h d_M_encoding_22 rfl ?_
    refine jj_iload_n h d_M_encoding_23 rfl ?_
    refine jj_callV h (cM_enter hf h0 h1) cv_M_133 (ro_of he (by decide) (by decide)) rfl rfl (by decide) rfl rfl rfl (Nat.le_of_ble_eq_true rfl) d_M_encoding_24 (fun v m24 hv => ?_)
    obtain ⟨rfl, hm1⟩ := hv
    rw [hm1] at hs
    have f1 : fs_ mem m24 := by rw [← hm1]; exact fs_.enter
    have t1 : m24 182 9 = mem 182 9 := by rw [← hm1, st_ne (by decide), st_ne (by decide)]
    clear hm1
    refine jj_aload_n h d_M_encoding_27 rfl ⟨_, rfl⟩ ?_
    refine jj_callV h (cM_spaceL hs) cv_M_137 (ro_of he (by decide) (by decide)) rfl rfl (by decide) rfl rfl rfl (Nat.le_of_ble_eq_true rfl) d_M_encoding_28 (fun v m28 hv => ?_)
    obtain ⟨rfl, q1, hs2, -⟩ := hv
    have f2 := f1.fr q1.fr
    have t2 := (q1 182 9 (Or.inr (by decide))).trans t1
    refine jj_aload_n h d_M_encoding_31 rfl ⟨_, rfl⟩ ?_
    refine jj_callV h (cM_atomL hs2) cv_M_140 (ro_of he (by decide) (by decide)) rfl rfl (by decide) rfl rfl rfl (Nat.le_of_ble_eq_true rfl) d_M_encoding_32 (fun v m32 hv => ?_)
    obtain ⟨rfl, q2, hs3, w1, w2, w3, w4, w5⟩ := hv
    have f3 := f2.fr q2.fr
    have t3 := (q2 182 9 (Or.inr (by decide))).trans t2
    refine jj_if_ne h 40 d_M_encoding_35 (by decide) ⟨by split <;> omega, by split <;> omega⟩ (fun q35 => ?_) (fun q35 => ?_)
    · have e1 : ¬ (skp 0 V).takeWhile at_ = [] := fun z => q35 (by rw [if_pos z])
      refine jj_aload_n h d_M_encoding_40 rfl ⟨_, rfl⟩ ?_
      refine jj_g_M_wordAt h  fl_M_106 d_M_encoding_41 ?_
      refine jj_istore_n h d_M_encoding_44 (Nat.le_of_ble_eq_true rfl) rfl ?_
      refine jj_aload_n h d_M_encoding_45 rfl ⟨_, rfl⟩ ?_
      refine jj_g_M_wordSize h  fl_M_112 d_M_encoding_46 ?_
      refine jj_istore h d_M_encoding_49 (Nat.le_of_ble_eq_true rfl) rfl ?_
      refine jj_aload_n h d_M_encoding_51 rfl ⟨_, rfl⟩ ?_
      refine jj_callV h (cM_spaceL hs3) cv_M_137 (ro_of he (by decide) (by decide)) rfl rfl (by decide) rfl rfl rfl (Nat.le_of_ble_eq_true rfl) d_M_encoding_52 (fun v m52 hv => ?_)
      obtain ⟨rfl, q3, hs4, -⟩ := hv
      have f4 := f3.fr q3.fr
      have t4 := (q3 182 9 (Or.inr (by decide))).trans t3
      have hat4 := hs4.nil
      have hl4 := hs4.len
      have hst4 := hs4.1.2.1
      have e2 : atm (skp 0 V) = some ((skp 0 V).takeWhile at_, (skp 0 V).dropWhile at_) := if_neg e1
      have hz4 := hs4.1.2.2
      have e3 : m52 187 = m28 187 := q3.txt.trans q2.txt
      refine jj_aload_n h d_M_encoding_55 rfl ⟨_, rfl⟩ ?_
      refine jj_g_M_at h  fl_M_93 d_M_encoding_56 ?_
      refine jj_aload_n h d_M_encoding_59 rfl ⟨_, rfl⟩ ?_
      refine jj_g_M_stop h  fl_M_96 d_M_encoding_60 ?_
      rw [hst4]
      refine jj_icmp_ge h 68 d_M_encoding_63 (by decide) ⟨by omega, by omega⟩ ⟨by omega, by omega⟩ (fun q63 => ?_) (fun q63 => ?_)
      · have e4 : skp 0 ((skp 0 V).dropWhile at_) = [] := hat4.mpr (by omega)
        have hbw : by_ (m52 187) 0 (m52 182 9) := by rw [t4]; intro i i0 i1; rw [f4.2 _ _ (Or.inr i1) (Or.inl (by decide))]; exact ht.2.2 i i0 i1
        refine jj_aload_n h d_M_encoding_68 rfl ⟨_, rfl⟩ ?_
        refine jj_iload_n h d_M_encoding_69 rfl ?_
        refine jj_iload h d_M_encoding_70 rfl ?_
        refine jj_ldc2 h (3393535433524) d_M_encoding_72 wk_M_144 ?_
        refine jj_lconst0 h d_M_encoding_75 ?_
        refine jj_lconst0 h d_M_encoding_76 ?_
        refine jj_callV h (cM_isWord wl_base64.1 wl_base64.2 w1 w2 (by omega) (hbw.sub w1 (by omega))) cv_M_119 (ro_of he (by decide) (by decide)) rfl rfl (by decide) rfl rfl rfl (Nat.le_of_ble_eq_true rfl) d_M_encoding_77 (fun v m77 hv => ?_)
        obtain ⟨rfl, rfl⟩ := hv
        rw [e3, w5]
        refine jj_if_eq h 87 d_M_encoding_80 (by decide) ⟨by split <;> omega, by split <;> omega⟩ (fun q80 => ?_) (fun q80 => ?_)
        · have e5 : ¬ wd_ w_base64 ((skp 0 V).takeWhile at_) = true := fun z => by rw [if_pos z] at q80; omega
          refine jj_aload_n h d_M_encoding_87 rfl ⟨_, rfl⟩ ?_
          refine jj_iload_n h d_M_encoding_88 rfl ?_
          refine jj_iload h d_M_encoding_89 rfl ?_
          refine jj_ldc2 h (8208865467050981490) d_M_encoding_91 wk_M_146 ?_
          refine jj_ldc2 h (465605798442597) d_M_encoding_94 wk_M_148 ?_
          refine jj_lconst0 h d_M_encoding_97 ?_
          refine jj_callV h (cM_isWord wl_qp.1 wl_qp.2 w1 w2 (by omega) (hbw.sub w1 (by omega))) cv_M_119 (ro_of he (by decide) (by decide)) rfl rfl (by decide) rfl rfl rfl (Nat.le_of_ble_eq_true rfl) d_M_encoding_98 (fun v m98 hv => ?_)
          obtain ⟨rfl, rfl⟩ := hv
          rw [e3, w5]
          refine jj_if_eq h 108 d_M_encoding_101 (by decide) ⟨by split <;> omega, by split <;> omega⟩ (fun q101 => ?_) (fun q101 => ?_)
          · have e6 : ¬ wd_ w_qp ((skp 0 V).takeWhile at_) = true := fun z => by rw [if_pos z] at q101; omega
            refine jj_iconst h d_M_encoding_108 ?_
            refine jj_iret h he d_M_encoding_109 ?_
            exact ⟨by simp only [encO_, enc_, e2, if_pos e4, if_neg e5, if_neg e6], f4, t4⟩
          · have e6 : wd_ w_qp ((skp 0 V).takeWhile at_) = true := Decidable.byContradiction fun z => q101 (by rw [if_neg z])
            refine jj_iconst h d_M_encoding_104 ?_
            refine jj_goto h 109 d_M_encoding_105 (by decide) ?_
            refine jj_iret h he d_M_encoding_109 ?_
            exact ⟨by simp only [encO_, enc_, e2, if_pos e4, if_neg e5, if_pos e6], f4, t4⟩
        · have e5 : wd_ w_base64 ((skp 0 V).takeWhile at_) = true := Decidable.byContradiction fun z => q80 (by rw [if_neg z])
          refine jj_iconst h d_M_encoding_83 ?_
          refine jj_goto h 109 d_M_encoding_84 (by decide) ?_
          refine jj_iret h he d_M_encoding_109 ?_
          exact ⟨by simp only [encO_, enc_, e2, if_pos e4, if_pos e5], f4, t4⟩
      · refine jj_iconst h d_M_encoding_66 ?_
        refine jj_iret h he d_M_encoding_67 ?_
        refine ⟨?_, f4, t4⟩
        have e4 : ¬ skp 0 ((skp 0 V).dropWhile at_) = [] := fun z => by have := hat4.mp z; omega
        simp only [encO_, enc_, e2, if_neg e4]
    · have e1 : (skp 0 V).takeWhile at_ = [] := Decidable.byContradiction fun z => by rw [if_neg z] at q35; omega
      refine jj_iconst h d_M_encoding_38 ?_
      refine jj_iret h he d_M_encoding_39 ?_
      refine ⟨?_, f3, t3⟩
      have e2 : atm (skp 0 V) = none := if_pos e1
      simp only [encO_, enc_, e2]
  refine jj_aload_n h d_M_encoding_0 rfl ⟨_, rfl⟩ ?_
  refine jj_iload_n h d_M_encoding_1 rfl ?_
  refine jj_ldc2 h (7196677052775077620) d_M_encoding_2 wk_M_123 ?_
  refine jj_ldc2 h (8269659629885888229) d_M_encoding_5 wk_M_125 ?_
  refine jj_ldc2 h (487216738105191) d_M_encoding_8 wk_M_127 ?_
  refine jj_callV h (cM_firstField wl_cte ht hf) cv_M_129 (ro_of he (by decide) (by decide)) rfl rfl (by decide) rfl rfl rfl (Nat.le_of_ble_eq_true rfl) d_M_encoding_11 (fun v m11 hv => ?_)
  obtain ⟨rfl, r, rfl, hr⟩ := hv
  refine jj_istore_n h d_M_encoding_14 (Nat.le_of_ble_eq_true rfl) rfl ?_
  refine jj_iload_n h d_M_encoding_15 rfl ?_
  refine jj_if_ge h 21 d_M_encoding_16 (by decide) ⟨by omega, by have := hf.2.2.2.1; omega⟩ (fun q16 => ?_) (fun q16 => ?_)
  · rcases hr with hr | ⟨h0, h1, h2, h3⟩
    · omega
    · exact tail r h0 h1 (fld_u ho (show fld_ mem e nf w_cte (some (fV_ mem e r)) from ⟨r, h0, h1, h2, h3, rfl⟩))
  · refine jj_iconst h d_M_encoding_19 ?_
    refine jj_iret h he d_M_encoding_20 ?_
    rcases hr with ⟨-, hr⟩ | hr
    · rw [fld_u ho (show fld_ mem e nf w_cte none from hr)]; exact ⟨rfl, fs_.rf, rfl⟩
    · omega
/-- a parameter, or none: parameter() -/
def pP (mem : mt_M) (s : Int) (L : List Int) (v : Option Value) (m' : mt_M) : Prop := fr_ mem m' ∧ m' 182 9 ≤ mem 182 9 + (m' 182 13 - mem 182 13) ∧ mem 182 13 ≤ m' 182 13 ∧ m' 182 13 ≤ s ∧ by_ (m' 187) 0 (m' 182 9) ∧ match par L with
  | none => v = some (vi 0)
  | some q => v = some (vi (if q.1 then 2 else 1)) ∧ sL m' s q.2.2 ∧ mem 182 13 < m' 182 13 ∧ 0 ≤ m' 182 15 ∧ m' 182 16 = q.2.1.length ∧ m' 182 15 + m' 182 16 ≤ m' 182 9 ∧ slc (m' 187) (m' 182 15) (m' 182 15 + m' 182 16) = q.2.1
theorem fr_.by {a b : mt_M} (h : fr_ a b) (ht : b 182 9 = a 182 9) (hb : by_ (a 187) 0 (a 182 9)) : by_ (b 187) 0 (b 182 9) := fun i i0 i1 => by rw [h.txt (by omega)]; exact hb i i0 (by omega)
theorem sL.mov {a b : mt_M} {s : Int} {L : List Int} (h : sL a s L) (hf : fr_ a b) (h1 : b 182 13 = a 182 13) (h2 : s ≤ a 182 9) : sL b s L := by
  obtain ⟨⟨q1, q2, q3, q4, q5, q6⟩, q7⟩ := h
  refine ⟨⟨rfl, ?_, by omega, by omega, q5, ?_⟩, ?_⟩
  · rw [hf.2 _ _ (Or.inl (by decide)) (Or.inr (by decide))]; exact q2
  · rw [h1]; intro i i0 i1; rw [hf.txt (by omega)]; exact q6 i i0 i1
  · rw [h1, hf.slc h2]; exact q7
theorem cM_quotedL {G : mt_G} {l : Launch} {mem : mt_M} {s : Int} {L : List Int} (hs : sL mem s (34 :: L)) (hts : s ≤ mem 182 9) (hro : mem 182 9 + (s - mem 182 13) ≤ 1400) (hb : by_ (mem 187) 0 (mem 182 9)) : CT G l y_M_quoted c_M_quoted 1 (some .boolean) 3 [vr G 182] mem (fun v m' => by_ (m' 187) 0 (m' 182 9) ∧ fr_ mem m' ∧ m' 182 9 ≤ mem 182 9 + (m' 182 13 - mem 182 13) ∧ mem 182 13 ≤ m' 182 13 ∧ m' 182 13 ≤ s ∧ match qtd L with
    | none => v = some (vi 0)
    | some q => v = some (vi 1) ∧ sL m' s q.2 ∧ m' 182 15 = mem 182 9 ∧ m' 182 16 = q.1.length ∧ m' 182 9 = mem 182 9 + q.1.length ∧ slc (m' 187) (mem 182 9) (m' 182 9) = q.1) := by
  have hl := hs.len
  rw [List.length_cons] at hl
  have h7 := hs.2
  rw [slc_cons (by omega)] at h7
  obtain ⟨h34, hL⟩ := List.cons.inj h7
  refine (cM_quoted hs.1 hts hro (by omega) h34 hb).mono (fun v m hv => ?_)
  obtain ⟨f0, f1, f2, f3, f4, f5⟩ := hv
  refine ⟨f0, f1, f2, f3, f4, ?_⟩
  rw [hL] at f5
  cases hq : qtd L with
  | none => rw [hq] at f5; exact f5
  | some q =>
    rw [hq] at f5
    obtain ⟨g1, g2, g3, g4, g5, g6⟩ := f5
    refine ⟨g1, ?_, g3, g4, g5, g6⟩
    have hsu := hs.suf ((qtd_suf L q hq).trans (List.suffix_cons 34 L))
    have hfr : fr_ (st_ mem 182 13 (s - q.2.length)) m := ⟨by rw [st_ne (by decide)]; exact f1.1, fun r z p z2 => by
      rw [st_ne (by rcases z2 with z2 | z2; exact Or.inl z2; exact Or.inr z2.1)]
      exact f1.2 r z (by rw [st_ne (by decide)] at p; exact p) z2⟩
    exact hsu.mov hfr (by rw [st_same]; exact g2) (by rw [st_ne (by decide)]; exact hts)
end
section
/-! The reference: parameters. -/
def sg_ (mem : mt_M) (s : Int) (L : List Int) (m : mt_M) (L' : List Int) : Prop := fr_ mem m ∧ m 182 9 = mem 182 9 ∧ sL m s L' ∧ L' <:+ L
theorem sg_.go {mem m m2 : mt_M} {s : Int} {L L' L2 : List Int} (h : sg_ mem s L m L') (hq : fq_ m m2) (hs : sL m2 s L2) (hu : L2 <:+ L') : sg_ mem s L m2 L2 := ⟨h.1.trans hq.fr, (hq _ _ (Or.inr (by decide))).trans h.2.1, hs, hu.trans h.2.2.2⟩
theorem sg_.at {mem m : mt_M} {s : Int} {L L' : List Int} (h : sg_ mem s L m L') (hs : sL mem s L) : mem 182 13 ≤ m 182 13 ∧ m 182 13 ≤ s ∧ (L'.length : Int) = s - m 182 13 := by
  have a := h.2.2.1.len
  have b := hs.len
  have c := h.2.2.2.length_le
  omega
theorem sg_.fail {mem m : mt_M} {s : Int} {L L' : List Int} (h : sg_ mem s L m L') (hs : sL mem s L) (hb : by_ (mem 187) 0 (mem 182 9)) (hp : par L = none) : pP mem s L (some (vi 0)) m := by
  have := h.at hs
  have h1 := h.2.1
  refine ⟨h.1, by omega, by omega, by omega, h.1.by h.2.1 hb, ?_⟩
  rw [hp]
theorem tk_some {c : Int} {L l1 : List Int} (h : tk_ c L = some l1) : L = c :: l1 := by
  cases L with
  | nil => cases h
  | cons b t =>
    have e0 : tk_ c (b :: t) = if b = c then some t else none := rfl
    rw [e0] at h
    split at h
    · rename_i hb; cases h; rw [hb]
    · cases h
theorem tk_suf {c : Int} {L l1 : List Int} (h : tk_ c L = some l1) : l1 <:+ L := by rw [tk_some h]; exact List.suffix_cons c l1
theorem sL.now {mem : mt_M} {s : Int} {L : List Int} (h : sL mem s L) : (if mem 182 13 < s then mem 187 (mem 182 13) else -1) = L.headD (-1) := by
  have hl := h.len
  cases L with
  | nil => rw [if_neg (by simp at hl; omega)]; rfl
  | cons b t =>
    have h2 := h.2
    rw [List.length_cons] at hl
    rw [if_pos (by omega)]
    rw [slc_cons (by omega)] at h2
    exact (List.cons.inj h2).1
theorem sL.byt {mem : mt_M} {s b : Int} {t : List Int} (h : sL mem s (b :: t)) : 0 ≤ b ∧ b ≤ 255 := by
  have hl := h.len
  rw [List.length_cons] at hl
  have h2 := h.2
  rw [slc_cons (by omega)] at h2
  rw [← (List.cons.inj h2).1]
  exact h.1.2.2.2.2.2 _ (Int.le_refl _) (by omega)
theorem sL.hd {mem : mt_M} {s : Int} {L : List Int} (h : sL mem s L) : -1 ≤ L.headD (-1) ∧ L.headD (-1) ≤ 255 := by
  cases L with
  | nil => decide
  | cons b t => have := h.byt; exact ⟨by show -1 ≤ b; omega, by show b ≤ 255; omega⟩
theorem cM_parameter {G : mt_G} {l : Launch} {mem : mt_M} {s : Int} {L : List Int} (hs : sL mem s L) (hts : s ≤ mem 182 9) (hro : mem 182 9 + (s - mem 182 13) ≤ 1400) (hb : by_ (mem 187) 0 (mem 182 9)) : CT G l y_M_parameter c_M_parameter 4 (some .int) 5 [vr G 182] mem (pP mem s L) := by
  refine CT.intro (by decide) rfl (Nat.le_of_ble_eq_true rfl) (fun X h he => ?_)
  have hT0 : 0 ≤ mem 182 9 := by have := hs.1.2.2.1; have := hs.1.2.2.2.1; omega
  have ha0 := hs.1.2.2
  have hT1 : mem 182 9 ≤ 1400 := by omega
  have g0 : sg_ mem s L mem L := ⟨fr_.rf, rfl, hs, List.suffix_refl _⟩
  -- the end: a word stands at wordAt, behind it is R
  have fin : ∀ (m : mt_M) (b : Bool) (w R : List Int), fr_ mem m → m 182 9 ≤ mem 182 9 + (m 182 13 - mem 182 13) → mem 182 13 < m 182 13 → by_ (m 187) 0 (m 182 9) → sL m s R → s ≤ m 182 9 → 0 ≤ m 182 15 → m 182 16 = w.length → m 182 15 + m 182 16 ≤ m 182 9 → slc (m 187) (m 182 15) (m 182 15 + m 182 16) = w → par L = some (b, w, skp 0 R) → JJ G X 0 0 m 89 [some (vr G 182), some (vi (if b then 1 else 0)), none, none] [] := by
    intro m b w R f1 f2 f3 f4 f5 f6 f7 f8 f9 f10 f11
    refine jj_aload_n h d_M_parameter_89 rfl ⟨_, rfl⟩ ?_
    refine jj_g_M_wordAt h  fl_M_106 d_M_parameter_90 ?_
    try simp only [st_at, Nat.reduceEqDiff, Int.reduceEq, and_self, true_and, and_true, false_and, and_false, reduceIte]
    refine jj_istore_n h d_M_parameter_93 (Nat.le_of_ble_eq_true rfl) rfl ?_
    refine jj_aload_n h d_M_parameter_94 rfl ⟨_, rfl⟩ ?_
    refine jj_g_M_wordSize h  fl_M_112 d_M_parameter_95 ?_
    try simp only [st_at, Nat.reduceEqDiff, Int.reduceEq, and_self, true_and, and_true, false_and, and_false, reduceIte]
    refine jj_istore_n h d_M_parameter_98 (Nat.le_of_ble_eq_true rfl) rfl ?_
    refine jj_aload_n h d_M_parameter_99 rfl ⟨_, rfl⟩ ?_
    refine jj_callV h (cM_spaceL f5) cv_M_137 (ro_of he (by decide) (by decide)) rfl rfl (by decide) rfl rfl rfl (Nat.le_of_ble_eq_true rfl) d_M_parameter_100 (fun v m100 hv => ?_)
    obtain ⟨rfl, q1, hs2, w1, w2⟩ := hv
    refine jj_aload_n h d_M_parameter_103 rfl ⟨_, rfl⟩ ?_
    refine jj_iload_n h d_M_parameter_104 rfl ?_
    refine jj_p_M_wordAt h  fl_M_106 d_M_parameter_105 ?_
    refine jj_aload_n h d_M_parameter_108 rfl ⟨_, rfl⟩ ?_
    refine jj_iload_n h d_M_parameter_109 rfl ?_
    refine jj_p_M_wordSize h  fl_M_112 d_M_parameter_110 ?_
    have e9 : st_ (st_ m100 182 15 (m 182 15)) 182 16 (m 182 16) = m100 := by rw [← w1, st_id, ← w2, st_id]
    rw [e9]
    have hl1 := hs2.len
    have hl2 := f5.len
    have hl3 := (skp_suf R 0).length_le
    have t1 := q1 182 9 (Or.inr (by decide))
    have x1 := q1.txt
    have fin2 : ∀ z : Int, (z = if b then 2 else 1) → pP mem s L (some (vi z)) m100 := by
      intro z hz
      refine ⟨f1.trans q1.fr, by omega, by omega, by omega, by rw [x1, t1]; exact f4, ?_⟩
      rw [f11]
      exact ⟨by rw [hz], hs2, by omega, by omega, w2.trans f8, by omega, by rw [w1, w2, x1]; exact f10⟩
    refine jj_iload_n h d_M_parameter_113 rfl ?_
    refine jj_if_eq h 121 d_M_parameter_114 (by decide) ⟨by split <;> omega, by split <;> omega⟩ (fun q114 => ?_) (fun q114 => ?_)
    · refine jj_iconst h d_M_parameter_121 ?_
      refine jj_iret h he d_M_parameter_122 ?_
      exact fin2 1 (by cases b; rfl; exact absurd q114 (by decide))
    · refine jj_iconst h d_M_parameter_117 ?_
      refine jj_goto h 122 d_M_parameter_118 (by decide) ?_
      refine jj_iret h he d_M_parameter_122 ?_
      exact fin2 2 (by cases b; exact absurd rfl q114; rfl)
  have br : ∀ (x : List Int) (b : Bool), wd_ w_boundary x = b → (if wd_ w_boundary x then (1 : Int) else 0) = if b then 1 else 0 := fun x b hx => by rw [hx]
  refine jj_aload_n h d_M_parameter_0 rfl ⟨_, rfl⟩ ?_
  refine jj_bipush h d_M_parameter_1 (by decide) ?_
  refine jj_callV h (cM_takesL hs (by decide)) cv_M_150 (ro_of he (by decide) (by decide)) rfl rfl (by decide) rfl rfl rfl (Nat.le_of_ble_eq_true rfl) d_M_parameter_3 (fun v m3 hv => ?_)
  obtain ⟨q1, hv⟩ := hv
  cases hp1 : tk_ 59 L with
  | none =>
    rw [hp1] at hv
    obtain ⟨rfl, rfl⟩ := hv
    refine jj_if_ne h 11 d_M_parameter_6 (by decide) ⟨by decide, by decide⟩ (fun z => absurd rfl z) (fun _ => ?_)
    refine jj_iconst h d_M_parameter_9 ?_
    refine jj_iret h he d_M_parameter_10 ?_
    exact g0.fail hs hb (by unfold par; rw [hp1]; rfl)
  | some l1 =>
  rw [hp1] at hv
  obtain ⟨rfl, hs1⟩ := hv
  have g1 := g0.go q1 hs1 (tk_suf hp1)
  refine jj_if_ne h 11 d_M_parameter_6 (by decide) ⟨by decide, by decide⟩ (fun _ => ?_) (fun q6 => absurd q6 (by omega))
  refine jj_aload_n h d_M_parameter_11 rfl ⟨_, rfl⟩ ?_
  refine jj_callV h (cM_spaceL hs1) cv_M_137 (ro_of he (by decide) (by decide)) rfl rfl (by decide) rfl rfl rfl (Nat.le_of_ble_eq_true rfl) d_M_parameter_12 (fun v m12 hv => ?_)
  obtain ⟨rfl, q2, hs2, -, -⟩ := hv
  have g2 := g1.go q2 hs2 (skp_suf _ 0)
  refine jj_aload_n h d_M_parameter_15 rfl ⟨_, rfl⟩ ?_
  refine jj_callV h (cM_atomL hs2) cv_M_140 (ro_of he (by decide) (by decide)) rfl rfl (by decide) rfl rfl rfl (Nat.le_of_ble_eq_true rfl) d_M_parameter_16 (fun v m16 hv => ?_)
  obtain ⟨rfl, q3, hs3, w1, w2, w3, w4, w5⟩ := hv
  have g3 := g2.go q3 hs3 (dw_suf _ _)
  refine jj_if_ne h 24 d_M_parameter_19 (by decide) ⟨by split <;> omega, by split <;> omega⟩ (fun q19 => ?_) (fun q19 => ?_)
  · have e1 : ¬ (skp 0 l1).takeWhile at_ = [] := fun z => q19 (by rw [if_pos z])
    have p2 : atm (skp 0 l1) = some ((skp 0 l1).takeWhile at_, (skp 0 l1).dropWhile at_) := if_neg e1
    have hb3 := g3.1.by g3.2.1 hb
    have t3 := g3.2.1
    refine jj_aload_n h d_M_parameter_24 rfl ⟨_, rfl⟩ ?_
    refine jj_aload_n h d_M_parameter_25 rfl ⟨_, rfl⟩ ?_
    refine jj_g_M_wordAt h  fl_M_106 d_M_parameter_26 ?_
    refine jj_aload_n h d_M_parameter_29 rfl ⟨_, rfl⟩ ?_
    refine jj_g_M_wordSize h  fl_M_112 d_M_parameter_30 ?_
    refine jj_ldc2 h (55661328426629497) d_M_parameter_33 wk_M_153 ?_
    refine jj_lconst0 h d_M_parameter_36 ?_
    refine jj_lconst0 h d_M_parameter_37 ?_
    refine jj_callV h (cM_isWord wl_boundary.1 wl_boundary.2 w1 w2 (by omega) (hb3.sub w1 (by omega))) cv_M_119 (ro_of he (by decide) (by decide)) rfl rfl (by decide) rfl rfl rfl (Nat.le_of_ble_eq_true rfl) d_M_parameter_38 (fun v m38 hv => ?_)
    obtain ⟨rfl, rfl⟩ := hv
    rw [q3.txt, w5]
    refine jj_istore_n h d_M_parameter_41 (Nat.le_of_ble_eq_true rfl) rfl ?_
    refine jj_aload_n h d_M_parameter_42 rfl ⟨_, rfl⟩ ?_
    refine jj_callV h (cM_spaceL hs3) cv_M_137 (ro_of he (by decide) (by decide)) rfl rfl (by decide) rfl rfl rfl (Nat.le_of_ble_eq_true rfl) d_M_parameter_43 (fun v m43 hv => ?_)
    obtain ⟨rfl, q4, hs4, -, -⟩ := hv
    have g4 := g3.go q4 hs4 (skp_suf _ 0)
    refine jj_aload_n h d_M_parameter_46 rfl ⟨_, rfl⟩ ?_
    refine jj_bipush h d_M_parameter_47 (by decide) ?_
    refine jj_callV h (cM_takesL hs4 (by decide)) cv_M_150 (ro_of he (by decide) (by decide)) rfl rfl (by decide) rfl rfl rfl (Nat.le_of_ble_eq_true rfl) d_M_parameter_49 (fun v m49 hv => ?_)
    obtain ⟨q5, hv⟩ := hv
    cases hp3 : tk_ 61 (skp 0 ((skp 0 l1).dropWhile at_)) with
    | none =>
      rw [hp3] at hv
      obtain ⟨rfl, rfl⟩ := hv
      refine jj_if_ne h 57 d_M_parameter_52 (by decide) ⟨by decide, by decide⟩ (fun z => absurd rfl z) (fun _ => ?_)
      refine jj_iconst h d_M_parameter_55 ?_
      refine jj_iret h he d_M_parameter_56 ?_
      exact g4.fail hs hb (by unfold par; rw [hp1]; show (atm (skp 0 l1)).bind _ = none; rw [p2]; show (tk_ 61 _).bind _ = none; rw [hp3]; rfl)
    | some l2 =>
    rw [hp3] at hv
    obtain ⟨rfl, hs5⟩ := hv
    have g5 := g4.go q5 hs5 (tk_suf hp3)
    refine jj_if_ne h 57 d_M_parameter_52 (by decide) ⟨by decide, by decide⟩ (fun _ => ?_) (fun q52 => absurd q52 (by omega))
    refine jj_aload_n h d_M_parameter_57 rfl ⟨_, rfl⟩ ?_
    refine jj_callV h (cM_spaceL hs5) cv_M_137 (ro_of he (by decide) (by decide)) rfl rfl (by decide) rfl rfl rfl (Nat.le_of_ble_eq_true rfl) d_M_parameter_58 (fun v m58 hv => ?_)
    obtain ⟨rfl, q6, hs6, -, -⟩ := hv
    have g6 := g5.go q6 hs6 (skp_suf _ 0)
    have hpar : ∀ r, (match tk_ 34 (skp 0 l2) with | some l3 => qtd l3 | none => atm (skp 0 l2)) = r → par L = r.map fun (w : List Int × List Int) => (wd_ w_boundary ((skp 0 l1).takeWhile at_), w.1, skp 0 w.2) := by
      intro r hr
      unfold par
      rw [hp1]
      show (atm (skp 0 l1)).bind _ = _
      rw [p2]
      show (tk_ 61 _).bind _ = _
      rw [hp3]
      show Option.map _ _ = _
      rw [← hr]
      rfl
    have hb6 := g6.1.by g6.2.1 hb
    have t6 := g6.2.1
    have a6 := g6.at hs
    have a4 := (tk_suf hp3).length_le
    have a3 := g5.at hs
    have a2 := (tk_some hp1)
    have a1 := hs.len
    have a0 := g1.at hs
    rw [a2, List.length_cons] at a1
    have a8 := g1.2.2.1.len
    have a9 : (l2.length : Int) ≤ l1.length := by
      have z1 := (tk_suf hp3).length_le
      have z2 := (skp_suf ((skp 0 l1).dropWhile at_) 0).length_le
      have z3 := (dw_suf at_ (skp 0 l1)).length_le
      have z4 := (skp_suf l1 0).length_le
      omega
    have a10 := (skp_suf l2 0).length_le
    refine jj_aload_n h d_M_parameter_61 rfl ⟨_, rfl⟩ ?_
    refine jj_callV h (cM_now2 hs6.1) cv_M_99 (ro_of he (by decide) (by decide)) rfl rfl (by decide) rfl rfl rfl (Nat.le_of_ble_eq_true rfl) d_M_parameter_62 (fun v m62 hv => ?_)
    obtain ⟨rfl, rfl⟩ := hv
    rw [hs6.now]
    have hh6 := hs6.hd
    refine jj_bipush h d_M_parameter_65 (by decide) ?_
    refine jj_icmp_ne h 80 d_M_parameter_67 (by decide) ⟨by omega, by omega⟩ ⟨by omega, by omega⟩ (fun q67 => ?_) (fun q67 => ?_)
    · refine jj_aload_n h d_M_parameter_80 rfl ⟨_, rfl⟩ ?_
      refine jj_callV h (cM_atomL hs6) cv_M_140 (ro_of he (by decide) (by decide)) rfl rfl (by decide) rfl rfl rfl (Nat.le_of_ble_eq_true rfl) d_M_parameter_81 (fun v m81 hv => ?_)
      obtain ⟨rfl, q8, hs8, x1, x2, x3, x4, x5⟩ := hv
      have g8 := g6.go q8 hs8 (dw_suf _ _)
      have hp4 : tk_ 34 (skp 0 l2) = none := by
        cases hq : skp 0 l2 with
        | nil => rfl
        | cons b t => rw [hq] at q67; exact if_neg q67
      have hpq := hpar (atm (skp 0 l2)) (by rw [hp4])
      have hb8 := g8.1.by g8.2.1 hb
      have t8 := g8.2.1
      have a11 := g8.at hs
      have a12 := (dw_suf at_ (skp 0 l2)).length_le
      refine jj_if_ne h 89 d_M_parameter_84 (by decide) ⟨by split <;> omega, by split <;> omega⟩ (fun q84 => ?_) (fun q84 => ?_)
      · have e8 : ¬ (skp 0 l2).takeWhile at_ = [] := fun z => q84 (by rw [if_pos z])
        rw [show atm (skp 0 l2) = some ((skp 0 l2).takeWhile at_, (skp 0 l2).dropWhile at_) from if_neg e8] at hpq
        have x6 := congrArg List.length x5
        rw [slc_len] at x6
        exact fin m81 _ ((skp 0 l2).takeWhile at_) ((skp 0 l2).dropWhile at_) g8.1 (by omega) (by omega) hb8 hs8 (by omega) x1 (by omega) (by omega) (by rw [q8.txt]; exact x5) hpq
      · have e8 : (skp 0 l2).takeWhile at_ = [] := Decidable.byContradiction fun z => by rw [if_neg z] at q84; omega
        refine jj_iconst h d_M_parameter_87 ?_
        refine jj_iret h he d_M_parameter_88 ?_
        exact g8.fail hs hb (by rw [hpq, show atm (skp 0 l2) = none from if_pos e8]; rfl)
    · obtain ⟨l3, h3⟩ : ∃ l3, skp 0 l2 = 34 :: l3 := by
        cases hq : skp 0 l2 with
        | nil => rw [hq] at q67; exact absurd q67 (by decide)
        | cons b t => rw [hq] at q67; exact ⟨t, by rw [show b = 34 from q67]⟩
      have hp4 : tk_ 34 (skp 0 l2) = some l3 := by rw [h3]; rfl
      rw [h3] at hs6
      have hl6 := hs6.len
      rw [List.length_cons] at hl6
      rw [h3, List.length_cons] at a10
      rw [h3, List.length_cons] at a6
      refine jj_aload_n h d_M_parameter_70 rfl ⟨_, rfl⟩ ?_
      refine jj_callV h (cM_quotedL hs6 (by omega) (by omega) hb6) cv_M_155 (ro_of he (by decide) (by decide)) rfl rfl (by decide) rfl rfl rfl (Nat.le_of_ble_eq_true rfl) d_M_parameter_71 (fun v m71 hv => ?_)
      obtain ⟨b7, f7, t7, a7, s7, hv⟩ := hv
      have hpq := hpar (qtd l3) (by rw [hp4])
      cases hq : qtd l3 with
      | none =>
        rw [hq] at hv hpq
        subst hv
        refine jj_if_ne h 89 d_M_parameter_74 (by decide) ⟨by decide, by decide⟩ (fun z => absurd rfl z) (fun _ => ?_)
        refine jj_goto h 87 d_M_parameter_77 (by decide) ?_
        refine jj_iconst h d_M_parameter_87 ?_
        refine jj_iret h he d_M_parameter_88 ?_
        refine ⟨g6.1.trans f7, by omega, by omega, by omega, b7, ?_⟩
        rw [hpq]; rfl
      | some q =>
        rw [hq] at hv hpq
        obtain ⟨rfl, hs7, v1, v2, v3, v4⟩ := hv
        have hl7 := hs7.len
        have hq2 := (qtd_suf l3 q hq).length_le
        refine jj_if_ne h 89 d_M_parameter_74 (by decide) ⟨by decide, by decide⟩ (fun _ => ?_) (fun z => absurd z (by decide))
        refine fin m71 _ q.1 q.2 (g6.1.trans f7) (by omega) (by omega) b7 hs7 (by omega) (by omega) v2 (by omega) ?_ hpq
        rw [v1, show m58 182 9 + m71 182 16 = m71 182 9 by omega]
        exact v4
  · have e1 : (skp 0 l1).takeWhile at_ = [] := Decidable.byContradiction fun z => by rw [if_neg z] at q19; omega
    refine jj_iconst h d_M_parameter_22 ?_
    refine jj_iret h he d_M_parameter_23 ?_
    exact g3.fail hs hb (by unfold par; rw [hp1]; show (atm (skp 0 l1)).bind _ = none; rw [show atm (skp 0 l1) = none from if_pos e1]; rfl)
theorem cM_isBoundary {G : mt_G} {l : Launch} {mem : mt_M} {w : List Int} (h0 : 0 ≤ mem 182 15) (h1 : mem 182 16 = w.length) (h2 : mem 182 15 + mem 182 16 ≤ 1400) (hb : by_ (mem 187) (mem 182 15) (mem 182 15 + mem 182 16)) (hw : slc (mem 187) (mem 182 15) (mem 182 15 + mem 182 16) = w) : CT G l y_M_isBoundary c_M_isBoundary 3 (some .boolean) 1 [vr G 182] mem (fun v m' => v = some (vi (if bd_ w then 1 else 0)) ∧ mem = m') := by
  refine CT.intro (by decide) rfl (Nat.le_of_ble_eq_true rfl) (fun X h he => ?_)
  generalize ha : mem 182 15 = a at *
  generalize hn : mem 182 16 = n at *
  have hm : ∀ c : Int, c ∈ w → ∃ i : Int, 0 ≤ i ∧ i < n ∧ c = mem 187 (a + i) := by
    intro c hc
    rw [← hw] at hc
    obtain ⟨i, hi, e⟩ := List.getElem_of_mem hc
    rw [slc_len] at hi
    refine ⟨i, by omega, by omega, ?_⟩
    have := slc_get (f := mem 187) (p := a) (e := a + n) (i := i) (by omega) (by omega)
    rw [show ((i : Int)).toNat = i from rfl] at this
    rw [List.getElem?_eq_getElem (by rw [slc_len]; omega)] at this
    exact e.symm.trans (Option.some.inj this)
  have hmi : ∀ i : Int, 0 ≤ i → i < n → mem 187 (a + i) ∈ w := by
    intro i i0 i1
    rw [← hw]
    exact List.mem_of_getElem? (slc_get i0 (by omega))
  have hlast : 0 < n → w.getLast? = some (mem 187 (a + n - 1)) := by
    intro hp
    rw [← hw, show a + n = (a + n - 1) + 1 by omega, slc_snoc (by omega), List.getLast?_append, show a + n - 1 + 1 - 1 = a + n - 1 by omega]
    rfl
  have fin : ∀ (q z : Int), 0 ≤ q → q ≤ n → (z = 0 ∨ q = n) → (z = 0 ∨ z = 1) → (z = 1 ↔ (1 ≤ n ∧ n ≤ 20 ∧ ∀ i : Int, 0 ≤ i → i < q → 32 ≤ mem 187 (a + i) ∧ mem 187 (a + i) ≤ 126)) → JJ G X 0 0 mem 80 [some (vr G 182), some (vi z), some (vi q)] [] := by
    intro q z hq hq1 hzq hz hi
    refine jj_iload_n h d_M_isBoundary_80 rfl ?_
    refine jj_if_eq h 109 d_M_isBoundary_81 (by decide) ⟨by omega, by omega⟩ (fun q81 => ?_) (fun q81 => ?_)
    · refine jj_iconst h d_M_isBoundary_109 ?_
      refine jj_zret h he (by omega) d_M_isBoundary_110 ?_
      refine ⟨?_, rfl⟩
      have e2 : ¬ bd_ w = true := fun z9 => by
        have := of_decide_eq_true z9
        have : z = 1 := hi.mpr ⟨by omega, by omega, fun i i0 i1 => this.2.2.1 _ (hmi i i0 (by omega))⟩
        omega
      rw [if_neg e2]
    · have hz1 : z = 1 := by omega
      have hi1 := hi.mp hz1
      have hby := hb (a + n - 1) (by omega) (by omega)
      refine jj_aload_n h d_M_isBoundary_84 rfl ⟨_, rfl⟩ ?_
      refine jj_g_M_text h  fl_M_22 d_M_isBoundary_85 ?_
      try simp only [ha, hn]
      refine jj_aload_n h d_M_isBoundary_88 rfl ⟨_, rfl⟩ ?_
      refine jj_g_M_wordAt h  fl_M_106 d_M_isBoundary_89 ?_
      try simp only [ha, hn]
      refine jj_aload_n h d_M_isBoundary_92 rfl ⟨_, rfl⟩ ?_
      refine jj_g_M_wordSize h  fl_M_112 d_M_isBoundary_93 ?_
      try simp only [ha, hn]
      refine jj_iadd h d_M_isBoundary_96 ?_
      refine jj_iconst h d_M_isBoundary_97 ?_
      refine jj_isub h d_M_isBoundary_98 ?_
      refine jj_iaload (N := 1400) h (by decide) rfl (by decide) (by omega) (by omega) d_M_isBoundary_99 ?_
      try simp only [ha, hn]
      refine jj_bipush h d_M_isBoundary_100 (by decide) ?_
      refine jj_icmp_eq h 109 d_M_isBoundary_102 (by decide) ⟨by omega, by omega⟩ ⟨by omega, by omega⟩ (fun q102 => ?_) (fun q102 => ?_)
      · refine jj_iconst h d_M_isBoundary_109 ?_
        refine jj_zret h he (by omega) d_M_isBoundary_110 ?_
        refine ⟨?_, rfl⟩
        have e2 : ¬ bd_ w = true := fun z9 => (of_decide_eq_true z9).2.2.2 (by rw [hlast (by omega), q102])
        rw [if_neg e2]
      · refine jj_iconst h d_M_isBoundary_105 ?_
        refine jj_goto h 110 d_M_isBoundary_106 (by decide) ?_
        refine jj_zret h he (by omega) d_M_isBoundary_110 ?_
        refine ⟨?_, rfl⟩
        have e2 : bd_ w = true := decide_eq_true ⟨by omega, by omega, fun c hc => by obtain ⟨i, i0, i1, rfl⟩ := hm c hc; exact hi1.2.2 i i0 (by omega), by rw [hlast (by omega)]; intro z9; exact q102 (Option.some.inj z9)⟩
        rw [if_pos e2]
  have loop : ∀ (k : Nat) (q z : Int), (n - q).toNat = k → 0 ≤ q → q ≤ n → (z = 0 ∨ z = 1) → (z = 1 ↔ (1 ≤ n ∧ n ≤ 20 ∧ ∀ i : Int, 0 ≤ i → i < q → 32 ≤ mem 187 (a + i) ∧ mem 187 (a + i) ≤ 126)) → JJ G X 0 0 mem 24 [some (vr G 182), some (vi z), some (vi q)] [] := by
    intro k
    induction k with
    | zero =>
      intro q z hk hq hq1 hz hi
      refine jj_iload_n h d_M_isBoundary_24 rfl ?_
      refine jj_aload_n h d_M_isBoundary_25 rfl ⟨_, rfl⟩ ?_
      refine jj_g_M_wordSize h  fl_M_112 d_M_isBoundary_26 ?_
      try simp only [ha, hn]
      refine jj_icmp_ge h 80 d_M_isBoundary_29 (by decide) ⟨by omega, by omega⟩ ⟨by omega, by omega⟩ (fun _ => ?_) (fun q29 => absurd (by omega) q29)
      exact fin q z hq hq1 (Or.inr (by omega)) hz hi
    | succ k ih =>
      intro q z hk hq hq1 hz hi
      have hby := hb (a + q) (by omega) (by omega)
      refine jj_iload_n h d_M_isBoundary_24 rfl ?_
      refine jj_aload_n h d_M_isBoundary_25 rfl ⟨_, rfl⟩ ?_
      refine jj_g_M_wordSize h  fl_M_112 d_M_isBoundary_26 ?_
      try simp only [ha, hn]
      refine jj_icmp_ge h 80 d_M_isBoundary_29 (by decide) ⟨by omega, by omega⟩ ⟨by omega, by omega⟩ (fun q29 => absurd q29 (by omega)) (fun _ => ?_)
      refine jj_iload_n h d_M_isBoundary_32 rfl ?_
      refine jj_if_eq h 80 d_M_isBoundary_33 (by decide) ⟨by omega, by omega⟩ (fun q33 => ?_) (fun q33 => ?_)
      · exact fin q z hq hq1 (Or.inl q33) hz hi
      · refine jj_aload_n h d_M_isBoundary_36 rfl ⟨_, rfl⟩ ?_
        refine jj_g_M_text h  fl_M_22 d_M_isBoundary_37 ?_
        try simp only [ha, hn]
        refine jj_aload_n h d_M_isBoundary_40 rfl ⟨_, rfl⟩ ?_
        refine jj_g_M_wordAt h  fl_M_106 d_M_isBoundary_41 ?_
        try simp only [ha, hn]
        refine jj_iload_n h d_M_isBoundary_44 rfl ?_
        refine jj_iadd h d_M_isBoundary_45 ?_
        refine jj_iaload (N := 1400) h (by decide) rfl (by decide) (by omega) (by omega) d_M_isBoundary_46 ?_
        try simp only [ha, hn]
        refine jj_bipush h d_M_isBoundary_47 (by decide) ?_
        refine jj_icmp_le h 72 d_M_isBoundary_49 (by decide) ⟨by omega, by omega⟩ ⟨by omega, by omega⟩ (fun q49 => ?_) (fun q49 => ?_)
        · refine jj_iconst h d_M_isBoundary_72 ?_
          refine jj_istore_n h d_M_isBoundary_73 (Nat.le_of_ble_eq_true rfl) rfl ?_
          refine jj_iinc h d_M_isBoundary_74 rfl rfl ?_
          refine jj_goto h 24 d_M_isBoundary_77 (by decide) ?_
          refine ih (q + 1) 0 (by omega) (by omega) (by omega) (by omega) ⟨fun z9 => absurd z9 (by decide), fun z9 => ?_⟩
          have := z9.2.2 q hq (by omega)
          omega
        · refine jj_aload_n h d_M_isBoundary_52 rfl ⟨_, rfl⟩ ?_
          refine jj_g_M_text h  fl_M_22 d_M_isBoundary_53 ?_
          try simp only [ha, hn]
          refine jj_aload_n h d_M_isBoundary_56 rfl ⟨_, rfl⟩ ?_
          refine jj_g_M_wordAt h  fl_M_106 d_M_isBoundary_57 ?_
          try simp only [ha, hn]
          refine jj_iload_n h d_M_isBoundary_60 rfl ?_
          refine jj_iadd h d_M_isBoundary_61 ?_
          refine jj_iaload (N := 1400) h (by decide) rfl (by decide) (by omega) (by omega) d_M_isBoundary_62 ?_
          try simp only [ha, hn]
          refine jj_bipush h d_M_isBoundary_63 (by decide) ?_
          refine jj_icmp_ge h 72 d_M_isBoundary_65 (by decide) ⟨by omega, by omega⟩ ⟨by omega, by omega⟩ (fun q65 => ?_) (fun q65 => ?_)
          · refine jj_iconst h d_M_isBoundary_72 ?_
            refine jj_istore_n h d_M_isBoundary_73 (Nat.le_of_ble_eq_true rfl) rfl ?_
            refine jj_iinc h d_M_isBoundary_74 rfl rfl ?_
            refine jj_goto h 24 d_M_isBoundary_77 (by decide) ?_
            refine ih (q + 1) 0 (by omega) (by omega) (by omega) (by omega) ⟨fun z9 => absurd z9 (by decide), fun z9 => ?_⟩
            have := z9.2.2 q hq (by omega)
            omega
          · refine jj_iconst h d_M_isBoundary_68 ?_
            refine jj_goto h 73 d_M_isBoundary_69 (by decide) ?_
            refine jj_istore_n h d_M_isBoundary_73 (Nat.le_of_ble_eq_true rfl) rfl ?_
            refine jj_iinc h d_M_isBoundary_74 rfl rfl ?_
            refine jj_goto h 24 d_M_isBoundary_77 (by decide) ?_
            refine ih (q + 1) 1 (by omega) (by omega) (by omega) (by omega) ⟨fun _ => ?_, fun _ => rfl⟩
            have hi1 := hi.mp (by omega)
            refine ⟨hi1.1, hi1.2.1, fun i i0 i1 => ?_⟩
            by_cases hiq : i = q
            · subst hiq; omega
            · exact hi1.2.2 i i0 (by omega)
  refine jj_aload_n h d_M_isBoundary_0 rfl ⟨_, rfl⟩ ?_
  refine jj_g_M_wordSize h  fl_M_112 d_M_isBoundary_1 ?_
  try simp only [ha, hn]
  refine jj_if_le h 20 d_M_isBoundary_4 (by decide) ⟨by omega, by omega⟩ (fun q4 => ?_) (fun q4 => ?_)
  · refine jj_iconst h d_M_isBoundary_20 ?_
    refine jj_istore_n h d_M_isBoundary_21 (Nat.le_of_ble_eq_true rfl) rfl ?_
    refine jj_iconst h d_M_isBoundary_22 ?_
    refine jj_istore_n h d_M_isBoundary_23 (Nat.le_of_ble_eq_true rfl) rfl ?_
    exact loop _ 0 0 rfl (by omega) (by omega) (by omega) ⟨fun z9 => absurd z9 (by decide), fun z9 => by omega⟩
  · refine jj_aload_n h d_M_isBoundary_7 rfl ⟨_, rfl⟩ ?_
    refine jj_g_M_wordSize h  fl_M_112 d_M_isBoundary_8 ?_
    try simp only [ha, hn]
    refine jj_bipush h d_M_isBoundary_11 (by decide) ?_
    refine jj_icmp_ge h 20 d_M_isBoundary_13 (by decide) ⟨by omega, by omega⟩ ⟨by omega, by omega⟩ (fun q13 => ?_) (fun q13 => ?_)
    · refine jj_iconst h d_M_isBoundary_20 ?_
      refine jj_istore_n h d_M_isBoundary_21 (Nat.le_of_ble_eq_true rfl) rfl ?_
      refine jj_iconst h d_M_isBoundary_22 ?_
      refine jj_istore_n h d_M_isBoundary_23 (Nat.le_of_ble_eq_true rfl) rfl ?_
      exact loop _ 0 0 rfl (by omega) (by omega) (by omega) ⟨fun z9 => absurd z9 (by decide), fun z9 => by omega⟩
    · refine jj_iconst h d_M_isBoundary_16 ?_
      refine jj_goto h 21 d_M_isBoundary_17 (by decide) ?_
      refine jj_istore_n h d_M_isBoundary_21 (Nat.le_of_ble_eq_true rfl) rfl ?_
      refine jj_iconst h d_M_isBoundary_22 ?_
      refine jj_istore_n h d_M_isBoundary_23 (Nat.le_of_ble_eq_true rfl) rfl ?_
      exact loop _ 0 1 rfl (by omega) (by omega) (by omega) ⟨fun z9 => ⟨by omega, by omega, fun i i0 i1 => by omega⟩, fun z9 => rfl⟩
end
section
/-! The reference: kind. -/
/-- kind and boundary -/
def kndO_ (o : Option (List Int)) (dep : Int) : Int × List Int := match o with
  | none => (0, [])
  | some L => if dep = 4 then (0, []) else knd L
def fK_ (mem : mt_M) (e : Int) (m : mt_M) : Prop := mem 182 9 ≤ m 182 9 ∧ ∀ (r : Nat) (z : Int), (r ≠ 187 ∨ z < mem 182 9) → (r ≠ 182 ∨ (z ≠ 13 ∧ z ≠ 14 ∧ z ≠ 15 ∧ z ≠ 16 ∧ z ≠ 9)) → (r ≠ 185 ∨ (z ≠ 16 * e + 11 ∧ z ≠ 16 * e + 12)) → m r z = mem r z
def kP_ (mem : mt_M) (e B : Int) (K : Int × List Int) (v : Option Value) (m' : mt_M) : Prop := v = some (vi K.1) ∧ fK_ mem e m' ∧ by_ (m' 187) 0 (m' 182 9) ∧ m' 182 9 ≤ mem 182 9 + B ∧ (K.1 = 1 → 0 ≤ m' 185 (16 * e + 11) ∧ m' 185 (16 * e + 12) = K.2.length ∧ m' 185 (16 * e + 11) + m' 185 (16 * e + 12) ≤ m' 182 9 ∧ slc (m' 187) (m' 185 (16 * e + 11)) (m' 185 (16 * e + 11) + m' 185 (16 * e + 12)) = K.2) ∧ (K.1 ≠ 1 → m' 185 = mem 185)
def mlk (k : Nat) (R : List Int) : Int × List Int := match prs k R with
  | none => (0, [])
  | some b => if bd_ b then (1, b) else (0, [])
theorem fs_.row {a b : mt_M} (h : fs_ a b) {r : Nat} (h1 : r ≠ 187) (h2 : r ≠ 182) : b r = a r := by funext z; exact h.2 r z (Or.inl h1) (Or.inl h2)
theorem fs_.K {mem m : mt_M} {e B : Int} {K : Int × List Int} (h : fs_ mem m) (hb : by_ (m 187) 0 (m 182 9)) (hB : m 182 9 ≤ mem 182 9 + B) (hK : K.1 ≠ 1) {z : Int} (hz : z = K.1) : kP_ mem e B K (some (vi z)) m := ⟨by rw [hz], ⟨h.1, fun r z p q _ => h.2 r z p q⟩, hb, hB, fun q => absurd q hK, fun _ => h.row (by decide) (by decide)⟩
theorem cM_kind {G : mt_G} {l : Launch} {mem : mt_M} {e nf dep B : Int} {o : Option (List Int)} (ht : tb_ mem) (hf : fw_ mem e nf) (ho : fld_ mem e nf w_ctype o) (hd : mem 185 (16 * e + 1) = dep) (hd2 : r32 dep) (hB : ∀ f : Int, 0 ≤ f → f < nf → mem 186 (4 * (8 * e + f) + 3) + 20 ≤ B) (hB0 : 0 ≤ B) (hB2 : mem 182 9 + B ≤ 1400) : CT G l y_M_kind c_M_kind 8 (some .int) 6 [vr G 182, vi e] mem (kP_ mem e B (kndO_ o dep)) := by
  refine CT.intro (by decide) rfl (Nat.le_of_ble_eq_true rfl) (fun X h he => ?_)
  have f0 := hf.1
  have f1 := hf.2.1
  have tail : ∀ r : Int, 0 ≤ r → r < nf → o = some (fV_ mem e r) → dep ≠ 4 → JJ G X 0 0 mem 29 [some (vr G 182), some (vi e), some (vi r), none, none, none, none, none] [] := by
    intro r h0 h1 hr hdp
    subst hr
    have g := hf.2.2.2.2.2 r h0 h1
    have hbB := hB r h0 h1
    have hs := sL_enter ht hf h0 h1
    have ht0 := ht.1
    have ht1 := ht.2.1
    have hK : kndO_ (some (fV_ mem e r)) dep = knd (fV_ mem e r) := if_neg hdp
    rw [hK] at he
    clear hK ho
    generalize hs9 : mem 186 (4 * (8 * e + r) + 2) + mem 186 (4 * (8 * e + r) + 3) = s at *
    generalize hV : fV_ mem e r = V at *
    refine jj_aload_n h d_M_kind_29 rfl ⟨_, rfl⟩ ?_
    refine jj_iload_n h d_M_kind_30 rfl ?_
    refine jj_iload_n h d_M_kind_31 rfl ?_
    refine jj_callV h (cM_enter hf h0 h1) cv_M_133 (ro_of he (by decide) (by decide)) rfl rfl (by decide) rfl rfl rfl (Nat.le_of_ble_eq_true rfl) d_M_kind_32 (fun v m32 hv => ?_)
    obtain ⟨rfl, hm1⟩ := hv
    rw [hs9] at hm1
    rw [hm1] at hs
    have fe : fs_ mem m32 := by rw [← hm1]; exact fs_.enter
    have te : m32 182 9 = mem 182 9 := by rw [← hm1, st_ne (by decide), st_ne (by decide)]
    have ae : m32 182 13 = mem 186 (4 * (8 * e + r) + 2) := by rw [← hm1, st_ne (by decide), st_same]
    have be : by_ (m32 187) 0 (m32 182 9) := by rw [te, ← hm1, st_row (by decide), st_row (by decide)]; exact ht.2.2
    clear hm1
    have g0 : sg_ m32 s V m32 V := ⟨fr_.rf, rfl, hs, List.suffix_refl _⟩
    have fail : ∀ (m : mt_M) (L' : List Int), sg_ m32 s V m L' → (knd V).1 ≠ 1 → ∀ z : Int, z = (knd V).1 → kP_ mem e B (knd V) (some (vi z)) m := fun m L' hg hk z hz =>
      (fe.fr hg.1).K (hg.1.by hg.2.1 be) (by have := hg.2.1; omega) hk hz
    -- behind the subtype, the type is multipart
    have mult : ∀ (m : mt_M) (R : List Int), sg_ m32 s V m R → knd V = mlt (skp 0 R) → ∀ x y, JJ G X 0 0 m 141 [some (vr G 182), some (vi e), some (vi r), some (vi x), some (vi y), none, none, none] [] := by
      intro m R hg hk x y
      have kpl : ∀ (k : Nat) (q T1 a : Int) (w : List Int) (m0 m : mt_M) (x y z : Int), (w.length - q).toNat = k → 0 ≤ q → q ≤ w.length → (w.length : Int) ≤ 20 → knd V = (1, w) → by_ (m0 187) 0 T1 → 0 ≤ a → a + w.length ≤ T1 → slc (m0 187) a (a + w.length) = w → fK_ mem e m0 → m0 182 9 = T1 → T1 + 20 ≤ mem 182 9 + B → m0 185 (16 * e + 11) = T1 → m0 185 (16 * e + 12) = w.length → m0 182 16 = w.length → 
          (∀ (r : Nat) (z : Int), (r ≠ 187 ∨ z < T1) → (r ≠ 182 ∨ z ≠ 9) → m r z = m0 r z) → m 182 9 = T1 + q → by_ (m 187) 0 (m 182 9) → slc (m 187) T1 (T1 + q) = slc (m0 187) a (a + q) →
          JJ G X 0 0 m 209 [some (vr G 182), some (vi e), some (vi r), some (vi x), some (vi y), some (vi z), some (vi a), some (vi q)] [] := by
        intro k
        induction k with
        | zero =>
          intro q T1 a w m0 m x y z k1 k2 k3 k4 k5 k6 k7 k8 k9 k10 k11 k12 k13 k14 k15 k16 k17 k18 k19
          have e1 : m 182 16 = w.length := by rw [k16 _ _ (Or.inl (by decide)) (Or.inr (by decide))]; exact k15
          have hq : q = w.length := by omega
          subst hq
          rw [k9] at k19
          have d1 : m 185 (16 * e + 11) = T1 := by rw [k16 _ _ (Or.inl (by decide)) (Or.inl (by decide))]; exact k13
          have d2 : m 185 (16 * e + 12) = w.length := by rw [k16 _ _ (Or.inl (by decide)) (Or.inl (by decide))]; exact k14
          have hm0 := k10.1
          refine jj_iload h d_M_kind_209 rfl ?_
          refine jj_aload_n h d_M_kind_211 rfl ⟨_, rfl⟩ ?_
          refine jj_g_M_wordSize h  fl_M_112 d_M_kind_212 ?_
          try simp only [e1]
          refine jj_icmp_ge h 238 d_M_kind_215 (by decide) ⟨by omega, by omega⟩ ⟨by omega, by omega⟩ (fun _ => ?_) (fun q215 => absurd (by omega) q215)
          refine jj_iconst h d_M_kind_238 ?_
          refine jj_iret h he d_M_kind_239 ?_
          refine ⟨by rw [k5], ⟨by omega, fun r z p q w => ?_⟩, k18, by omega, fun _ => ⟨by omega, by rw [k5]; exact d2, by omega, by rw [d1, d2, k5]; exact k19⟩, fun z => absurd (by rw [k5]) z⟩
          rw [k16 r z (by rcases p with p | p; exact Or.inl p; exact Or.inr (by omega)) (by rcases q with q | q; exact Or.inl q; exact Or.inr q.2.2.2.2)]
          exact k10.2 r z p q w
        | succ k ih =>
          intro q T1 a w m0 m x y z k1 k2 k3 k4 k5 k6 k7 k8 k9 k10 k11 k12 k13 k14 k15 k16 k17 k18 k19
          have e1 : m 182 16 = w.length := by rw [k16 _ _ (Or.inl (by decide)) (Or.inr (by decide))]; exact k15
          have e2 : m 187 (a + q) = m0 187 (a + q) := k16 _ _ (Or.inr (by omega)) (Or.inl (by decide))
          have hby := k6 (a + q) (by omega) (by omega)
          have hm0 := k10.1
          refine jj_iload h d_M_kind_209 rfl ?_
          refine jj_aload_n h d_M_kind_211 rfl ⟨_, rfl⟩ ?_
          refine jj_g_M_wordSize h  fl_M_112 d_M_kind_212 ?_
          try simp only [e1, e2]
          refine jj_icmp_ge h 238 d_M_kind_215 (by decide) ⟨by omega, by omega⟩ ⟨by omega, by omega⟩ (fun q215 => absurd q215 (by omega)) (fun _ => ?_)
          refine jj_aload_n h d_M_kind_218 rfl ⟨_, rfl⟩ ?_
          refine jj_aload_n h d_M_kind_219 rfl ⟨_, rfl⟩ ?_
          refine jj_g_M_text h  fl_M_22 d_M_kind_220 ?_
          try simp only [e1, e2]
          refine jj_iload h d_M_kind_223 rfl ?_
          refine jj_iload h d_M_kind_225 rfl ?_
          refine jj_iadd h d_M_kind_227 ?_
          refine jj_iaload (N := 1400) h (by decide) rfl (by decide) (by omega) (by omega) d_M_kind_228 ?_
          try simp only [e1, e2]
          refine jj_callV h (cM_keep (by omega) (by omega)) cv_M_66 (ro_of he (by decide) (by decide)) rfl rfl (by decide) rfl rfl rfl (Nat.le_of_ble_eq_true rfl) d_M_kind_229 (fun v m229 hv => ?_)
          obtain ⟨rfl, rfl⟩ := hv
          refine jj_iinc h d_M_kind_232 rfl rfl ?_
          refine jj_goto h 209 d_M_kind_235 (by decide) ?_
          refine ih (q + 1) T1 a w m0 _ x y z (by omega) (by omega) (by omega) k4 k5 k6 k7 k8 k9 k10 k11 k12 k13 k14 k15 (fun r z p q => ?_) ?_ (k1_by hby k18) ?_
          · rw [k1_at, if_neg (by rintro ⟨rfl, rfl⟩; rcases q with q | q; exact q rfl; exact q rfl), if_neg (by rintro ⟨rfl, rfl⟩; rcases p with p | p; exact p rfl; omega)]
            exact k16 r z p q
          · rw [k1_at, if_pos (by decide)]; omega
          · have e4 := k1_slc (c := m0 187 (a + q)) (p := T1) (by omega : T1 ≤ m 182 9) rfl
            rw [k17] at e4
            rw [show T1 + (q + 1) = T1 + q + 1 by omega, e4, show a + (q + 1) = a + q + 1 by omega, slc_snoc (by omega), k19]
      have bnd : ∀ (m : mt_M) (w : List Int) (x y : Int), fr_ m32 m → m 182 9 + 20 ≤ mem 182 9 + B → s ≤ m 182 9 → by_ (m 187) 0 (m 182 9) → 0 ≤ m 182 15 → m 182 16 = w.length → m 182 15 + m 182 16 ≤ m 182 9 → slc (m 187) (m 182 15) (m 182 15 + m 182 16) = w → (knd V = if bd_ w then (1, w) else (0, [])) → JJ G X 0 0 m 169 [some (vr G 182), some (vi e), some (vi r), some (vi x), some (vi y), some (vi 2), none, none] [] := by
        intro m w x y b1 b2 b3 b4 b5 b6 b7 b8 b9
        have b10 := b1.1
        refine jj_aload_n h d_M_kind_169 rfl ⟨_, rfl⟩ ?_
        refine jj_callV h (cM_isBoundary b5 b6 (by omega) (b4.sub b5 b7) b8) cv_M_169 (ro_of he (by decide) (by decide)) rfl rfl (by decide) rfl rfl rfl (Nat.le_of_ble_eq_true rfl) d_M_kind_170 (fun v m170 hv => ?_)
        obtain ⟨rfl, rfl⟩ := hv
        refine jj_if_ne h 178 d_M_kind_173 (by decide) ⟨by split <;> omega, by split <;> omega⟩ (fun q173 => ?_) (fun q173 => ?_)
        · have e1 : bd_ w = true := Decidable.byContradiction fun z => q173 (by rw [if_neg z])
          rw [if_pos e1] at b9
          have e2 := of_decide_eq_true e1
          refine jj_aload_n h d_M_kind_178 rfl ⟨_, rfl⟩ ?_
          refine jj_g_M_wordAt h  fl_M_106 d_M_kind_179 ?_
          try simp only [st_at, Nat.reduceEqDiff, Int.reduceEq, and_self, true_and, and_true, false_and, and_false, reduceIte]
          refine jj_istore h d_M_kind_182 (Nat.le_of_ble_eq_true rfl) rfl ?_
          refine jj_aload_n h d_M_kind_184 rfl ⟨_, rfl⟩ ?_
          refine jj_iload_n h d_M_kind_185 rfl ?_
          refine jj_bipush h d_M_kind_186 (by decide) ?_
          refine jj_aload_n h d_M_kind_188 rfl ⟨_, rfl⟩ ?_
          refine jj_g_M_textSize h  fl_M_56 d_M_kind_189 ?_
          try simp only [st_at, Nat.reduceEqDiff, Int.reduceEq, and_self, true_and, and_true, false_and, and_false, reduceIte]
          refine jj_callV h (cM_set (by omega) (by omega)) cv_M_70 (ro_of he (by decide) (by decide)) rfl rfl (by decide) rfl rfl rfl (Nat.le_of_ble_eq_true rfl) d_M_kind_192 (fun v m192 hv => ?_)
          obtain ⟨rfl, rfl⟩ := hv
          refine jj_aload_n h d_M_kind_195 rfl ⟨_, rfl⟩ ?_
          refine jj_iload_n h d_M_kind_196 rfl ?_
          refine jj_bipush h d_M_kind_197 (by decide) ?_
          refine jj_aload_n h d_M_kind_199 rfl ⟨_, rfl⟩ ?_
          refine jj_g_M_wordSize h  fl_M_112 d_M_kind_200 ?_
          try simp only [st_at, Nat.reduceEqDiff, Int.reduceEq, and_self, true_and, and_true, false_and, and_false, reduceIte]
          refine jj_callV h (cM_set (by omega) (by omega)) cv_M_70 (ro_of he (by decide) (by decide)) rfl rfl (by decide) rfl rfl rfl (Nat.le_of_ble_eq_true rfl) d_M_kind_203 (fun v m203 hv => ?_)
          obtain ⟨rfl, rfl⟩ := hv
          refine jj_iconst h d_M_kind_206 ?_
          refine jj_istore h d_M_kind_207 (Nat.le_of_ble_eq_true rfl) rfl ?_
          have d1 : fK_ mem e (st_ (st_ m 185 (16 * e + 11) (m 182 9)) 185 (16 * e + 12) (m 182 16)) := by
            have d2 := fe.fr b1
            refine ⟨by rw [st_ne (by omega), st_ne (by omega)]; exact d2.1, fun r z p q w9 => ?_⟩
            rw [st_ne (by omega), st_ne (by omega)]; exact d2.2 r z p q
          refine kpl _ 0 (m 182 9) (m 182 15) w _ _ x y 2 rfl (by omega) (by omega) (by omega) b9 (by rw [st_row (by decide), st_row (by decide)]; exact b4) b5 (by omega) (by rw [st_row (by decide), st_row (by decide), ← b6]; exact b8) d1 (by rw [st_ne (by omega), st_ne (by omega)]) (by omega) (by rw [st_ne (by omega), st_same]) (by rw [st_same]; exact b6) (by rw [st_ne (by omega), st_ne (by omega)]; exact b6) (fun _ _ _ _ => rfl) (by rw [st_ne (by omega), st_ne (by omega)]; omega) (by rw [st_row (by decide), st_row (by decide), st_ne (by omega), st_ne (by omega)]; exact b4) ?_
          rw [slc_nil (by omega), slc_nil (by omega)]
        · have e1 : ¬ bd_ w = true := fun z => by rw [if_pos z] at q173; omega
          rw [if_neg e1] at b9
          refine jj_iconst h d_M_kind_176 ?_
          refine jj_iret h he d_M_kind_177 ?_
          exact (fe.fr b1).K b4 (by omega) (by rw [b9]; decide) (by rw [b9])
      have pl : ∀ (n : Nat) (m : mt_M) (k : Nat) (R : List Int) (x y : Int), R.length = n → R.length ≤ k → fr_ m32 m → m 182 9 ≤ m32 182 9 + (m 182 13 - m32 182 13) → m32 182 13 ≤ m 182 13 → by_ (m 187) 0 (m 182 9) → sL m s R → knd V = mlk k R → JJ G X 0 0 m 148 [some (vr G 182), some (vi e), some (vi r), some (vi x), some (vi y), some (vi 1), none, none] [] := by
        intro n
        induction n using Nat.strongRecOn with
        | ind n ih =>
          intro m k R x y hn hk p1 p2 p3 p4 p5 p6
          have p7 := p1.1
          have p8 := p5.1.2.2
          refine jj_iload h d_M_kind_148 rfl ?_
          refine jj_iconst h d_M_kind_150 ?_
          refine jj_icmp_ne h 163 d_M_kind_151 (by decide) ⟨by omega, by omega⟩ ⟨by omega, by omega⟩ (fun q151 => absurd (by omega) q151) (fun _ => ?_)
          refine jj_aload_n h d_M_kind_154 rfl ⟨_, rfl⟩ ?_
          refine jj_callV h (cM_parameter p5 (by omega) (by omega) p4) cv_M_166 (ro_of he (by decide) (by decide)) rfl rfl (by decide) rfl rfl rfl (Nat.le_of_ble_eq_true rfl) d_M_kind_155 (fun v m155 hv => ?_)
          obtain ⟨v1, v2, v3, v4, v5, v6⟩ := hv
          have f1 := p1.trans v1
          have v13 := v1.1
          cases hp : par R with
          | none =>
            rw [hp] at v6
            subst v6
            have k1 : knd V = (0, []) := by
              rw [p6]; unfold mlk
              cases k with
              | zero => rfl
              | succ k => rw [show prs (k + 1) R = none by unfold prs; rw [hp]]
            refine jj_istore h d_M_kind_158 (Nat.le_of_ble_eq_true rfl) rfl ?_
            refine jj_goto h 148 d_M_kind_160 (by decide) ?_
            refine jj_iload h d_M_kind_148 rfl ?_
            refine jj_iconst h d_M_kind_150 ?_
            refine jj_icmp_ne h 163 d_M_kind_151 (by decide) ⟨by decide, by decide⟩ ⟨by decide, by decide⟩ (fun _ => ?_) (fun z => absurd z (by decide))
            refine jj_iload h d_M_kind_163 rfl ?_
            refine jj_iconst h d_M_kind_165 ?_
            refine jj_icmp_ne h 176 d_M_kind_166 (by decide) ⟨by decide, by decide⟩ ⟨by decide, by decide⟩ (fun _ => ?_) (fun z => absurd z (by decide))
            refine jj_iconst h d_M_kind_176 ?_
            refine jj_iret h he d_M_kind_177 ?_
            exact (fe.fr f1).K v5 (by omega) (by rw [k1]; decide) (by rw [k1])
          | some q =>
          rw [hp] at v6
          obtain ⟨rfl, v7, v8, v9, v10, v11, v12⟩ := v6
          have hl1 := p5.len
          have hl2 := v7.len
          obtain ⟨k, rfl⟩ : ∃ k', k = k' + 1 := ⟨k - 1, by omega⟩
          have p9 : prs (k + 1) R = if q.1 then some q.2.1 else prs k q.2.2 := by rw [prs]; rw [hp]
          refine jj_istore h d_M_kind_158 (Nat.le_of_ble_eq_true rfl) rfl ?_
          refine jj_goto h 148 d_M_kind_160 (by decide) ?_
          by_cases hqb : q.1 = true
          · rw [if_pos hqb]
            rw [if_pos hqb] at p9
            have k1 : knd V = if bd_ q.2.1 then (1, q.2.1) else (0, []) := by rw [p6]; unfold mlk; rw [p9]
            refine jj_iload h d_M_kind_148 rfl ?_
            refine jj_iconst h d_M_kind_150 ?_
            refine jj_icmp_ne h 163 d_M_kind_151 (by decide) ⟨by decide, by decide⟩ ⟨by decide, by decide⟩ (fun _ => ?_) (fun z => absurd z (by decide))
            refine jj_iload h d_M_kind_163 rfl ?_
            refine jj_iconst h d_M_kind_165 ?_
            refine jj_icmp_ne h 176 d_M_kind_166 (by decide) ⟨by decide, by decide⟩ ⟨by decide, by decide⟩ (fun z => absurd rfl z) (fun _ => ?_)
            exact bnd m155 q.2.1 x y f1 (by omega) (by omega) v5 v9 v10 v11 v12 k1
          · rw [if_neg hqb]
            rw [if_neg hqb] at p9
            exact ih _ (by omega) m155 k q.2.2 x y rfl (by omega) f1 (by omega) (by omega) v5 v7 (by rw [p6]; unfold mlk; rw [p9])
      have hl9 := hg.2.2.1.len
      have a9 := hg.at hs
      refine jj_aload_n h d_M_kind_141 rfl ⟨_, rfl⟩ ?_
      refine jj_callV h (cM_spaceL hg.2.2.1) cv_M_137 (ro_of he (by decide) (by decide)) rfl rfl (by decide) rfl rfl rfl (Nat.le_of_ble_eq_true rfl) d_M_kind_142 (fun v m142 hv => ?_)
      obtain ⟨rfl, q1, hs1, -, -⟩ := hv
      have g1 := hg.go q1 hs1 (skp_suf _ 0)
      have a1 := g1.at hs
      have t1 := g1.2.1
      refine jj_iconst h d_M_kind_145 ?_
      refine jj_istore h d_M_kind_146 (Nat.le_of_ble_eq_true rfl) rfl ?_
      exact pl _ m142 _ (skp 0 R) x y rfl (Nat.le_refl _) g1.1 (by omega) (by omega) (g1.1.by g1.2.1 be) hs1 hk
    refine jj_aload_n h d_M_kind_35 rfl ⟨_, rfl⟩ ?_
    refine jj_callV h (cM_spaceL hs) cv_M_137 (ro_of he (by decide) (by decide)) rfl rfl (by decide) rfl rfl rfl (Nat.le_of_ble_eq_true rfl) d_M_kind_36 (fun v m36 hv => ?_)
    obtain ⟨rfl, q1, hs1, -, -⟩ := hv
    have g1 := g0.go q1 hs1 (skp_suf _ 0)
    refine jj_aload_n h d_M_kind_39 rfl ⟨_, rfl⟩ ?_
    refine jj_callV h (cM_atomL hs1) cv_M_140 (ro_of he (by decide) (by decide)) rfl rfl (by decide) rfl rfl rfl (Nat.le_of_ble_eq_true rfl) d_M_kind_40 (fun v m40 hv => ?_)
    obtain ⟨rfl, q2, hs2, w1, w2, w3, w4, w5⟩ := hv
    have g2 := g1.go q2 hs2 (dw_suf _ _)
    refine jj_if_ne h 48 d_M_kind_43 (by decide) ⟨by split <;> omega, by split <;> omega⟩ (fun q43 => ?_) (fun q43 => ?_)
    · have e1 : ¬ (skp 0 V).takeWhile at_ = [] := fun z => q43 (by rw [if_pos z])
      have p1 : atm (skp 0 V) = some ((skp 0 V).takeWhile at_, (skp 0 V).dropWhile at_) := if_neg e1
      refine jj_aload_n h d_M_kind_48 rfl ⟨_, rfl⟩ ?_
      refine jj_g_M_wordAt h  fl_M_106 d_M_kind_49 ?_
      refine jj_istore_n h d_M_kind_52 (Nat.le_of_ble_eq_true rfl) rfl ?_
      refine jj_aload_n h d_M_kind_53 rfl ⟨_, rfl⟩ ?_
      refine jj_g_M_wordSize h  fl_M_112 d_M_kind_54 ?_
      refine jj_istore h d_M_kind_57 (Nat.le_of_ble_eq_true rfl) rfl ?_
      refine jj_aload_n h d_M_kind_59 rfl ⟨_, rfl⟩ ?_
      refine jj_callV h (cM_spaceL hs2) cv_M_137 (ro_of he (by decide) (by decide)) rfl rfl (by decide) rfl rfl rfl (Nat.le_of_ble_eq_true rfl) d_M_kind_60 (fun v m60 hv => ?_)
      obtain ⟨rfl, q3, hs3, -, -⟩ := hv
      have g3 := g2.go q3 hs3 (skp_suf _ 0)
      refine jj_aload_n h d_M_kind_63 rfl ⟨_, rfl⟩ ?_
      refine jj_bipush h d_M_kind_64 (by decide) ?_
      refine jj_callV h (cM_takesL hs3 (by decide)) cv_M_150 (ro_of he (by decide) (by decide)) rfl rfl (by decide) rfl rfl rfl (Nat.le_of_ble_eq_true rfl) d_M_kind_66 (fun v m66 hv => ?_)
      obtain ⟨q4, hv⟩ := hv
      cases hp2 : tk_ 47 (skp 0 ((skp 0 V).dropWhile at_)) with
      | none =>
        rw [hp2] at hv
        obtain ⟨rfl, rfl⟩ := hv
        refine jj_if_ne h 74 d_M_kind_69 (by decide) ⟨by decide, by decide⟩ (fun z => absurd rfl z) (fun _ => ?_)
        refine jj_iconst h d_M_kind_72 ?_
        refine jj_iret h he d_M_kind_73 ?_
        have k1 : knd V = (0, []) := by unfold knd; rw [p1]; show kn2 ((tk_ 47 _).bind _) = _; rw [hp2]; rfl
        exact fail m60 _ g3 (by rw [k1]; decide) 0 (by rw [k1])
      | some l2 =>
      rw [hp2] at hv
      obtain ⟨rfl, hs4⟩ := hv
      have g4 := g3.go q4 hs4 (tk_suf hp2)
      refine jj_if_ne h 74 d_M_kind_69 (by decide) ⟨by decide, by decide⟩ (fun _ => ?_) (fun q69 => absurd q69 (by omega))
      refine jj_aload_n h d_M_kind_74 rfl ⟨_, rfl⟩ ?_
      refine jj_callV h (cM_spaceL hs4) cv_M_137 (ro_of he (by decide) (by decide)) rfl rfl (by decide) rfl rfl rfl (Nat.le_of_ble_eq_true rfl) d_M_kind_75 (fun v m75 hv => ?_)
      obtain ⟨rfl, q5, hs5, -, -⟩ := hv
      have g5 := g4.go q5 hs5 (skp_suf _ 0)
      refine jj_aload_n h d_M_kind_78 rfl ⟨_, rfl⟩ ?_
      refine jj_callV h (cM_atomL hs5) cv_M_140 (ro_of he (by decide) (by decide)) rfl rfl (by decide) rfl rfl rfl (Nat.le_of_ble_eq_true rfl) d_M_kind_79 (fun v m79 hv => ?_)
      obtain ⟨rfl, q6, hs6, x1, x2, x3, x4, x5⟩ := hv
      have g6 := g5.go q6 hs6 (dw_suf _ _)
      have hb6 := g6.1.by g6.2.1 be
      have t6 := g6.2.1
      have tx : m79 187 = m32 187 := (q6.txt.trans (q5.txt.trans (q4.txt.trans (q3.txt.trans (q2.txt.trans q1.txt)))))
      refine jj_if_ne h 87 d_M_kind_82 (by decide) ⟨by split <;> omega, by split <;> omega⟩ (fun q82 => ?_) (fun q82 => ?_)
      · have e2 : ¬ (skp 0 l2).takeWhile at_ = [] := fun z => q82 (by rw [if_pos z])
        have kk : knd V = if wd_ w_message ((skp 0 V).takeWhile at_) ∧ wd_ w_rfc822 ((skp 0 l2).takeWhile at_) then (2, []) else if wd_ w_multipart ((skp 0 V).takeWhile at_) then mlt (skp 0 ((skp 0 l2).dropWhile at_)) else (0, []) := by
          unfold knd; rw [p1]; show kn2 ((tk_ 47 _).bind _) = _; rw [hp2]; show kn2 ((atm _).map _) = _; rw [show atm (skp 0 l2) = some ((skp 0 l2).takeWhile at_, (skp 0 l2).dropWhile at_) from if_neg e2]; rfl
        refine jj_aload_n h d_M_kind_87 rfl ⟨_, rfl⟩ ?_
        refine jj_iload_n h d_M_kind_88 rfl ?_
        refine jj_iload h d_M_kind_89 rfl ?_
        refine jj_ldc2 h (482888516137957) d_M_kind_91 wk_M_160 ?_
        refine jj_lconst0 h d_M_kind_94 ?_
        refine jj_lconst0 h d_M_kind_95 ?_
        refine jj_callV h (cM_isWord wl_message.1 wl_message.2 w1 w2 (by omega) (hb6.sub w1 (by omega))) cv_M_119 (ro_of he (by decide) (by decide)) rfl rfl (by decide) rfl rfl rfl (Nat.le_of_ble_eq_true rfl) d_M_kind_96 (fun v m96 hv => ?_)
        obtain ⟨rfl, rfl⟩ := hv
        rw [tx, ← q1.txt, w5]
        refine jj_if_eq h 124 d_M_kind_99 (by decide) ⟨by split <;> omega, by split <;> omega⟩ (fun q99 => ?_) (fun q99 => ?_)
        · have e3 : ¬ wd_ w_message ((skp 0 V).takeWhile at_) = true := fun z => by rw [if_pos z] at q99; omega
          have k2 : ¬ (wd_ w_message ((skp 0 V).takeWhile at_) = true ∧ wd_ w_rfc822 ((skp 0 l2).takeWhile at_) = true) := fun z => e3 z.1
          rw [if_neg k2] at kk
          refine jj_aload_n h d_M_kind_124 rfl ⟨_, rfl⟩ ?_
          refine jj_iload_n h d_M_kind_125 rfl ?_
          refine jj_iload h d_M_kind_126 rfl ?_
          refine jj_ldc2 h (7920621897859496308) d_M_kind_128 wk_M_164 ?_
          refine jj_lconst0 h d_M_kind_131 ?_
          refine jj_lconst0 h d_M_kind_132 ?_
          refine jj_callV h (cM_isWord wl_multipart.1 wl_multipart.2 w1 w2 (by omega) (hb6.sub w1 (by omega))) cv_M_119 (ro_of he (by decide) (by decide)) rfl rfl (by decide) rfl rfl rfl (Nat.le_of_ble_eq_true rfl) d_M_kind_133 (fun v m133 hv => ?_)
          obtain ⟨rfl, rfl⟩ := hv
          rw [tx, ← q1.txt, w5]
          refine jj_if_ne h 141 d_M_kind_136 (by decide) ⟨by split <;> omega, by split <;> omega⟩ (fun q136 => ?_) (fun q136 => ?_)
          · have e5 : wd_ w_multipart ((skp 0 V).takeWhile at_) = true := Decidable.byContradiction fun z => q136 (by rw [if_neg z])
            rw [if_pos e5] at kk
            exact mult m79 _ g6 kk _ _
          · have e5 : ¬ wd_ w_multipart ((skp 0 V).takeWhile at_) = true := fun z => by rw [if_pos z] at q136; omega
            rw [if_neg e5] at kk
            refine jj_iconst h d_M_kind_139 ?_
            refine jj_iret h he d_M_kind_140 ?_
            exact fail m79 _ g6 (by rw [kk]; decide) 0 (by rw [kk])
        · have e3 : wd_ w_message ((skp 0 V).takeWhile at_) = true := Decidable.byContradiction fun z => q99 (by rw [if_neg z])
          refine jj_aload_n h d_M_kind_102 rfl ⟨_, rfl⟩ ?_
          refine jj_aload_n h d_M_kind_103 rfl ⟨_, rfl⟩ ?_
          refine jj_g_M_wordAt h  fl_M_106 d_M_kind_104 ?_
          refine jj_aload_n h d_M_kind_107 rfl ⟨_, rfl⟩ ?_
          refine jj_g_M_wordSize h  fl_M_112 d_M_kind_108 ?_
          refine jj_ldc2 h (3944599132466) d_M_kind_111 wk_M_162 ?_
          refine jj_lconst0 h d_M_kind_114 ?_
          refine jj_lconst0 h d_M_kind_115 ?_
          refine jj_callV h (cM_isWord wl_rfc822.1 wl_rfc822.2 x1 x2 (by omega) (hb6.sub x1 (by omega))) cv_M_119 (ro_of he (by decide) (by decide)) rfl rfl (by decide) rfl rfl rfl (Nat.le_of_ble_eq_true rfl) d_M_kind_116 (fun v m116 hv => ?_)
          obtain ⟨rfl, rfl⟩ := hv
          rw [q6.txt, x5]
          refine jj_if_eq h 124 d_M_kind_119 (by decide) ⟨by split <;> omega, by split <;> omega⟩ (fun q119 => ?_) (fun q119 => ?_)
          · have e4 : ¬ wd_ w_rfc822 ((skp 0 l2).takeWhile at_) = true := fun z => by rw [if_pos z] at q119; omega
            have k2 : ¬ (wd_ w_message ((skp 0 V).takeWhile at_) = true ∧ wd_ w_rfc822 ((skp 0 l2).takeWhile at_) = true) := fun z => e4 z.2
            rw [if_neg k2] at kk
            refine jj_aload_n h d_M_kind_124 rfl ⟨_, rfl⟩ ?_
            refine jj_iload_n h d_M_kind_125 rfl ?_
            refine jj_iload h d_M_kind_126 rfl ?_
            refine jj_ldc2 h (7920621897859496308) d_M_kind_128 wk_M_164 ?_
            refine jj_lconst0 h d_M_kind_131 ?_
            refine jj_lconst0 h d_M_kind_132 ?_
            refine jj_callV h (cM_isWord wl_multipart.1 wl_multipart.2 w1 w2 (by omega) (hb6.sub w1 (by omega))) cv_M_119 (ro_of he (by decide) (by decide)) rfl rfl (by decide) rfl rfl rfl (Nat.le_of_ble_eq_true rfl) d_M_kind_133 (fun v m133 hv => ?_)
            obtain ⟨rfl, rfl⟩ := hv
            rw [tx, ← q1.txt, w5]
            refine jj_if_ne h 141 d_M_kind_136 (by decide) ⟨by split <;> omega, by split <;> omega⟩ (fun q136 => ?_) (fun q136 => ?_)
            · have e5 : wd_ w_multipart ((skp 0 V).takeWhile at_) = true := Decidable.byContradiction fun z => q136 (by rw [if_neg z])
              rw [if_pos e5] at kk
              exact mult m79 _ g6 kk _ _
            · have e5 : ¬ wd_ w_multipart ((skp 0 V).takeWhile at_) = true := fun z => by rw [if_pos z] at q136; omega
              rw [if_neg e5] at kk
              refine jj_iconst h d_M_kind_139 ?_
              refine jj_iret h he d_M_kind_140 ?_
              exact fail m79 _ g6 (by rw [kk]; decide) 0 (by rw [kk])
          · have e4 : wd_ w_rfc822 ((skp 0 l2).takeWhile at_) = true := Decidable.byContradiction fun z => q119 (by rw [if_neg z])
            rw [if_pos (And.intro e3 e4)] at kk
            refine jj_iconst h d_M_kind_122 ?_
            refine jj_iret h he d_M_kind_123 ?_
            exact fail m79 _ g6 (by rw [kk]; decide) 2 (by rw [kk])
      · have e2 : (skp 0 l2).takeWhile at_ = [] := Decidable.byContradiction fun z => by rw [if_neg z] at q82; omega
        have k1 : knd V = (0, []) := by unfold knd; rw [p1]; show kn2 ((tk_ 47 _).bind _) = _; rw [hp2]; show kn2 ((atm _).map _) = _; rw [show atm (skp 0 l2) = none from if_pos e2]; rfl
        refine jj_iconst h d_M_kind_85 ?_
        refine jj_iret h he d_M_kind_86 ?_
        exact fail m79 _ g6 (by rw [k1]; decide) 0 (by rw [k1])
    · have e1 : (skp 0 V).takeWhile at_ = [] := Decidable.byContradiction fun z => by rw [if_neg z] at q43; omega
      have k1 : knd V = (0, []) := by unfold knd; rw [show atm (skp 0 V) = none from if_pos e1]; rfl
      refine jj_iconst h d_M_kind_46 ?_
      refine jj_iret h he d_M_kind_47 ?_
      exact fail m40 _ g2 (by rw [k1]; decide) 0 (by rw [k1])
  refine jj_aload_n h d_M_kind_0 rfl ⟨_, rfl⟩ ?_
  refine jj_iload_n h d_M_kind_1 rfl ?_
  refine jj_ldc2 h (7196677052775077620) d_M_kind_2 wk_M_123 ?_
  refine jj_ldc2 h (1996901) d_M_kind_5 wk_M_158 ?_
  refine jj_lconst0 h d_M_kind_8 ?_
  refine jj_callV h (cM_firstField wl_ctype ht hf) cv_M_129 (ro_of he (by decide) (by decide)) rfl rfl (by decide) rfl rfl rfl (Nat.le_of_ble_eq_true rfl) d_M_kind_9 (fun v m9 hv => ?_)
  obtain ⟨rfl, r, rfl, hr⟩ := hv
  refine jj_istore_n h d_M_kind_12 (Nat.le_of_ble_eq_true rfl) rfl ?_
  refine jj_iload_n h d_M_kind_13 rfl ?_
  refine jj_if_lt h 27 d_M_kind_14 (by decide) ⟨by omega, by have := hf.2.2.2.1; omega⟩ (fun q14 => ?_) (fun q14 => ?_)
  · refine jj_iconst h d_M_kind_27 ?_
    refine jj_iret h he d_M_kind_28 ?_
    rcases hr with ⟨-, hr⟩ | hr
    · have e1 := fld_u ho (show fld_ mem e nf w_ctype none from hr)
      subst e1
      exact fs_.rf.K ht.2.2 (by omega) (show (0 : Int) ≠ 1 by decide) rfl
    · omega
  · refine jj_aload_n h d_M_kind_17 rfl ⟨_, rfl⟩ ?_
    refine jj_iload_n h d_M_kind_18 rfl ?_
    refine jj_iconst h d_M_kind_19 ?_
    refine jj_callV h (cM_of (by omega) (by omega)) cv_M_59 (ro_of he (by decide) (by decide)) rfl rfl (by decide) rfl rfl rfl (Nat.le_of_ble_eq_true rfl) d_M_kind_20 (fun v m20 hv => ?_)
    obtain ⟨rfl, rfl⟩ := hv
    rw [hd]
    refine jj_iconst h d_M_kind_23 ?_
    refine jj_icmp_ne h 29 d_M_kind_24 (by decide) hd2 ⟨by decide, by decide⟩ (fun q24 => ?_) (fun q24 => ?_)
    · rcases hr with hr | ⟨h0, h1, h2, h3⟩
      · omega
      · exact tail r h0 h1 (fld_u ho (show fld_ mem e nf w_ctype (some (fV_ mem e r)) from ⟨r, h0, h1, h2, h3, rfl⟩)) q24
    · refine jj_iconst h d_M_kind_27 ?_
      refine jj_iret h he d_M_kind_28 ?_
      rcases hr with hr | ⟨h0, h1, h2, h3⟩
      · omega
      · have e1 := fld_u ho (show fld_ mem e nf w_ctype (some (fV_ mem e r)) from ⟨r, h0, h1, h2, h3, rfl⟩)
        subst e1
        have e2 : kndO_ (some (fV_ mem e r)) dep = (0, []) := if_pos q24
        rw [e2]
        exact fs_.rf.K ht.2.2 (by omega) (by decide) rfl
end
