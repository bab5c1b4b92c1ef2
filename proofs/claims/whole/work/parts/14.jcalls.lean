theorem gw_143 : (Cond.initialized "java/util/Arrays") ∈ GW := gw_t1 11 rfl rfl
theorem gw_144 : (Cond.initialized "java/lang/String") ∈ GW := gw_t1 12 rfl rfl
theorem gw_145 : (Cond.initialized "java/lang/StringLatin1") ∈ GW := gw_t1 13 rfl rfl
theorem gw_146 : (Cond.initialized "jdk/internal/util/Preconditions") ∈ GW := gw_t1 14 rfl rfl
theorem gw_147 : (Cond.initialized "java/lang/StringUTF16") ∈ GW := gw_t1 15 rfl rfl
theorem gw_149 : (Cond.initialized "java/lang/Character") ∈ GW := gw_t1 17 rfl rfl
theorem gw_159 : (Cond.initialized "java/lang/Long") ∈ GW := gw_t1 27 rfl rfl
theorem gw_161 : (Cond.initialized "java/lang/Float") ∈ GW := gw_t1 29 rfl rfl
theorem gw_562 : (Cond.methodLink "CartPaths$Search" (21 : Nat) ({ cls := "java/util/Arrays", name := "fill", desc := "([JJ)V" } : MethodName)) ∈ GW := gw_t2 190 rfl rfl
theorem gw_563 : (Cond.static ({ cls := "java/util/Arrays", name := "fill", desc := "([JJ)V" } : MethodName)) ∈ GW := gw_t2 191 rfl rfl
theorem gw_564 : (Cond.code ({ cls := "java/util/Arrays", name := "fill", desc := "([JJ)V" } : MethodName) prog_33_method_101_code (5 : Nat) (Option.none : Option FieldType)) ∈ GW := gw_t2 192 rfl rfl
theorem gw_658 : (Cond.methodLink "CartPaths$Scene" (41 : Nat) ({ cls := "java/util/Arrays", name := "fill", desc := "([II)V" } : MethodName)) ∈ GW := gw_t3 46 rfl rfl
theorem gw_659 : (Cond.static ({ cls := "java/util/Arrays", name := "fill", desc := "([II)V" } : MethodName)) ∈ GW := gw_t3 47 rfl rfl
theorem gw_660 : (Cond.code ({ cls := "java/util/Arrays", name := "fill", desc := "([II)V" } : MethodName) prog_33_method_103_code (4 : Nat) (Option.none : Option FieldType)) ∈ GW := gw_t3 48 rfl rfl
theorem gw_678 : (Cond.methodLink "CartPaths$TextReader" (75 : Nat) ({ cls := "java/lang/String", name := "length", desc := "()I" } : MethodName)) ∈ GW := gw_t3 66 rfl rfl
theorem gw_679 : (Cond.instanceMethod ({ cls := "java/lang/String", name := "length", desc := "()I" } : MethodName)) ∈ GW := gw_t3 67 rfl rfl
theorem gw_680 : (Cond.selects "java/lang/String" ({ cls := "java/lang/String", name := "length", desc := "()I" } : MethodName) ({ cls := "java/lang/String", name := "length", desc := "()I" } : MethodName)) ∈ GW := gw_t3 68 rfl rfl
theorem gw_681 : (Cond.code ({ cls := "java/lang/String", name := "length", desc := "()I" } : MethodName) prog_26_method_54_code (1 : Nat) (Option.some FieldType.int)) ∈ GW := gw_t3 69 rfl rfl
theorem gw_682 : (Cond.methodLink "java/lang/String" (335 : Nat) ({ cls := "java/lang/String", name := "coder", desc := "()B" } : MethodName)) ∈ GW := gw_t3 70 rfl rfl
theorem gw_683 : (Cond.instanceMethod ({ cls := "java/lang/String", name := "coder", desc := "()B" } : MethodName)) ∈ GW := gw_t3 71 rfl rfl
theorem gw_684 : (Cond.selects "java/lang/String" ({ cls := "java/lang/String", name := "coder", desc := "()B" } : MethodName) ({ cls := "java/lang/String", name := "coder", desc := "()B" } : MethodName)) ∈ GW := gw_t3 72 rfl rfl
theorem gw_685 : (Cond.code ({ cls := "java/lang/String", name := "coder", desc := "()B" } : MethodName) prog_26_method_152_code (1 : Nat) (Option.some FieldType.byte)) ∈ GW := gw_t3 73 rfl rfl
theorem gw_688 : (Cond.methodLink "CartPaths$TextReader" (80 : Nat) ({ cls := "java/lang/String", name := "charAt", desc := "(I)C" } : MethodName)) ∈ GW := gw_t3 76 rfl rfl
theorem gw_689 : (Cond.instanceMethod ({ cls := "java/lang/String", name := "charAt", desc := "(I)C" } : MethodName)) ∈ GW := gw_t3 77 rfl rfl
theorem gw_690 : (Cond.selects "java/lang/String" ({ cls := "java/lang/String", name := "charAt", desc := "(I)C" } : MethodName) ({ cls := "java/lang/String", name := "charAt", desc := "(I)C" } : MethodName)) ∈ GW := gw_t3 78 rfl rfl
theorem gw_691 : (Cond.code ({ cls := "java/lang/String", name := "charAt", desc := "(I)C" } : MethodName) prog_26_method_56_code (2 : Nat) (Option.some FieldType.char)) ∈ GW := gw_t3 79 rfl rfl
theorem gw_692 : (Cond.methodLink "java/lang/String" (492 : Nat) ({ cls := "java/lang/String", name := "isLatin1", desc := "()Z" } : MethodName)) ∈ GW := gw_t3 80 rfl rfl
theorem gw_693 : (Cond.instanceMethod ({ cls := "java/lang/String", name := "isLatin1", desc := "()Z" } : MethodName)) ∈ GW := gw_t3 81 rfl rfl
theorem gw_694 : (Cond.selects "java/lang/String" ({ cls := "java/lang/String", name := "isLatin1", desc := "()Z" } : MethodName) ({ cls := "java/lang/String", name := "isLatin1", desc := "()Z" } : MethodName)) ∈ GW := gw_t3 82 rfl rfl
theorem gw_695 : (Cond.code ({ cls := "java/lang/String", name := "isLatin1", desc := "()Z" } : MethodName) prog_26_method_154_code (1 : Nat) (Option.some FieldType.boolean)) ∈ GW := gw_t3 83 rfl rfl
theorem gw_696 : (Cond.methodLink "java/lang/String" (495 : Nat) ({ cls := "java/lang/StringLatin1", name := "charAt", desc := "([BI)C" } : MethodName)) ∈ GW := gw_t3 84 rfl rfl
theorem gw_697 : (Cond.static ({ cls := "java/lang/StringLatin1", name := "charAt", desc := "([BI)C" } : MethodName)) ∈ GW := gw_t3 85 rfl rfl
theorem gw_698 : (Cond.code ({ cls := "java/lang/StringLatin1", name := "charAt", desc := "([BI)C" } : MethodName) prog_27_method_2_code (2 : Nat) (Option.some FieldType.char)) ∈ GW := gw_t3 86 rfl rfl
theorem gw_699 : (Cond.methodLink "java/lang/StringLatin1" (9 : Nat) ({ cls := "java/lang/String", name := "checkIndex", desc := "(II)V" } : MethodName)) ∈ GW := gw_t3 87 rfl rfl
theorem gw_700 : (Cond.static ({ cls := "java/lang/String", name := "checkIndex", desc := "(II)V" } : MethodName)) ∈ GW := gw_t3 88 rfl rfl
theorem gw_701 : (Cond.code ({ cls := "java/lang/String", name := "checkIndex", desc := "(II)V" } : MethodName) prog_26_method_155_code (2 : Nat) (Option.none : Option FieldType)) ∈ GW := gw_t3 89 rfl rfl
theorem gw_704 : (Cond.methodLink "java/lang/String" (1059 : Nat) ({ cls := "jdk/internal/util/Preconditions", name := "checkIndex", desc := "(IILjava/util/function/BiFunction;)I" } : MethodName)) ∈ GW := gw_t3 92 rfl rfl
theorem gw_705 : (Cond.static ({ cls := "jdk/internal/util/Preconditions", name := "checkIndex", desc := "(IILjava/util/function/BiFunction;)I" } : MethodName)) ∈ GW := gw_t3 93 rfl rfl
theorem gw_706 : (Cond.code ({ cls := "jdk/internal/util/Preconditions", name := "checkIndex", desc := "(IILjava/util/function/BiFunction;)I" } : MethodName) prog_35_method_11_code (3 : Nat) (Option.some FieldType.int)) ∈ GW := gw_t3 94 rfl rfl
theorem gw_707 : (Cond.methodLink "java/lang/String" (498 : Nat) ({ cls := "java/lang/StringUTF16", name := "charAt", desc := "([BI)C" } : MethodName)) ∈ GW := gw_t3 95 rfl rfl
theorem gw_708 : (Cond.static ({ cls := "java/lang/StringUTF16", name := "charAt", desc := "([BI)C" } : MethodName)) ∈ GW := gw_t3 96 rfl rfl
theorem gw_709 : (Cond.code ({ cls := "java/lang/StringUTF16", name := "charAt", desc := "([BI)C" } : MethodName) prog_28_method_83_code (2 : Nat) (Option.some FieldType.char)) ∈ GW := gw_t3 97 rfl rfl
theorem gw_710 : (Cond.methodLink "java/lang/StringUTF16" (67 : Nat) ({ cls := "java/lang/StringUTF16", name := "checkIndex", desc := "(I[B)V" } : MethodName)) ∈ GW := gw_t3 98 rfl rfl
theorem gw_711 : (Cond.static ({ cls := "java/lang/StringUTF16", name := "checkIndex", desc := "(I[B)V" } : MethodName)) ∈ GW := gw_t3 99 rfl rfl
theorem gw_712 : (Cond.code ({ cls := "java/lang/StringUTF16", name := "checkIndex", desc := "(I[B)V" } : MethodName) prog_28_method_91_code (2 : Nat) (Option.none : Option FieldType)) ∈ GW := gw_t3 100 rfl rfl
theorem gw_713 : (Cond.methodLink "java/lang/StringUTF16" (48 : Nat) ({ cls := "java/lang/StringUTF16", name := "length", desc := "([B)I" } : MethodName)) ∈ GW := gw_t3 101 rfl rfl
theorem gw_714 : (Cond.static ({ cls := "java/lang/StringUTF16", name := "length", desc := "([B)I" } : MethodName)) ∈ GW := gw_t3 102 rfl rfl
theorem gw_715 : (Cond.code ({ cls := "java/lang/StringUTF16", name := "length", desc := "([B)I" } : MethodName) prog_28_method_6_code (1 : Nat) (Option.some FieldType.int)) ∈ GW := gw_t3 103 rfl rfl
theorem gw_716 : (Cond.methodLink "java/lang/StringUTF16" (414 : Nat) ({ cls := "java/lang/String", name := "checkIndex", desc := "(II)V" } : MethodName)) ∈ GW := gw_t3 104 rfl rfl
theorem gw_717 : (Cond.methodLink "java/lang/StringUTF16" (71 : Nat) ({ cls := "java/lang/StringUTF16", name := "getChar", desc := "([BI)C" } : MethodName)) ∈ GW := gw_t3 105 rfl rfl
theorem gw_718 : (Cond.static ({ cls := "java/lang/StringUTF16", name := "getChar", desc := "([BI)C" } : MethodName)) ∈ GW := gw_t3 106 rfl rfl
theorem gw_719 : (Cond.code ({ cls := "java/lang/StringUTF16", name := "getChar", desc := "([BI)C" } : MethodName) prog_28_method_5_code (2 : Nat) (Option.some FieldType.char)) ∈ GW := gw_t3 107 rfl rfl
theorem gw_731 : (Cond.methodLink "CartPaths$TextReader" (86 : Nat) ({ cls := "java/lang/String", name := "indexOf", desc := "(I)I" } : MethodName)) ∈ GW := gw_t3 119 rfl rfl
theorem gw_732 : (Cond.instanceMethod ({ cls := "java/lang/String", name := "indexOf", desc := "(I)I" } : MethodName)) ∈ GW := gw_t3 120 rfl rfl
theorem gw_733 : (Cond.selects "java/lang/String" ({ cls := "java/lang/String", name := "indexOf", desc := "(I)I" } : MethodName) ({ cls := "java/lang/String", name := "indexOf", desc := "(I)I" } : MethodName)) ∈ GW := gw_t3 121 rfl rfl
theorem gw_734 : (Cond.code ({ cls := "java/lang/String", name := "indexOf", desc := "(I)I" } : MethodName) prog_26_method_79_code (2 : Nat) (Option.some FieldType.int)) ∈ GW := gw_t3 122 rfl rfl
theorem gw_735 : (Cond.methodLink "java/lang/String" (633 : Nat) ({ cls := "java/lang/String", name := "indexOf", desc := "(II)I" } : MethodName)) ∈ GW := gw_t3 123 rfl rfl
theorem gw_736 : (Cond.instanceMethod ({ cls := "java/lang/String", name := "indexOf", desc := "(II)I" } : MethodName)) ∈ GW := gw_t3 124 rfl rfl
theorem gw_737 : (Cond.selects "java/lang/String" ({ cls := "java/lang/String", name := "indexOf", desc := "(II)I" } : MethodName) ({ cls := "java/lang/String", name := "indexOf", desc := "(II)I" } : MethodName)) ∈ GW := gw_t3 125 rfl rfl
theorem gw_738 : (Cond.code ({ cls := "java/lang/String", name := "indexOf", desc := "(II)I" } : MethodName) prog_26_method_80_code (3 : Nat) (Option.some FieldType.int)) ∈ GW := gw_t3 126 rfl rfl
theorem gw_739 : (Cond.methodLink "java/lang/String" (505 : Nat) ({ cls := "java/lang/String", name := "length", desc := "()I" } : MethodName)) ∈ GW := gw_t3 127 rfl rfl
theorem gw_740 : (Cond.methodLink "java/lang/String" (637 : Nat) ({ cls := "java/lang/StringLatin1", name := "indexOf", desc := "([BIII)I" } : MethodName)) ∈ GW := gw_t3 128 rfl rfl
theorem gw_741 : (Cond.static ({ cls := "java/lang/StringLatin1", name := "indexOf", desc := "([BIII)I" } : MethodName)) ∈ GW := gw_t3 129 rfl rfl
theorem gw_742 : (Cond.code ({ cls := "java/lang/StringLatin1", name := "indexOf", desc := "([BIII)I" } : MethodName) prog_27_method_22_code (4 : Nat) (Option.some FieldType.int)) ∈ GW := gw_t3 130 rfl rfl
theorem gw_743 : (Cond.methodLink "java/lang/StringLatin1" (88 : Nat) ({ cls := "java/lang/StringLatin1", name := "canEncode", desc := "(I)Z" } : MethodName)) ∈ GW := gw_t3 131 rfl rfl
theorem gw_744 : (Cond.static ({ cls := "java/lang/StringLatin1", name := "canEncode", desc := "(I)Z" } : MethodName)) ∈ GW := gw_t3 132 rfl rfl
theorem gw_745 : (Cond.code ({ cls := "java/lang/StringLatin1", name := "canEncode", desc := "(I)Z" } : MethodName) prog_27_method_4_code (1 : Nat) (Option.some FieldType.boolean)) ∈ GW := gw_t3 133 rfl rfl
theorem gw_746 : (Cond.methodLink "java/lang/StringLatin1" (92 : Nat) ({ cls := "java/lang/Math", name := "max", desc := "(II)I" } : MethodName)) ∈ GW := gw_t3 134 rfl rfl
theorem gw_749 : (Cond.methodLink "java/lang/StringLatin1" (38 : Nat) ({ cls := "java/lang/Math", name := "min", desc := "(II)I" } : MethodName)) ∈ GW := gw_t3 137 rfl rfl
theorem gw_750 : (Cond.static ({ cls := "java/lang/Math", name := "min", desc := "(II)I" } : MethodName)) ∈ GW := gw_t3 138 rfl rfl
theorem gw_751 : (Cond.code ({ cls := "java/lang/Math", name := "min", desc := "(II)I" } : MethodName) prog_23_method_69_code (2 : Nat) (Option.some FieldType.int)) ∈ GW := gw_t3 139 rfl rfl
theorem gw_752 : (Cond.methodLink "java/lang/StringLatin1" (95 : Nat) ({ cls := "java/lang/StringLatin1", name := "indexOfChar", desc := "([BIII)I" } : MethodName)) ∈ GW := gw_t3 140 rfl rfl
theorem gw_753 : (Cond.static ({ cls := "java/lang/StringLatin1", name := "indexOfChar", desc := "([BIII)I" } : MethodName)) ∈ GW := gw_t3 141 rfl rfl
theorem gw_754 : (Cond.code ({ cls := "java/lang/StringLatin1", name := "indexOfChar", desc := "([BIII)I" } : MethodName) prog_27_method_23_code (6 : Nat) (Option.some FieldType.int)) ∈ GW := gw_t3 142 rfl rfl
theorem gw_755 : (Cond.methodLink "java/lang/String" (640 : Nat) ({ cls := "java/lang/StringUTF16", name := "indexOf", desc := "([BIII)I" } : MethodName)) ∈ GW := gw_t3 143 rfl rfl
theorem gw_756 : (Cond.static ({ cls := "java/lang/StringUTF16", name := "indexOf", desc := "([BIII)I" } : MethodName)) ∈ GW := gw_t3 144 rfl rfl
theorem gw_757 : (Cond.code ({ cls := "java/lang/StringUTF16", name := "indexOf", desc := "([BIII)I" } : MethodName) prog_28_method_40_code (4 : Nat) (Option.some FieldType.int)) ∈ GW := gw_t3 145 rfl rfl
theorem gw_758 : (Cond.methodLink "java/lang/StringUTF16" (224 : Nat) ({ cls := "java/lang/Math", name := "max", desc := "(II)I" } : MethodName)) ∈ GW := gw_t3 146 rfl rfl
theorem gw_759 : (Cond.methodLink "java/lang/StringUTF16" (183 : Nat) ({ cls := "java/lang/Math", name := "min", desc := "(II)I" } : MethodName)) ∈ GW := gw_t3 147 rfl rfl
theorem gw_761 : (Cond.methodLink "java/lang/StringUTF16" (228 : Nat) ({ cls := "java/lang/StringUTF16", name := "indexOfChar", desc := "([BIII)I" } : MethodName)) ∈ GW := gw_t3 149 rfl rfl
theorem gw_762 : (Cond.static ({ cls := "java/lang/StringUTF16", name := "indexOfChar", desc := "([BIII)I" } : MethodName)) ∈ GW := gw_t3 150 rfl rfl
theorem gw_763 : (Cond.code ({ cls := "java/lang/StringUTF16", name := "indexOfChar", desc := "([BIII)I" } : MethodName) prog_28_method_47_code (4 : Nat) (Option.some FieldType.int)) ∈ GW := gw_t3 151 rfl rfl
theorem gw_764 : (Cond.methodLink "java/lang/StringUTF16" (96 : Nat) ({ cls := "java/lang/StringUTF16", name := "checkBoundsBeginEnd", desc := "(II[B)V" } : MethodName)) ∈ GW := gw_t3 152 rfl rfl
theorem gw_765 : (Cond.static ({ cls := "java/lang/StringUTF16", name := "checkBoundsBeginEnd", desc := "(II[B)V" } : MethodName)) ∈ GW := gw_t3 153 rfl rfl
theorem gw_766 : (Cond.code ({ cls := "java/lang/StringUTF16", name := "checkBoundsBeginEnd", desc := "(II[B)V" } : MethodName) prog_28_method_93_code (3 : Nat) (Option.none : Option FieldType)) ∈ GW := gw_t3 154 rfl rfl
theorem gw_767 : (Cond.methodLink "java/lang/StringUTF16" (241 : Nat) ({ cls := "java/lang/String", name := "checkBoundsBeginEnd", desc := "(III)V" } : MethodName)) ∈ GW := gw_t3 155 rfl rfl
theorem gw_768 : (Cond.static ({ cls := "java/lang/String", name := "checkBoundsBeginEnd", desc := "(III)V" } : MethodName)) ∈ GW := gw_t3 156 rfl rfl
theorem gw_769 : (Cond.code ({ cls := "java/lang/String", name := "checkBoundsBeginEnd", desc := "(III)V" } : MethodName) prog_26_method_158_code (3 : Nat) (Option.none : Option FieldType)) ∈ GW := gw_t3 157 rfl rfl
theorem gw_770 : (Cond.methodLink "java/lang/String" (1062 : Nat) ({ cls := "jdk/internal/util/Preconditions", name := "checkFromToIndex", desc := "(IIILjava/util/function/BiFunction;)I" } : MethodName)) ∈ GW := gw_t3 158 rfl rfl
theorem gw_771 : (Cond.static ({ cls := "jdk/internal/util/Preconditions", name := "checkFromToIndex", desc := "(IIILjava/util/function/BiFunction;)I" } : MethodName)) ∈ GW := gw_t3 159 rfl rfl
theorem gw_772 : (Cond.code ({ cls := "jdk/internal/util/Preconditions", name := "checkFromToIndex", desc := "(IIILjava/util/function/BiFunction;)I" } : MethodName) prog_35_method_12_code (4 : Nat) (Option.some FieldType.int)) ∈ GW := gw_t3 160 rfl rfl
theorem gw_773 : (Cond.methodLink "java/lang/StringUTF16" (244 : Nat) ({ cls := "java/lang/StringUTF16", name := "indexOfCharUnsafe", desc := "([BIII)I" } : MethodName)) ∈ GW := gw_t3 161 rfl rfl
theorem gw_774 : (Cond.static ({ cls := "java/lang/StringUTF16", name := "indexOfCharUnsafe", desc := "([BIII)I" } : MethodName)) ∈ GW := gw_t3 162 rfl rfl
theorem gw_775 : (Cond.code ({ cls := "java/lang/StringUTF16", name := "indexOfCharUnsafe", desc := "([BIII)I" } : MethodName) prog_28_method_48_code (5 : Nat) (Option.some FieldType.int)) ∈ GW := gw_t3 163 rfl rfl
theorem gw_776 : (Cond.methodLink "java/lang/StringUTF16" (232 : Nat) ({ cls := "java/lang/StringUTF16", name := "indexOfSupplementary", desc := "([BIII)I" } : MethodName)) ∈ GW := gw_t3 164 rfl rfl
theorem gw_777 : (Cond.static ({ cls := "java/lang/StringUTF16", name := "indexOfSupplementary", desc := "([BIII)I" } : MethodName)) ∈ GW := gw_t3 165 rfl rfl
theorem gw_778 : (Cond.code ({ cls := "java/lang/StringUTF16", name := "indexOfSupplementary", desc := "([BIII)I" } : MethodName) prog_28_method_49_code (7 : Nat) (Option.some FieldType.int)) ∈ GW := gw_t3 166 rfl rfl
theorem gw_779 : (Cond.methodLink "java/lang/StringUTF16" (164 : Nat) ({ cls := "java/lang/Character", name := "isValidCodePoint", desc := "(I)Z" } : MethodName)) ∈ GW := gw_t3 167 rfl rfl
theorem gw_780 : (Cond.static ({ cls := "java/lang/Character", name := "isValidCodePoint", desc := "(I)Z" } : MethodName)) ∈ GW := gw_t3 168 rfl rfl
theorem gw_781 : (Cond.code ({ cls := "java/lang/Character", name := "isValidCodePoint", desc := "(I)Z" } : MethodName) prog_15_method_11_code (2 : Nat) (Option.some FieldType.boolean)) ∈ GW := gw_t3 169 rfl rfl
theorem gw_782 : (Cond.methodLink "java/lang/StringUTF16" (157 : Nat) ({ cls := "java/lang/Character", name := "highSurrogate", desc := "(I)C" } : MethodName)) ∈ GW := gw_t3 170 rfl rfl
theorem gw_783 : (Cond.static ({ cls := "java/lang/Character", name := "highSurrogate", desc := "(I)C" } : MethodName)) ∈ GW := gw_t3 171 rfl rfl
theorem gw_784 : (Cond.code ({ cls := "java/lang/Character", name := "highSurrogate", desc := "(I)C" } : MethodName) prog_15_method_28_code (1 : Nat) (Option.some FieldType.char)) ∈ GW := gw_t3 172 rfl rfl
theorem gw_786 : (Cond.methodLink "java/lang/StringUTF16" (161 : Nat) ({ cls := "java/lang/Character", name := "lowSurrogate", desc := "(I)C" } : MethodName)) ∈ GW := gw_t3 174 rfl rfl
theorem gw_787 : (Cond.static ({ cls := "java/lang/Character", name := "lowSurrogate", desc := "(I)C" } : MethodName)) ∈ GW := gw_t3 175 rfl rfl
theorem gw_788 : (Cond.code ({ cls := "java/lang/Character", name := "lowSurrogate", desc := "(I)C" } : MethodName) prog_15_method_29_code (1 : Nat) (Option.some FieldType.char)) ∈ GW := gw_t3 176 rfl rfl
theorem gw_1076 : (Cond.methodLink "CartPaths" (223 : Nat) ({ cls := "java/lang/Long", name := "bitCount", desc := "(J)I" } : MethodName)) ∈ GW := gw_t4 224 rfl rfl
theorem gw_1077 : (Cond.static ({ cls := "java/lang/Long", name := "bitCount", desc := "(J)I" } : MethodName)) ∈ GW := gw_t4 225 rfl rfl
theorem gw_1078 : (Cond.code ({ cls := "java/lang/Long", name := "bitCount", desc := "(J)I" } : MethodName) prog_22_method_50_code (2 : Nat) (Option.some FieldType.int)) ∈ GW := gw_t4 226 rfl rfl
theorem gw_1301 : (Cond.methodLink "CartPaths$Stop" (18 : Nat) ({ cls := "java/util/Arrays", name := "fill", desc := "([II)V" } : MethodName)) ∈ GW := gw_t5 209 rfl rfl
theorem gw_1472 : (Cond.methodLink "CartPaths" (400 : Nat) ({ cls := "java/lang/String", name := "charAt", desc := "(I)C" } : MethodName)) ∈ GW := gw_t6 140 rfl rfl
theorem gw_1683 : (Cond.methodLink "CartPathsModel" (138 : Nat) ({ cls := "java/lang/String", name := "length", desc := "()I" } : MethodName)) ∈ GW := gw_t7 111 rfl rfl
theorem gw_1684 : (Cond.methodLink "CartPathsModel" (143 : Nat) ({ cls := "java/lang/String", name := "charAt", desc := "(I)C" } : MethodName)) ∈ GW := gw_t7 112 rfl rfl
theorem gw_1981 : (Cond.methodLink "CartPathsModel" (360 : Nat) ({ cls := "java/lang/Float", name := "floatToIntBits", desc := "(F)I" } : MethodName)) ∈ GW := gw_t8 169 rfl rfl
theorem gw_1982 : (Cond.static ({ cls := "java/lang/Float", name := "floatToIntBits", desc := "(F)I" } : MethodName)) ∈ GW := gw_t8 170 rfl rfl
theorem gw_1983 : (Cond.code ({ cls := "java/lang/Float", name := "floatToIntBits", desc := "(F)I" } : MethodName) prog_18_method_24_code (1 : Nat) (Option.some FieldType.int)) ∈ GW := gw_t8 171 rfl rfl
theorem gw_1984 : (Cond.methodLink "java/lang/Float" (59 : Nat) ({ cls := "java/lang/Float", name := "isNaN", desc := "(F)Z" } : MethodName)) ∈ GW := gw_t8 172 rfl rfl
theorem gw_1985 : (Cond.static ({ cls := "java/lang/Float", name := "isNaN", desc := "(F)Z" } : MethodName)) ∈ GW := gw_t8 173 rfl rfl
theorem gw_1986 : (Cond.code ({ cls := "java/lang/Float", name := "isNaN", desc := "(F)Z" } : MethodName) prog_18_method_6_code (1 : Nat) (Option.some FieldType.boolean)) ∈ GW := gw_t8 174 rfl rfl
theorem ok_J0_charAt_5068e : okY miJ0_charAt_5068e = true := by decide +kernel
theorem ok_J0_checkBoundsBeginEnd_23922 : okY miJ0_checkBoundsBeginEnd_23922 = true := by decide +kernel
theorem ok_J0_checkIndex_df160 : okY miJ0_checkIndex_df160 = true := by decide +kernel
theorem ok_J0_coder_7d493 : okY miJ0_coder_7d493 = true := by decide +kernel
theorem ok_J0_indexOf_0f7a4 : okY miJ0_indexOf_0f7a4 = true := by decide +kernel
theorem ok_J0_indexOf_7cf53 : okY miJ0_indexOf_7cf53 = true := by decide +kernel
theorem ok_J0_isLatin1_aae02 : okY miJ0_isLatin1_aae02 = true := by decide +kernel
theorem ok_J0_length_8abf5 : okY miJ0_length_8abf5 = true := by decide +kernel
theorem ok_J11_highSurrogate_5068e : okY miJ11_highSurrogate_5068e = true := by decide +kernel
theorem ok_J11_isValidCodePoint_9a6ad : okY miJ11_isValidCodePoint_9a6ad = true := by decide +kernel
theorem ok_J11_lowSurrogate_5068e : okY miJ11_lowSurrogate_5068e = true := by decide +kernel
theorem ok_J13_bitCount_95d88 : okY miJ13_bitCount_95d88 = true := by decide +kernel
theorem ok_J1_canEncode_9a6ad : okY miJ1_canEncode_9a6ad = true := by decide +kernel
theorem ok_J1_charAt_3b067 : okY miJ1_charAt_3b067 = true := by decide +kernel
theorem ok_J1_indexOfChar_4cfef : okY miJ1_indexOfChar_4cfef = true := by decide +kernel
theorem ok_J1_indexOf_4cfef : okY miJ1_indexOf_4cfef = true := by decide +kernel
theorem ok_J2_charAt_3b067 : okY miJ2_charAt_3b067 = true := by decide +kernel
theorem ok_J2_checkBoundsBeginEnd_d044e : okY miJ2_checkBoundsBeginEnd_d044e = true := by decide +kernel
theorem ok_J2_checkIndex_2214a : okY miJ2_checkIndex_2214a = true := by decide +kernel
theorem ok_J2_getChar_3b067 : okY miJ2_getChar_3b067 = true := by decide +kernel
theorem ok_J2_indexOfCharUnsafe_4cfef : okY miJ2_indexOfCharUnsafe_4cfef = true := by decide +kernel
theorem ok_J2_indexOfChar_4cfef : okY miJ2_indexOfChar_4cfef = true := by decide +kernel
theorem ok_J2_indexOfSupplementary_4cfef : okY miJ2_indexOfSupplementary_4cfef = true := by decide +kernel
theorem ok_J2_indexOf_4cfef : okY miJ2_indexOf_4cfef = true := by decide +kernel
theorem ok_J2_length_9d52b : okY miJ2_length_9d52b = true := by decide +kernel
theorem ok_J3_checkFromToIndex_8c36e : okY miJ3_checkFromToIndex_8c36e = true := by decide +kernel
theorem ok_J3_checkIndex_8e157 : okY miJ3_checkIndex_8e157 = true := by decide +kernel
theorem ok_J7_fill_53178 : okY miJ7_fill_53178 = true := by decide +kernel
theorem ok_J7_fill_d0a16 : okY miJ7_fill_d0a16 = true := by decide +kernel
theorem ok_J9_abs_0f7a4 : okY miJ9_abs_0f7a4 = true := by decide +kernel
theorem ok_J9_max_7cf53 : okY miJ9_max_7cf53 = true := by decide +kernel
theorem ok_J9_min_7cf53 : okY miJ9_min_7cf53 = true := by decide +kernel
theorem ok_Jxf58ca_floatToIntBits_5c35a : okY miJxf58ca_floatToIntBits_5c35a = true := by decide +kernel
theorem ok_Jxf58ca_isNaN_12338 : okY miJxf58ca_isNaN_12338 = true := by decide +kernel
theorem cs_X2_41 : CS RX2 41 miJ7_fill_53178 := ⟨gw_658, gw_660, gw_143, gw_659, ok_J7_fill_53178⟩
theorem cs_X3_21 : CS RX3 21 miJ7_fill_d0a16 := ⟨gw_562, gw_564, gw_143, gw_563, ok_J7_fill_d0a16⟩
theorem cs_X4_18 : CS RX4 18 miJ7_fill_53178 := ⟨gw_1301, gw_660, gw_143, gw_659, ok_J7_fill_53178⟩
theorem cs_X4_34 : CS RX4 34 miJ9_max_7cf53 := ⟨gw_1303, gw_748, gw_148, gw_747, ok_J9_max_7cf53⟩
theorem cs_X5_75 : CV RX5 75 miJ0_length_8abf5 := ⟨gw_678, gw_681, gw_144, gw_679, gw_680, ok_J0_length_8abf5⟩
theorem cs_X5_80 : CV RX5 80 miJ0_charAt_5068e := ⟨gw_688, gw_691, gw_144, gw_689, gw_690, ok_J0_charAt_5068e⟩
theorem cs_X5_86 : CV RX5 86 miJ0_indexOf_0f7a4 := ⟨gw_731, gw_734, gw_144, gw_732, gw_733, ok_J0_indexOf_0f7a4⟩
theorem cs_X8_70 : CS RX8 70 miJ9_abs_0f7a4 := ⟨gw_1353, gw_1355, gw_148, gw_1354, ok_J9_abs_0f7a4⟩
theorem cs_X9_223 : CS RX9 223 miJ13_bitCount_95d88 := ⟨gw_1076, gw_1078, gw_159, gw_1077, ok_J13_bitCount_95d88⟩
theorem cs_X9_400 : CV RX9 400 miJ0_charAt_5068e := ⟨gw_1472, gw_691, gw_144, gw_689, gw_690, ok_J0_charAt_5068e⟩
theorem cs_X10_138 : CV RX10 138 miJ0_length_8abf5 := ⟨gw_1683, gw_681, gw_144, gw_679, gw_680, ok_J0_length_8abf5⟩
theorem cs_X10_143 : CV RX10 143 miJ0_charAt_5068e := ⟨gw_1684, gw_691, gw_144, gw_689, gw_690, ok_J0_charAt_5068e⟩
theorem cs_X10_360 : CS RX10 360 miJxf58ca_floatToIntBits_5c35a := ⟨gw_1981, gw_1983, gw_161, gw_1982, ok_Jxf58ca_floatToIntBits_5c35a⟩
theorem cs_Jxf58ca_59 : CS RJxf58ca 59 miJxf58ca_isNaN_12338 := ⟨gw_1984, gw_1986, gw_161, gw_1985, ok_Jxf58ca_isNaN_12338⟩
theorem cs_J0_335 : CV RJ0 335 miJ0_coder_7d493 := ⟨gw_682, gw_685, gw_144, gw_683, gw_684, ok_J0_coder_7d493⟩
theorem cs_J0_492 : CV RJ0 492 miJ0_isLatin1_aae02 := ⟨gw_692, gw_695, gw_144, gw_693, gw_694, ok_J0_isLatin1_aae02⟩
theorem cs_J0_495 : CS RJ0 495 miJ1_charAt_3b067 := ⟨gw_696, gw_698, gw_145, gw_697, ok_J1_charAt_3b067⟩
theorem cs_J0_498 : CS RJ0 498 miJ2_charAt_3b067 := ⟨gw_707, gw_709, gw_147, gw_708, ok_J2_charAt_3b067⟩
theorem cs_J0_633 : CV RJ0 633 miJ0_indexOf_7cf53 := ⟨gw_735, gw_738, gw_144, gw_736, gw_737, ok_J0_indexOf_7cf53⟩
theorem cs_J0_505 : CV RJ0 505 miJ0_length_8abf5 := ⟨gw_739, gw_681, gw_144, gw_679, gw_680, ok_J0_length_8abf5⟩
theorem cs_J0_637 : CS RJ0 637 miJ1_indexOf_4cfef := ⟨gw_740, gw_742, gw_145, gw_741, ok_J1_indexOf_4cfef⟩
theorem cs_J0_640 : CS RJ0 640 miJ2_indexOf_4cfef := ⟨gw_755, gw_757, gw_147, gw_756, ok_J2_indexOf_4cfef⟩
theorem cs_J0_1059 : CS RJ0 1059 miJ3_checkIndex_8e157 := ⟨gw_704, gw_706, gw_146, gw_705, ok_J3_checkIndex_8e157⟩
theorem cs_J0_1062 : CS RJ0 1062 miJ3_checkFromToIndex_8c36e := ⟨gw_770, gw_772, gw_146, gw_771, ok_J3_checkFromToIndex_8c36e⟩
theorem cs_J1_9 : CS RJ1 9 miJ0_checkIndex_df160 := ⟨gw_699, gw_701, gw_144, gw_700, ok_J0_checkIndex_df160⟩
theorem cs_J1_88 : CS RJ1 88 miJ1_canEncode_9a6ad := ⟨gw_743, gw_745, gw_145, gw_744, ok_J1_canEncode_9a6ad⟩
theorem cs_J1_92 : CS RJ1 92 miJ9_max_7cf53 := ⟨gw_746, gw_748, gw_148, gw_747, ok_J9_max_7cf53⟩
theorem cs_J1_38 : CS RJ1 38 miJ9_min_7cf53 := ⟨gw_749, gw_751, gw_148, gw_750, ok_J9_min_7cf53⟩
theorem cs_J1_95 : CS RJ1 95 miJ1_indexOfChar_4cfef := ⟨gw_752, gw_754, gw_145, gw_753, ok_J1_indexOfChar_4cfef⟩
theorem cs_J2_48 : CS RJ2 48 miJ2_length_9d52b := ⟨gw_713, gw_715, gw_147, gw_714, ok_J2_length_9d52b⟩
theorem cs_J2_224 : CS RJ2 224 miJ9_max_7cf53 := ⟨gw_758, gw_748, gw_148, gw_747, ok_J9_max_7cf53⟩
theorem cs_J2_183 : CS RJ2 183 miJ9_min_7cf53 := ⟨gw_759, gw_751, gw_148, gw_750, ok_J9_min_7cf53⟩
theorem cs_J2_228 : CS RJ2 228 miJ2_indexOfChar_4cfef := ⟨gw_761, gw_763, gw_147, gw_762, ok_J2_indexOfChar_4cfef⟩
theorem cs_J2_232 : CS RJ2 232 miJ2_indexOfSupplementary_4cfef := ⟨gw_776, gw_778, gw_147, gw_777, ok_J2_indexOfSupplementary_4cfef⟩
theorem cs_J2_96 : CS RJ2 96 miJ2_checkBoundsBeginEnd_d044e := ⟨gw_764, gw_766, gw_147, gw_765, ok_J2_checkBoundsBeginEnd_d044e⟩
theorem cs_J2_244 : CS RJ2 244 miJ2_indexOfCharUnsafe_4cfef := ⟨gw_773, gw_775, gw_147, gw_774, ok_J2_indexOfCharUnsafe_4cfef⟩
theorem cs_J2_71 : CS RJ2 71 miJ2_getChar_3b067 := ⟨gw_717, gw_719, gw_147, gw_718, ok_J2_getChar_3b067⟩
theorem cs_J2_164 : CS RJ2 164 miJ11_isValidCodePoint_9a6ad := ⟨gw_779, gw_781, gw_149, gw_780, ok_J11_isValidCodePoint_9a6ad⟩
theorem cs_J2_157 : CS RJ2 157 miJ11_highSurrogate_5068e := ⟨gw_782, gw_784, gw_149, gw_783, ok_J11_highSurrogate_5068e⟩
theorem cs_J2_161 : CS RJ2 161 miJ11_lowSurrogate_5068e := ⟨gw_786, gw_788, gw_149, gw_787, ok_J11_lowSurrogate_5068e⟩
theorem cs_J2_67 : CS RJ2 67 miJ2_checkIndex_2214a := ⟨gw_710, gw_712, gw_147, gw_711, ok_J2_checkIndex_2214a⟩
theorem cs_J2_414 : CS RJ2 414 miJ0_checkIndex_df160 := ⟨gw_716, gw_701, gw_144, gw_700, ok_J0_checkIndex_df160⟩
theorem cs_J2_241 : CS RJ2 241 miJ0_checkBoundsBeginEnd_23922 := ⟨gw_767, gw_769, gw_144, gw_768, ok_J0_checkBoundsBeginEnd_23922⟩
