theorem cd_l {A : Array Value} {s : State} {a b : Cond} (h : (Cond.and a b).before A s = true) : a.before A s = true := by rw [Cond.before_and, Bool.and_eq_true] at h; exact h.1
theorem cd_r {A : Array Value} {s : State} {a b : Cond} (h : (Cond.and a b).before A s = true) : b.before A s = true := by rw [Cond.before_and, Bool.and_eq_true] at h; exact h.2
def fn_tm (i : Nat) : Term := Term.string "FootNotes$Reader" (fn_strs.getD i (0, "")).1
set_option maxHeartbeats 4000000 in
set_option maxRecDepth 100000 in
theorem fn_old {s : State} {b : Nat} {A : Nat → Prop} (h : (Jvm.Cond.and given_1 narrow_1).before #[Value.ref b] s = true) (hT : ∀ w ∈ tables_1, w.before #[Value.ref b] s = true) (hA : ∀ a : Nat, a < s.heap.size → ¬ A a) : ∃ adK adV : Nat → Nat, fn_O adK adV A s s.heap := by
  have h0 := cd_r h
  have r0 := cd_r h0
  have r1 := cd_r r0
  have r2 := cd_r r1
  have r3 := cd_r r2
  have r4 := cd_r r3
  have r5 := cd_r r4
  have r6 := cd_r r5
  have r7 := cd_r r6
  have l7 := cd_l r6
  clear r6
  have l6 := cd_l r5
  clear r5
  have l5 := cd_l r4
  clear r4
  have r8 := cd_r l5
  have r9 := cd_r r8
  have l9 := cd_l r8
  clear r8
  have l8 := cd_l l5
  clear l5
  have l4 := cd_l r3
  clear r3
  have r10 := cd_r l4
  have r11 := cd_r r10
  have r12 := cd_r r11
  have l12 := cd_l r11
  clear r11
  have l11 := cd_l r10
  clear r10
  have l10 := cd_l l4
  clear l4
  have r13 := cd_r l10
  have r14 := cd_r r13
  have l14 := cd_l r13
  clear r13
  have l13 := cd_l l10
  clear l10
  have l3 := cd_l r2
  clear r2
  have r15 := cd_r l3
  have r16 := cd_r r15
  have r17 := cd_r r16
  have r18 := cd_r r17
  have l18 := cd_l r17
  clear r17
  have l17 := cd_l r16
  clear r16
  have l16 := cd_l r15
  clear r15
  have r19 := cd_r l16
  have r20 := cd_r r19
  have l20 := cd_l r19
  clear r19
  have l19 := cd_l l16
  clear l16
  have l15 := cd_l l3
  clear l3
  have r21 := cd_r l15
  have r22 := cd_r r21
  have r23 := cd_r r22
  have l23 := cd_l r22
  clear r22
  have l22 := cd_l r21
  clear r21
  have l21 := cd_l l15
  clear l15
  have r24 := cd_r l21
  have r25 := cd_r r24
  have l25 := cd_l r24
  clear r24
  have l24 := cd_l l21
  clear l21
  have l2 := cd_l r1
  clear r1
  have r26 := cd_r l2
  have r27 := cd_r r26
  have r28 := cd_r r27
  have r29 := cd_r r28
  have r30 := cd_r r29
  have l30 := cd_l r29
  clear r29
  have l29 := cd_l r28
  clear r28
  have l28 := cd_l r27
  clear r27
  have r31 := cd_r l28
  have r32 := cd_r r31
  have l32 := cd_l r31
  clear r31
  have l31 := cd_l l28
  clear l28
  have l27 := cd_l r26
  clear r26
  have r33 := cd_r l27
  have r34 := cd_r r33
  have r35 := cd_r r34
  have l35 := cd_l r34
  clear r34
  have l34 := cd_l r33
  clear r33
  have l33 := cd_l l27
  clear l27
  have r36 := cd_r l33
  have r37 := cd_r r36
  have l37 := cd_l r36
  clear r36
  have l36 := cd_l l33
  clear l33
  have l26 := cd_l l2
  clear l2
  have r38 := cd_r l26
  have r39 := cd_r r38
  have r40 := cd_r r39
  have r41 := cd_r r40
  have l41 := cd_l r40
  clear r40
  have l40 := cd_l r39
  clear r39
  have l39 := cd_l r38
  clear r38
  have r42 := cd_r l39
  have r43 := cd_r r42
  have l43 := cd_l r42
  clear r42
  have l42 := cd_l l39
  clear l39
  have l38 := cd_l l26
  clear l26
  have r44 := cd_r l38
  have r45 := cd_r r44
  have r46 := cd_r r45
  have l46 := cd_l r45
  clear r45
  have l45 := cd_l r44
  clear r44
  have l44 := cd_l l38
  clear l38
  have r47 := cd_r l44
  have r48 := cd_r r47
  have l48 := cd_l r47
  clear r47
  have l47 := cd_l l44
  clear l44
  have l1 := cd_l r0
  clear r0
  have r49 := cd_r l1
  have r50 := cd_r r49
  have r51 := cd_r r50
  have r52 := cd_r r51
  have r53 := cd_r r52
  have r54 := cd_r r53
  have l54 := cd_l r53
  clear r53
  have l53 := cd_l r52
  clear r52
  have l52 := cd_l r51
  clear r51
  have r55 := cd_r l52
  have r56 := cd_r r55
  have l56 := cd_l r55
  clear r55
  have l55 := cd_l l52
  clear l52
  have l51 := cd_l r50
  clear r50
  have r57 := cd_r l51
  have r58 := cd_r r57
  have r59 := cd_r r58
  have l59 := cd_l r58
  clear r58
  have l58 := cd_l r57
  clear r57
  have l57 := cd_l l51
  clear l51
  have r60 := cd_r l57
  have r61 := cd_r r60
  have l61 := cd_l r60
  clear r60
  have l60 := cd_l l57
  clear l57
  have l50 := cd_l r49
  clear r49
  have r62 := cd_r l50
  have r63 := cd_r r62
  have r64 := cd_r r63
  have r65 := cd_r r64
  have l65 := cd_l r64
  clear r64
  have l64 := cd_l r63
  clear r63
  have l63 := cd_l r62
  clear r62
  have r66 := cd_r l63
  have r67 := cd_r r66
  have l67 := cd_l r66
  clear r66
  have l66 := cd_l l63
  clear l63
  have l62 := cd_l l50
  clear l50
  have r68 := cd_r l62
  have r69 := cd_r r68
  have r70 := cd_r r69
  have l70 := cd_l r69
  clear r69
  have l69 := cd_l r68
  clear r68
  have l68 := cd_l l62
  clear l62
  have r71 := cd_r l68
  have r72 := cd_r r71
  have l72 := cd_l r71
  clear r71
  have l71 := cd_l l68
  clear l68
  have l49 := cd_l l1
  clear l1
  have r73 := cd_r l49
  have r74 := cd_r r73
  have r75 := cd_r r74
  have r76 := cd_r r75
  have r77 := cd_r r76
  have l77 := cd_l r76
  clear r76
  have l76 := cd_l r75
  clear r75
  have l75 := cd_l r74
  clear r74
  have r78 := cd_r l75
  have r79 := cd_r r78
  have l79 := cd_l r78
  clear r78
  have l78 := cd_l l75
  clear l75
  have l74 := cd_l r73
  clear r73
  have r80 := cd_r l74
  have r81 := cd_r r80
  have r82 := cd_r r81
  have l82 := cd_l r81
  clear r81
  have l81 := cd_l r80
  clear r80
  have l80 := cd_l l74
  clear l74
  have r83 := cd_r l80
  have r84 := cd_r r83
  have l84 := cd_l r83
  clear r83
  have l83 := cd_l l80
  clear l80
  have l73 := cd_l l49
  clear l49
  have r85 := cd_r l73
  have r86 := cd_r r85
  have r87 := cd_r r86
  have r88 := cd_r r87
  have l88 := cd_l r87
  clear r87
  have l87 := cd_l r86
  clear r86
  have l86 := cd_l r85
  clear r85
  have r89 := cd_r l86
  have r90 := cd_r r89
  have l90 := cd_l r89
  clear r89
  have l89 := cd_l l86
  clear l86
  have l85 := cd_l l73
  clear l73
  have r91 := cd_r l85
  have r92 := cd_r r91
  have r93 := cd_r r92
  have l93 := cd_l r92
  clear r92
  have l92 := cd_l r91
  clear r91
  have l91 := cd_l l85
  clear l85
  have r94 := cd_r l91
  have l94 := cd_l l91
  clear l91
  have l0 := cd_l h0
  clear h0
  have r95 := cd_r l0
  have r96 := cd_r r95
  have r97 := cd_r r96
  have r98 := cd_r r97
  have r99 := cd_r r98
  have r100 := cd_r r99
  have r101 := cd_r r100
  have l101 := cd_l r100
  clear r100
  have l100 := cd_l r99
  clear r99
  have l99 := cd_l r98
  clear r98
  have r102 := cd_r l99
  have r103 := cd_r r102
  have l103 := cd_l r102
  clear r102
  have l102 := cd_l l99
  clear l99
  have l98 := cd_l r97
  clear r97
  have r104 := cd_r l98
  have r105 := cd_r r104
  have r106 := cd_r r105
  have l106 := cd_l r105
  clear r105
  have l105 := cd_l r104
  clear r104
  have l104 := cd_l l98
  clear l98
  have r107 := cd_r l104
  have r108 := cd_r r107
  have l108 := cd_l r107
  clear r107
  have l107 := cd_l l104
  clear l104
  have l97 := cd_l r96
  clear r96
  have r109 := cd_r l97
  have r110 := cd_r r109
  have r111 := cd_r r110
  have r112 := cd_r r111
  have l112 := cd_l r111
  clear r111
  have l111 := cd_l r110
  clear r110
  have l110 := cd_l r109
  clear r109
  have r113 := cd_r l110
  have r114 := cd_r r113
  have l114 := cd_l r113
  clear r113
  have l113 := cd_l l110
  clear l110
  have l109 := cd_l l97
  clear l97
  have r115 := cd_r l109
  have r116 := cd_r r115
  have r117 := cd_r r116
  have l117 := cd_l r116
  clear r116
  have l116 := cd_l r115
  clear r115
  have l115 := cd_l l109
  clear l109
  have r118 := cd_r l115
  have r119 := cd_r r118
  have l119 := cd_l r118
  clear r118
  have l118 := cd_l l115
  clear l115
  have l96 := cd_l r95
  clear r95
  have r120 := cd_r l96
  have r121 := cd_r r120
  have r122 := cd_r r121
  have r123 := cd_r r122
  have r124 := cd_r r123
  have l124 := cd_l r123
  clear r123
  have l123 := cd_l r122
  clear r122
  have l122 := cd_l r121
  clear r121
  have r125 := cd_r l122
  have r126 := cd_r r125
  have l126 := cd_l r125
  clear r125
  have l125 := cd_l l122
  clear l122
  have l121 := cd_l r120
  clear r120
  have r127 := cd_r l121
  have r128 := cd_r r127
  have r129 := cd_r r128
  have l129 := cd_l r128
  clear r128
  have l128 := cd_l r127
  clear r127
  have l127 := cd_l l121
  clear l121
  have r130 := cd_r l127
  have r131 := cd_r r130
  have l131 := cd_l r130
  clear r130
  have l130 := cd_l l127
  clear l127
  have l120 := cd_l l96
  clear l96
  have r132 := cd_r l120
  have r133 := cd_r r132
  have r134 := cd_r r133
  have r135 := cd_r r134
  have l135 := cd_l r134
  clear r134
  have l134 := cd_l r133
  clear r133
  have l133 := cd_l r132
  clear r132
  have r136 := cd_r l133
  have r137 := cd_r r136
  have l137 := cd_l r136
  clear r136
  have l136 := cd_l l133
  clear l133
  have l132 := cd_l l120
  clear l120
  have r138 := cd_r l132
  have r139 := cd_r r138
  have r140 := cd_r r139
  have l140 := cd_l r139
  clear r139
  have l139 := cd_l r138
  clear r138
  have l138 := cd_l l132
  clear l132
  have r141 := cd_r l138
  have l141 := cd_l l138
  clear l138
  have l95 := cd_l l0
  clear l0
  have r142 := cd_r l95
  have r143 := cd_r r142
  have r144 := cd_r r143
  have r145 := cd_r r144
  have r146 := cd_r r145
  have r147 := cd_r r146
  have l147 := cd_l r146
  clear r146
  have l146 := cd_l r145
  clear r145
  have l145 := cd_l r144
  clear r144
  have r148 := cd_r l145
  have r149 := cd_r r148
  have l149 := cd_l r148
  clear r148
  have l148 := cd_l l145
  clear l145
  have l144 := cd_l r143
  clear r143
  have r150 := cd_r l144
  have r151 := cd_r r150
  have r152 := cd_r r151
  have l152 := cd_l r151
  clear r151
  have l151 := cd_l r150
  clear r150
  have l150 := cd_l l144
  clear l144
  have r153 := cd_r l150
  have r154 := cd_r r153
  have l154 := cd_l r153
  clear r153
  have l153 := cd_l l150
  clear l150
  have l143 := cd_l r142
  clear r142
  have r155 := cd_r l143
  have r156 := cd_r r155
  have r157 := cd_r r156
  have r158 := cd_r r157
  have l158 := cd_l r157
  clear r157
  have l157 := cd_l r156
  clear r156
  have l156 := cd_l r155
  clear r155
  have r159 := cd_r l156
  have r160 := cd_r r159
  have l160 := cd_l r159
  clear r159
  have l159 := cd_l l156
  clear l156
  have l155 := cd_l l143
  clear l143
  have r161 := cd_r l155
  have r162 := cd_r r161
  have r163 := cd_r r162
  have l163 := cd_l r162
  clear r162
  have l162 := cd_l r161
  clear r161
  have l161 := cd_l l155
  clear l155
  have r164 := cd_r l161
  have r165 := cd_r r164
  have l165 := cd_l r164
  clear r164
  have l164 := cd_l l161
  clear l161
  have l142 := cd_l l95
  clear l95
  have r166 := cd_r l142
  have r167 := cd_r r166
  have r168 := cd_r r167
  have r169 := cd_r r168
  have r170 := cd_r r169
  have l170 := cd_l r169
  clear r169
  have l169 := cd_l r168
  clear r168
  have l168 := cd_l r167
  clear r167
  have r171 := cd_r l168
  have r172 := cd_r r171
  have l172 := cd_l r171
  clear r171
  have l171 := cd_l l168
  clear l168
  have l167 := cd_l r166
  clear r166
  have r173 := cd_r l167
  have r174 := cd_r r173
  have r175 := cd_r r174
  have l175 := cd_l r174
  clear r174
  have l174 := cd_l r173
  clear r173
  have l173 := cd_l l167
  clear l167
  have r176 := cd_r l173
  have r177 := cd_r r176
  have l177 := cd_l r176
  clear r176
  have l176 := cd_l l173
  clear l173
  have l166 := cd_l l142
  clear l142
  have r178 := cd_r l166
  have r179 := cd_r r178
  have r180 := cd_r r179
  have r181 := cd_r r180
  have l181 := cd_l r180
  clear r180
  have l180 := cd_l r179
  clear r179
  have l179 := cd_l r178
  clear r178
  have r182 := cd_r l179
  have r183 := cd_r r182
  have l183 := cd_l r182
  clear r182
  have l182 := cd_l l179
  clear l179
  have l178 := cd_l l166
  clear l166
  have r184 := cd_r l178
  have r185 := cd_r r184
  have r186 := cd_r r185
  have l186 := cd_l r185
  clear r185
  have l185 := cd_l r184
  clear r184
  have l184 := cd_l l178
  clear l178
  have r187 := cd_r l184
  have l187 := cd_l l184
  clear l184
  have hex : ∀ i : Nat, i < 11 → (Cond.exactly (fn_tm i) "java/lang/String").before #[Value.ref b] s = true := by
    intro i hi
    rcases (show i = 0 ∨ i = 1 ∨ i = 2 ∨ i = 3 ∨ i = 4 ∨ i = 5 ∨ i = 6 ∨ i = 7 ∨ i = 8 ∨ i = 9 ∨ i = 10 by omega) with rfl | rfl | rfl | rfl | rfl | rfl | rfl | rfl | rfl | rfl | rfl
    · exact r147
    · exact r137
    · exact l125
    · exact l117
    · exact l105
    · exact r93
    · exact l82
    · exact l66
    · exact l56
    · exact l37
    · exact l19
  have hco : ∀ i : Nat, i < 11 → (Cond.eq (.field (fn_tm i) "java/lang/String" "coder" "B") (.int 0)).before #[Value.ref b] s = true := by
    intro i hi
    rcases (show i = 0 ∨ i = 1 ∨ i = 2 ∨ i = 3 ∨ i = 4 ∨ i = 5 ∨ i = 6 ∨ i = 7 ∨ i = 8 ∨ i = 9 ∨ i = 10 by omega) with rfl | rfl | rfl | rfl | rfl | rfl | rfl | rfl | rfl | rfl | rfl
    · exact l141
    · exact l134
    · exact l126
    · exact r117
    · exact l106
    · exact l89
    · exact r82
    · exact l67
    · exact r56
    · exact r37
    · exact l20
  have har : ∀ i : Nat, i < 11 → (Cond.arrayOf (.field (fn_tm i) "java/lang/String" "value" "[B") .byte).before #[Value.ref b] s = true := by
    intro i hi
    rcases (show i = 0 ∨ i = 1 ∨ i = 2 ∨ i = 3 ∨ i = 4 ∨ i = 5 ∨ i = 6 ∨ i = 7 ∨ i = 8 ∨ i = 9 ∨ i = 10 by omega) with rfl | rfl | rfl | rfl | rfl | rfl | rfl | rfl | rfl | rfl | rfl
    · exact r141
    · exact l135
    · exact r126
    · exact l113
    · exact r106
    · exact l90
    · exact l78
    · exact r67
    · exact l53
    · exact l34
    · exact r20
  have hle : ∀ i : Nat, i < 11 → (Cond.eq (.length (.field (fn_tm i) "java/lang/String" "value" "[B")) (.int (Int32.ofNat (fn_len.getD i 0)))).before #[Value.ref b] s = true := by
    intro i hi
    rcases (show i = 0 ∨ i = 1 ∨ i = 2 ∨ i = 3 ∨ i = 4 ∨ i = 5 ∨ i = 6 ∨ i = 7 ∨ i = 8 ∨ i = 9 ∨ i = 10 by omega) with rfl | rfl | rfl | rfl | rfl | rfl | rfl | rfl | rfl | rfl | rfl
    · exact l139
    · exact r135
    · exact l123
    · exact l114
    · exact l102
    · exact r90
    · exact l79
    · exact l64
    · exact l54
    · exact l35
    · exact l17
  have hel : ∀ i : Nat, i < 11 → ∀ j : Nat, j < fn_len.getD i 0 → (Cond.eq (.elem (.field (fn_tm i) "java/lang/String" "value" "[B") (.int (Int32.ofNat j))) (.int ((fn_byt.getD i []).getD j 0))).before #[Value.ref b] s = true := by
    intro i hi
    rcases (show i = 0 ∨ i = 1 ∨ i = 2 ∨ i = 3 ∨ i = 4 ∨ i = 5 ∨ i = 6 ∨ i = 7 ∨ i = 8 ∨ i = 9 ∨ i = 10 by omega) with rfl | rfl | rfl | rfl | rfl | rfl | rfl | rfl | rfl | rfl | rfl
    · intro j hj
      have hj : j < 4 := hj
      rcases (show j = 0 ∨ j = 1 ∨ j = 2 ∨ j = 3 by omega) with rfl | rfl | rfl | rfl
      · exact l140
      · exact r140
      · exact l136
      · exact l137
    · intro j hj
      have hj : j < 5 := hj
      rcases (show j = 0 ∨ j = 1 ∨ j = 2 ∨ j = 3 ∨ j = 4 by omega) with rfl | rfl | rfl | rfl | rfl
      · exact l130
      · exact l131
      · exact r131
      · exact l128
      · exact l129
    · intro j hj
      have hj : j < 4 := hj
      rcases (show j = 0 ∨ j = 1 ∨ j = 2 ∨ j = 3 by omega) with rfl | rfl | rfl | rfl
      · exact l124
      · exact r124
      · exact l118
      · exact l119
    · intro j hj
      have hj : j < 4 := hj
      rcases (show j = 0 ∨ j = 1 ∨ j = 2 ∨ j = 3 by omega) with rfl | rfl | rfl | rfl
      · exact r114
      · exact l111
      · exact l112
      · exact r112
    · intro j hj
      have hj : j < 5 := hj
      rcases (show j = 0 ∨ j = 1 ∨ j = 2 ∨ j = 3 ∨ j = 4 by omega) with rfl | rfl | rfl | rfl | rfl
      · exact l103
      · exact r103
      · exact l100
      · exact l101
      · exact r101
    · intro j hj
      have hj : j < 2 := hj
      rcases (show j = 0 ∨ j = 1 by omega) with rfl | rfl
      · exact l87
      · exact l88
    · intro j hj
      have hj : j < 4 := hj
      rcases (show j = 0 ∨ j = 1 ∨ j = 2 ∨ j = 3 by omega) with rfl | rfl | rfl | rfl
      · exact r79
      · exact l76
      · exact l77
      · exact r77
    · intro j hj
      have hj : j < 2 := hj
      rcases (show j = 0 ∨ j = 1 by omega) with rfl | rfl
      · exact l65
      · exact r65
    · intro j hj
      have hj : j < 6 := hj
      rcases (show j = 0 ∨ j = 1 ∨ j = 2 ∨ j = 3 ∨ j = 4 ∨ j = 5 by omega) with rfl | rfl | rfl | rfl | rfl | rfl
      · exact r54
      · exact l47
      · exact l48
      · exact r48
      · exact l45
      · exact l46
    · intro j hj
      have hj : j < 4 := hj
      rcases (show j = 0 ∨ j = 1 ∨ j = 2 ∨ j = 3 by omega) with rfl | rfl | rfl | rfl
      · exact r35
      · exact l31
      · exact l32
      · exact r32
    · intro j hj
      have hj : j < 4 := hj
      rcases (show j = 0 ∨ j = 1 ∨ j = 2 ∨ j = 3 by omega) with rfl | rfl | rfl | rfl
      · exact l18
      · exact r18
      · exact l13
      · exact l14
  have hne : ∀ i j : Nat, i < 11 → j < 11 → i ≠ j → (Cond.not (Cond.eq (fn_tm i) (fn_tm j))).before #[Value.ref b] s = true ∨ (Cond.not (Cond.eq (fn_tm j) (fn_tm i))).before #[Value.ref b] s = true := by
    intro i j hi hj hij
    rcases (show i = 0 ∨ i = 1 ∨ i = 2 ∨ i = 3 ∨ i = 4 ∨ i = 5 ∨ i = 6 ∨ i = 7 ∨ i = 8 ∨ i = 9 ∨ i = 10 by omega) with rfl | rfl | rfl | rfl | rfl | rfl | rfl | rfl | rfl | rfl | rfl
    · rcases (show j = 0 ∨ j = 1 ∨ j = 2 ∨ j = 3 ∨ j = 4 ∨ j = 5 ∨ j = 6 ∨ j = 7 ∨ j = 8 ∨ j = 9 ∨ j = 10 by omega) with rfl | rfl | rfl | rfl | rfl | rfl | rfl | rfl | rfl | rfl | rfl
      · exact absurd rfl hij
      · exact Or.inl r129
      · exact Or.inl r119
      · exact Or.inl l107
      · exact Or.inl l94
      · exact Or.inl r88
      · exact Or.inl l71
      · exact Or.inl l60
      · exact Or.inl r46
      · exact Or.inl l29
      · exact Or.inl r14
    · rcases (show j = 0 ∨ j = 1 ∨ j = 2 ∨ j = 3 ∨ j = 4 ∨ j = 5 ∨ j = 6 ∨ j = 7 ∨ j = 8 ∨ j = 9 ∨ j = 10 by omega) with rfl | rfl | rfl | rfl | rfl | rfl | rfl | rfl | rfl | rfl | rfl
      · exact Or.inr r129
      · exact absurd rfl hij
      · exact Or.inl l116
      · exact Or.inl l108
      · exact Or.inl r94
      · exact Or.inl l83
      · exact Or.inl l72
      · exact Or.inl l61
      · exact Or.inl l42
      · exact Or.inl l30
      · exact Or.inl l11
    · rcases (show j = 0 ∨ j = 1 ∨ j = 2 ∨ j = 3 ∨ j = 4 ∨ j = 5 ∨ j = 6 ∨ j = 7 ∨ j = 8 ∨ j = 9 ∨ j = 10 by omega) with rfl | rfl | rfl | rfl | rfl | rfl | rfl | rfl | rfl | rfl | rfl
      · exact Or.inr r119
      · exact Or.inr l116
      · exact absurd rfl hij
      · exact Or.inl r108
      · exact Or.inl l92
      · exact Or.inl l84
      · exact Or.inl r72
      · exact Or.inl r61
      · exact Or.inl l43
      · exact Or.inl r30
      · exact Or.inl l12
    · rcases (show j = 0 ∨ j = 1 ∨ j = 2 ∨ j = 3 ∨ j = 4 ∨ j = 5 ∨ j = 6 ∨ j = 7 ∨ j = 8 ∨ j = 9 ∨ j = 10 by omega) with rfl | rfl | rfl | rfl | rfl | rfl | rfl | rfl | rfl | rfl | rfl
      · exact Or.inr l107
      · exact Or.inr l108
      · exact Or.inr r108
      · exact absurd rfl hij
      · exact Or.inl l93
      · exact Or.inl r84
      · exact Or.inl l69
      · exact Or.inl l58
      · exact Or.inl r43
      · exact Or.inl l24
      · exact Or.inl r12
    · rcases (show j = 0 ∨ j = 1 ∨ j = 2 ∨ j = 3 ∨ j = 4 ∨ j = 5 ∨ j = 6 ∨ j = 7 ∨ j = 8 ∨ j = 9 ∨ j = 10 by omega) with rfl | rfl | rfl | rfl | rfl | rfl | rfl | rfl | rfl | rfl | rfl
      · exact Or.inr l94
      · exact Or.inr r94
      · exact Or.inr l92
      · exact Or.inr l93
      · exact absurd rfl hij
      · exact Or.inl l81
      · exact Or.inl l70
      · exact Or.inl l59
      · exact Or.inl l40
      · exact Or.inl l25
      · exact Or.inl l8
    · rcases (show j = 0 ∨ j = 1 ∨ j = 2 ∨ j = 3 ∨ j = 4 ∨ j = 5 ∨ j = 6 ∨ j = 7 ∨ j = 8 ∨ j = 9 ∨ j = 10 by omega) with rfl | rfl | rfl | rfl | rfl | rfl | rfl | rfl | rfl | rfl | rfl
      · exact Or.inr r88
      · exact Or.inr l83
      · exact Or.inr l84
      · exact Or.inr r84
      · exact Or.inr l81
      · exact absurd rfl hij
      · exact Or.inl r70
      · exact Or.inl r59
      · exact Or.inl l41
      · exact Or.inl r25
      · exact Or.inl l9
    · rcases (show j = 0 ∨ j = 1 ∨ j = 2 ∨ j = 3 ∨ j = 4 ∨ j = 5 ∨ j = 6 ∨ j = 7 ∨ j = 8 ∨ j = 9 ∨ j = 10 by omega) with rfl | rfl | rfl | rfl | rfl | rfl | rfl | rfl | rfl | rfl | rfl
      · exact Or.inr l71
      · exact Or.inr l72
      · exact Or.inr r72
      · exact Or.inr l69
      · exact Or.inr l70
      · exact Or.inr r70
      · exact absurd rfl hij
      · exact Or.inl l55
      · exact Or.inl r41
      · exact Or.inl l22
      · exact Or.inl r9
    · rcases (show j = 0 ∨ j = 1 ∨ j = 2 ∨ j = 3 ∨ j = 4 ∨ j = 5 ∨ j = 6 ∨ j = 7 ∨ j = 8 ∨ j = 9 ∨ j = 10 by omega) with rfl | rfl | rfl | rfl | rfl | rfl | rfl | rfl | rfl | rfl | rfl
      · exact Or.inr l60
      · exact Or.inr l61
      · exact Or.inr r61
      · exact Or.inr l58
      · exact Or.inr l59
      · exact Or.inr r59
      · exact Or.inr l55
      · exact absurd rfl hij
      · exact Or.inl l36
      · exact Or.inl l23
      · exact Or.inl l6
    · rcases (show j = 0 ∨ j = 1 ∨ j = 2 ∨ j = 3 ∨ j = 4 ∨ j = 5 ∨ j = 6 ∨ j = 7 ∨ j = 8 ∨ j = 9 ∨ j = 10 by omega) with rfl | rfl | rfl | rfl | rfl | rfl | rfl | rfl | rfl | rfl | rfl
      · exact Or.inr r46
      · exact Or.inr l42
      · exact Or.inr l43
      · exact Or.inr r43
      · exact Or.inr l40
      · exact Or.inr l41
      · exact Or.inr r41
      · exact Or.inr l36
      · exact absurd rfl hij
      · exact Or.inl r23
      · exact Or.inl l7
    · rcases (show j = 0 ∨ j = 1 ∨ j = 2 ∨ j = 3 ∨ j = 4 ∨ j = 5 ∨ j = 6 ∨ j = 7 ∨ j = 8 ∨ j = 9 ∨ j = 10 by omega) with rfl | rfl | rfl | rfl | rfl | rfl | rfl | rfl | rfl | rfl | rfl
      · exact Or.inr l29
      · exact Or.inr l30
      · exact Or.inr r30
      · exact Or.inr l24
      · exact Or.inr l25
      · exact Or.inr r25
      · exact Or.inr l22
      · exact Or.inr l23
      · exact Or.inr r23
      · exact absurd rfl hij
      · exact Or.inl r7
    · rcases (show j = 0 ∨ j = 1 ∨ j = 2 ∨ j = 3 ∨ j = 4 ∨ j = 5 ∨ j = 6 ∨ j = 7 ∨ j = 8 ∨ j = 9 ∨ j = 10 by omega) with rfl | rfl | rfl | rfl | rfl | rfl | rfl | rfl | rfl | rfl | rfl
      · exact Or.inr r14
      · exact Or.inr l11
      · exact Or.inr l12
      · exact Or.inr r12
      · exact Or.inr l8
      · exact Or.inr l9
      · exact Or.inr r9
      · exact Or.inr l6
      · exact Or.inr l7
      · exact Or.inr r7
      · exact absurd rfl hij
  obtain ⟨adK, adV, hS, hE⟩ := vk_Sof (A := A) (N := 11) (tm := fn_tm) (len := fn_len) (byt := fn_byt) (by decide) hex hco har hle hel hne hA
  refine ⟨adK, adV, hS, ?_, ?_, ?_⟩
  · exact va_Zof (hT _ (fn_l3 (List.mem_of_getElem? (i := 43) (by decide +kernel)))) (hT _ (fn_l1 (List.mem_of_getElem? (i := 14) (by decide +kernel)))) (va_eqi l185) hA
  · exact va_Zqof (hT _ (fn_l3 (List.mem_of_getElem? (i := 59) (by decide +kernel)))) (hT _ (fn_l1 (List.mem_of_getElem? (i := 16) (by decide +kernel)))) l186 hA
  · intro i r hr
    have hi : i < 11 := by
      rcases Nat.lt_or_ge i 11 with q | q
      · exact q
      · rw [List.getElem?_eq_none (show fn_strs.length ≤ i from q)] at hr; exact absurd hr (by simp)
    have he := hE i hi
    rcases (show i = 0 ∨ i = 1 ∨ i = 2 ∨ i = 3 ∨ i = 4 ∨ i = 5 ∨ i = 6 ∨ i = 7 ∨ i = 8 ∨ i = 9 ∨ i = 10 by omega) with rfl | rfl | rfl | rfl | rfl | rfl | rfl | rfl | rfl | rfl | rfl
    · cases hr; exact vk_R.of (hT _ (fn_l3 (List.mem_of_getElem? (i := 25) (by decide +kernel)))) he
    · cases hr; exact vk_R.of (hT _ (fn_l3 (List.mem_of_getElem? (i := 87) (by decide +kernel)))) he
    · cases hr; exact vk_R.of (hT _ (fn_l3 (List.mem_of_getElem? (i := 100) (by decide +kernel)))) he
    · cases hr; exact vk_R.of (hT _ (fn_l3 (List.mem_of_getElem? (i := 101) (by decide +kernel)))) he
    · cases hr; exact vk_R.of (hT _ (fn_l3 (List.mem_of_getElem? (i := 106) (by decide +kernel)))) he
    · cases hr; exact vk_R.of (hT _ (fn_l3 (List.mem_of_getElem? (i := 107) (by decide +kernel)))) he
    · cases hr; exact vk_R.of (hT _ (fn_l3 (List.mem_of_getElem? (i := 112) (by decide +kernel)))) he
    · cases hr; exact vk_R.of (hT _ (fn_l3 (List.mem_of_getElem? (i := 117) (by decide +kernel)))) he
    · cases hr; exact vk_R.of (hT _ (fn_l3 (List.mem_of_getElem? (i := 118) (by decide +kernel)))) he
    · cases hr; exact vk_R.of (hT _ (fn_l3 (List.mem_of_getElem? (i := 126) (by decide +kernel)))) he
    · cases hr; exact vk_R.of (hT _ (fn_l3 (List.mem_of_getElem? (i := 131) (by decide +kernel)))) he
