theorem cd_X11_feed : jCd yX11_feed cX11_feed 7 (some .int) 5 := ⟨tb_t3 44 rfl rfl, tb_t1 1 rfl rfl, by decide +kernel⟩
theorem cv_X11_feed : jCv yX11_feed 11 := ⟨tb_t3 42 rfl rfl, TX11, 8, rfl, tb_t3 43 rfl rfl⟩
theorem ml_L_21 : Cond.methodLink RL 21 yX11_feed ∈ tb := tb_t3 41 rfl rfl
theorem cd_X12_feed : jCd yX12_feed cX12_feed 8 (some .int) 5 := ⟨tb_t6 122 rfl rfl, tb_t1 13 rfl rfl, by decide +kernel⟩
theorem cv_X12_feed : jCv yX12_feed 12 := ⟨tb_t6 120 rfl rfl, TX12, 58, rfl, tb_t6 121 rfl rfl⟩
theorem ml_L_25 : Cond.methodLink RL 25 yX12_feed ∈ tb := tb_t6 119 rfl rfl
theorem cd_X11_text : jCd yX11_text cX11_text 3 (some .int) 1 := ⟨tb_t3 52 rfl rfl, tb_t1 1 rfl rfl, by decide +kernel⟩
theorem cv_X11_text : jCv yX11_text 11 := ⟨tb_t3 50 rfl rfl, TX11, 8, rfl, tb_t3 51 rfl rfl⟩
theorem ml_L_26 : Cond.methodLink RL 26 yX11_text ∈ tb := tb_t3 49 rfl rfl
theorem cd_X12_text : jCd yX12_text cX12_text 2 (some .int) 1 := ⟨tb_t6 126 rfl rfl, tb_t1 13 rfl rfl, by decide +kernel⟩
theorem cv_X12_text : jCv yX12_text 12 := ⟨tb_t6 124 rfl rfl, TX12, 58, rfl, tb_t6 125 rfl rfl⟩
theorem ml_L_30 : Cond.methodLink RL 30 yX12_text ∈ tb := tb_t6 123 rfl rfl
theorem cd_X11_fault : jCd yX11_fault cX11_fault 2 (some .int) 1 := ⟨tb_t3 239 rfl rfl, tb_t1 1 rfl rfl, by decide +kernel⟩
theorem cv_X11_fault : jCv yX11_fault 11 := ⟨tb_t3 237 rfl rfl, TX11, 8, rfl, tb_t3 238 rfl rfl⟩
theorem ml_L_31 : Cond.methodLink RL 31 yX11_fault ∈ tb := tb_t3 236 rfl rfl
theorem cd_X12_fault : jCd yX12_fault cX12_fault 2 (some .int) 1 := ⟨tb_t7 36 rfl rfl, tb_t1 13 rfl rfl, by decide +kernel⟩
theorem cv_X12_fault : jCv yX12_fault 12 := ⟨tb_t7 34 rfl rfl, TX12, 58, rfl, tb_t7 35 rfl rfl⟩
theorem ml_L_34 : Cond.methodLink RL 34 yX12_fault ∈ tb := tb_t7 33 rfl rfl
theorem cd_X11_named : jCd yX11_named cX11_named 3 (some .int) 2 := ⟨tb_t4 3 rfl rfl, tb_t1 1 rfl rfl, by decide +kernel⟩
theorem cv_X11_named : jCv yX11_named 11 := ⟨tb_t4 1 rfl rfl, TX11, 8, rfl, tb_t4 2 rfl rfl⟩
theorem ml_L_35 : Cond.methodLink RL 35 yX11_named ∈ tb := tb_t4 0 rfl rfl
theorem cd_X12_named : jCd yX12_named cX12_named 3 (some .int) 2 := ⟨tb_t7 40 rfl rfl, tb_t1 13 rfl rfl, by decide +kernel⟩
theorem cv_X12_named : jCv yX12_named 12 := ⟨tb_t7 38 rfl rfl, TX12, 58, rfl, tb_t7 39 rfl rfl⟩
theorem ml_L_38 : Cond.methodLink RL 38 yX12_named ∈ tb := tb_t7 37 rfl rfl
theorem cd_X11_note : jCd yX11_note cX11_note 4 (some .int) 3 := ⟨tb_t4 8 rfl rfl, tb_t1 1 rfl rfl, by decide +kernel⟩
theorem cv_X11_note : jCv yX11_note 11 := ⟨tb_t4 6 rfl rfl, TX11, 8, rfl, tb_t4 7 rfl rfl⟩
theorem ml_L_49 : Cond.methodLink RL 49 yX11_note ∈ tb := tb_t4 5 rfl rfl
theorem cd_X12_note : jCd yX12_note cX12_note 4 (some .int) 3 := ⟨tb_t7 52 rfl rfl, tb_t1 13 rfl rfl, by decide +kernel⟩
theorem cv_X12_note : jCv yX12_note 12 := ⟨tb_t7 50 rfl rfl, TX12, 58, rfl, tb_t7 51 rfl rfl⟩
theorem ml_L_53 : Cond.methodLink RL 53 yX12_note ∈ tb := tb_t7 49 rfl rfl
theorem cd_X11_strike : jCd yX11_strike cX11_strike 2 (some .int) 1 := ⟨tb_t4 22 rfl rfl, tb_t1 1 rfl rfl, by decide +kernel⟩
theorem cv_X11_strike : jCv yX11_strike 11 := ⟨tb_t4 20 rfl rfl, TX11, 8, rfl, tb_t4 21 rfl rfl⟩
theorem ml_L_54 : Cond.methodLink RL 54 yX11_strike ∈ tb := tb_t4 19 rfl rfl
theorem cd_X12_strike : jCd yX12_strike cX12_strike 2 (some .int) 1 := ⟨tb_t7 56 rfl rfl, tb_t1 13 rfl rfl, by decide +kernel⟩
theorem cv_X12_strike : jCv yX12_strike 12 := ⟨tb_t7 54 rfl rfl, TX12, 58, rfl, tb_t7 55 rfl rfl⟩
theorem ml_L_57 : Cond.methodLink RL 57 yX12_strike ∈ tb := tb_t7 53 rfl rfl
theorem cd_X11_known : jCd yX11_known cX11_known 2 (some .boolean) 1 := ⟨tb_t4 26 rfl rfl, tb_t1 1 rfl rfl, by decide +kernel⟩
theorem cv_X11_known : jCv yX11_known 11 := ⟨tb_t4 24 rfl rfl, TX11, 8, rfl, tb_t4 25 rfl rfl⟩
theorem ml_L_58 : Cond.methodLink RL 58 yX11_known ∈ tb := tb_t4 23 rfl rfl
theorem cd_X12_known : jCd yX12_known cX12_known 2 (some .boolean) 1 := ⟨tb_t7 60 rfl rfl, tb_t1 13 rfl rfl, by decide +kernel⟩
theorem cv_X12_known : jCv yX12_known 12 := ⟨tb_t7 58 rfl rfl, TX12, 58, rfl, tb_t7 59 rfl rfl⟩
theorem ml_L_62 : Cond.methodLink RL 62 yX12_known ∈ tb := tb_t7 57 rfl rfl
theorem cd_X11_count : jCd yX11_count cX11_count 3 (some .int) 2 := ⟨tb_t4 34 rfl rfl, tb_t1 1 rfl rfl, by decide +kernel⟩
theorem cv_X11_count : jCv yX11_count 11 := ⟨tb_t4 32 rfl rfl, TX11, 8, rfl, tb_t4 33 rfl rfl⟩
theorem ml_L_63 : Cond.methodLink RL 63 yX11_count ∈ tb := tb_t4 31 rfl rfl
theorem cd_X12_count : jCd yX12_count cX12_count 3 (some .int) 2 := ⟨tb_t7 64 rfl rfl, tb_t1 13 rfl rfl, by decide +kernel⟩
theorem cv_X12_count : jCv yX12_count 12 := ⟨tb_t7 62 rfl rfl, TX12, 58, rfl, tb_t7 63 rfl rfl⟩
theorem ml_L_66 : Cond.methodLink RL 66 yX12_count ∈ tb := tb_t7 61 rfl rfl
theorem cd_X11_likely : jCd yX11_likely cX11_likely 5 (some .long) 4 := ⟨tb_t4 42 rfl rfl, tb_t1 1 rfl rfl, by decide +kernel⟩
theorem cv_X11_likely : jCv yX11_likely 11 := ⟨tb_t4 40 rfl rfl, TX11, 8, rfl, tb_t4 41 rfl rfl⟩
theorem ml_L_67 : Cond.methodLink RL 67 yX11_likely ∈ tb := tb_t4 39 rfl rfl
theorem cd_X12_likely : jCd yX12_likely cX12_likely 5 (some .long) 4 := ⟨tb_t7 76 rfl rfl, tb_t1 13 rfl rfl, by decide +kernel⟩
theorem cv_X12_likely : jCv yX12_likely 12 := ⟨tb_t7 74 rfl rfl, TX12, 58, rfl, tb_t7 75 rfl rfl⟩
theorem ml_L_71 : Cond.methodLink RL 71 yX12_likely ∈ tb := tb_t7 73 rfl rfl
theorem cd_X11_rate : jCd yX11_rate cX11_rate 5 (some .long) 4 := ⟨tb_t4 59 rfl rfl, tb_t1 1 rfl rfl, by decide +kernel⟩
theorem cv_X11_rate : jCv yX11_rate 11 := ⟨tb_t4 57 rfl rfl, TX11, 8, rfl, tb_t4 58 rfl rfl⟩
theorem ml_L_72 : Cond.methodLink RL 72 yX11_rate ∈ tb := tb_t4 56 rfl rfl
theorem cd_X12_rate : jCd yX12_rate cX12_rate 5 (some .long) 4 := ⟨tb_t7 88 rfl rfl, tb_t1 13 rfl rfl, by decide +kernel⟩
theorem cv_X12_rate : jCv yX12_rate 12 := ⟨tb_t7 86 rfl rfl, TX12, 58, rfl, tb_t7 87 rfl rfl⟩
theorem ml_L_75 : Cond.methodLink RL 75 yX12_rate ∈ tb := tb_t7 85 rfl rfl
theorem cd_X11_span : jCd yX11_span cX11_span 5 (some .int) 4 := ⟨tb_t4 77 rfl rfl, tb_t1 1 rfl rfl, by decide +kernel⟩
theorem cv_X11_span : jCv yX11_span 11 := ⟨tb_t4 75 rfl rfl, TX11, 8, rfl, tb_t4 76 rfl rfl⟩
theorem ml_L_76 : Cond.methodLink RL 76 yX11_span ∈ tb := tb_t4 74 rfl rfl
theorem cd_X12_span : jCd yX12_span cX12_span 14 (some .int) 4 := ⟨tb_t7 108 rfl rfl, tb_t1 13 rfl rfl, by decide +kernel⟩
theorem cv_X12_span : jCv yX12_span 12 := ⟨tb_t7 106 rfl rfl, TX12, 58, rfl, tb_t7 107 rfl rfl⟩
theorem ml_L_80 : Cond.methodLink RL 80 yX12_span ∈ tb := tb_t7 105 rfl rfl
theorem cd_X11_worse : jCd yX11_worse cX11_worse 6 (some .long) 5 := ⟨tb_t4 95 rfl rfl, tb_t1 1 rfl rfl, by decide +kernel⟩
theorem cv_X11_worse : jCv yX11_worse 11 := ⟨tb_t4 93 rfl rfl, TX11, 8, rfl, tb_t4 94 rfl rfl⟩
theorem ml_L_81 : Cond.methodLink RL 81 yX11_worse ∈ tb := tb_t4 92 rfl rfl
theorem cd_X12_worse : jCd yX12_worse cX12_worse 14 (some .long) 5 := ⟨tb_t7 117 rfl rfl, tb_t1 13 rfl rfl, by decide +kernel⟩
theorem cv_X12_worse : jCv yX12_worse 12 := ⟨tb_t7 115 rfl rfl, TX12, 58, rfl, tb_t7 116 rfl rfl⟩
theorem ml_L_85 : Cond.methodLink RL 85 yX12_worse ∈ tb := tb_t7 114 rfl rfl
theorem cd_X11_taken : jCd yX11_taken cX11_taken 2 (some .int) 1 := ⟨tb_t4 103 rfl rfl, tb_t1 1 rfl rfl, by decide +kernel⟩
theorem cv_X11_taken : jCv yX11_taken 11 := ⟨tb_t4 101 rfl rfl, TX11, 8, rfl, tb_t4 102 rfl rfl⟩
theorem ml_L_86 : Cond.methodLink RL 86 yX11_taken ∈ tb := tb_t4 100 rfl rfl
theorem cd_X12_taken : jCd yX12_taken cX12_taken 4 (some .int) 1 := ⟨tb_t7 121 rfl rfl, tb_t1 13 rfl rfl, by decide +kernel⟩
theorem cv_X12_taken : jCv yX12_taken 12 := ⟨tb_t7 119 rfl rfl, TX12, 58, rfl, tb_t7 120 rfl rfl⟩
theorem ml_L_89 : Cond.methodLink RL 89 yX12_taken ∈ tb := tb_t7 118 rfl rfl
theorem cd_X11_law : jCd yX11_law cX11_law 3 (some .long) 2 := ⟨tb_t4 151 rfl rfl, tb_t1 1 rfl rfl, by decide +kernel⟩
theorem cv_X11_law : jCv yX11_law 11 := ⟨tb_t4 149 rfl rfl, TX11, 8, rfl, tb_t4 150 rfl rfl⟩
theorem ml_L_90 : Cond.methodLink RL 90 yX11_law ∈ tb := tb_t4 148 rfl rfl
theorem cd_X12_law : jCd yX12_law cX12_law 13 (some .long) 2 := ⟨tb_t7 146 rfl rfl, tb_t1 13 rfl rfl, by decide +kernel⟩
theorem cv_X12_law : jCv yX12_law 12 := ⟨tb_t7 144 rfl rfl, TX12, 58, rfl, tb_t7 145 rfl rfl⟩
theorem ml_L_94 : Cond.methodLink RL 94 yX12_law ∈ tb := tb_t7 143 rfl rfl
theorem cd_X11_fall : jCd yX11_fall cX11_fall 3 (some .int) 2 := ⟨tb_t4 173 rfl rfl, tb_t1 1 rfl rfl, by decide +kernel⟩
theorem cv_X11_fall : jCv yX11_fall 11 := ⟨tb_t4 171 rfl rfl, TX11, 8, rfl, tb_t4 172 rfl rfl⟩
theorem ml_L_95 : Cond.methodLink RL 95 yX11_fall ∈ tb := tb_t4 170 rfl rfl
theorem cd_X12_fall : jCd yX12_fall cX12_fall 12 (some .int) 2 := ⟨tb_t7 152 rfl rfl, tb_t1 13 rfl rfl, by decide +kernel⟩
theorem cv_X12_fall : jCv yX12_fall 12 := ⟨tb_t7 150 rfl rfl, TX12, 58, rfl, tb_t7 151 rfl rfl⟩
theorem ml_L_98 : Cond.methodLink RL 98 yX12_fall ∈ tb := tb_t7 149 rfl rfl
theorem cd_X11_lot : jCd yX11_lot cX11_lot 4 (some .int) 3 := ⟨tb_t4 215 rfl rfl, tb_t1 1 rfl rfl, by decide +kernel⟩
theorem cv_X11_lot : jCv yX11_lot 11 := ⟨tb_t4 213 rfl rfl, TX11, 8, rfl, tb_t4 214 rfl rfl⟩
theorem ml_L_99 : Cond.methodLink RL 99 yX11_lot ∈ tb := tb_t4 212 rfl rfl
theorem cd_X12_lot : jCd yX12_lot cX12_lot 4 (some .int) 3 := ⟨tb_t7 181 rfl rfl, tb_t1 13 rfl rfl, by decide +kernel⟩
theorem cv_X12_lot : jCv yX12_lot 12 := ⟨tb_t7 179 rfl rfl, TX12, 58, rfl, tb_t7 180 rfl rfl⟩
theorem ml_L_102 : Cond.methodLink RL 102 yX12_lot ∈ tb := tb_t7 178 rfl rfl
theorem cd_X11_chose : jCd yX11_chose cX11_chose 3 (some .int) 2 := ⟨tb_t4 224 rfl rfl, tb_t1 1 rfl rfl, by decide +kernel⟩
theorem cv_X11_chose : jCv yX11_chose 11 := ⟨tb_t4 222 rfl rfl, TX11, 8, rfl, tb_t4 223 rfl rfl⟩
theorem ml_L_103 : Cond.methodLink RL 103 yX11_chose ∈ tb := tb_t4 221 rfl rfl
theorem cd_X12_chose : jCd yX12_chose cX12_chose 6 (some .int) 2 := ⟨tb_t7 189 rfl rfl, tb_t1 13 rfl rfl, by decide +kernel⟩
theorem cv_X12_chose : jCv yX12_chose 12 := ⟨tb_t7 187 rfl rfl, TX12, 58, rfl, tb_t7 188 rfl rfl⟩
theorem ml_L_106 : Cond.methodLink RL 106 yX12_chose ∈ tb := tb_t7 186 rfl rfl
theorem cd_X11_house : jCd yX11_house cX11_house 3 (some .int) 2 := ⟨tb_t4 232 rfl rfl, tb_t1 1 rfl rfl, by decide +kernel⟩
theorem cv_X11_house : jCv yX11_house 11 := ⟨tb_t4 230 rfl rfl, TX11, 8, rfl, tb_t4 231 rfl rfl⟩
theorem ml_L_107 : Cond.methodLink RL 107 yX11_house ∈ tb := tb_t4 229 rfl rfl
theorem cd_X12_house : jCd yX12_house cX12_house 15 (some .int) 2 := ⟨tb_t7 193 rfl rfl, tb_t1 13 rfl rfl, by decide +kernel⟩
theorem cv_X12_house : jCv yX12_house 12 := ⟨tb_t7 191 rfl rfl, TX12, 58, rfl, tb_t7 192 rfl rfl⟩
theorem ml_L_110 : Cond.methodLink RL 110 yX12_house ∈ tb := tb_t7 190 rfl rfl
theorem cd_X11_coin : jCd yX11_coin cX11_coin 3 (some .boolean) 2 := ⟨tb_t5 5 rfl rfl, tb_t1 1 rfl rfl, by decide +kernel⟩
theorem cv_X11_coin : jCv yX11_coin 11 := ⟨tb_t5 3 rfl rfl, TX11, 8, rfl, tb_t5 4 rfl rfl⟩
theorem ml_L_111 : Cond.methodLink RL 111 yX11_coin ∈ tb := tb_t5 2 rfl rfl
theorem cd_X12_coin : jCd yX12_coin cX12_coin 3 (some .boolean) 2 := ⟨tb_t7 201 rfl rfl, tb_t1 13 rfl rfl, by decide +kernel⟩
theorem cv_X12_coin : jCv yX12_coin 12 := ⟨tb_t7 199 rfl rfl, TX12, 58, rfl, tb_t7 200 rfl rfl⟩
theorem ml_L_115 : Cond.methodLink RL 115 yX12_coin ∈ tb := tb_t7 198 rfl rfl
theorem cd_X11_poles : jCd yX11_poles cX11_poles 5 (some .int) 3 := ⟨tb_t5 9 rfl rfl, tb_t1 1 rfl rfl, by decide +kernel⟩
theorem cv_X11_poles : jCv yX11_poles 11 := ⟨tb_t5 7 rfl rfl, TX11, 8, rfl, tb_t5 8 rfl rfl⟩
theorem ml_L_116 : Cond.methodLink RL 116 yX11_poles ∈ tb := tb_t5 6 rfl rfl
theorem cd_X12_poles : jCd yX12_poles cX12_poles 8 (some .int) 3 := ⟨tb_t7 205 rfl rfl, tb_t1 13 rfl rfl, by decide +kernel⟩
theorem cv_X12_poles : jCv yX12_poles 12 := ⟨tb_t7 203 rfl rfl, TX12, 58, rfl, tb_t7 204 rfl rfl⟩
theorem ml_L_119 : Cond.methodLink RL 119 yX12_poles ∈ tb := tb_t7 202 rfl rfl
theorem cd_X11_never : jCd yX11_never cX11_never 3 (some .int) 0 := ⟨tb_t5 45 rfl rfl, tb_t1 1 rfl rfl, by decide +kernel⟩
theorem cv_X11_never : jCv yX11_never 11 := ⟨tb_t5 43 rfl rfl, TX11, 8, rfl, tb_t5 44 rfl rfl⟩
theorem ml_L_120 : Cond.methodLink RL 120 yX11_never ∈ tb := tb_t5 42 rfl rfl
theorem cd_X12_never : jCd yX12_never cX12_never 6 (some .int) 0 := ⟨tb_t7 225 rfl rfl, tb_t1 13 rfl rfl, by decide +kernel⟩
theorem cv_X12_never : jCv yX12_never 12 := ⟨tb_t7 223 rfl rfl, TX12, 58, rfl, tb_t7 224 rfl rfl⟩
theorem ml_L_123 : Cond.methodLink RL 123 yX12_never ∈ tb := tb_t7 222 rfl rfl
theorem cd_X11_draws : jCd yX11_draws cX11_draws 4 (some .int) 3 := ⟨tb_t5 55 rfl rfl, tb_t1 1 rfl rfl, by decide +kernel⟩
theorem cv_X11_draws : jCv yX11_draws 11 := ⟨tb_t5 53 rfl rfl, TX11, 8, rfl, tb_t5 54 rfl rfl⟩
theorem ml_L_124 : Cond.methodLink RL 124 yX11_draws ∈ tb := tb_t5 52 rfl rfl
theorem cd_X12_draws : jCd yX12_draws cX12_draws 13 (some .int) 3 := ⟨tb_t7 229 rfl rfl, tb_t1 13 rfl rfl, by decide +kernel⟩
theorem cv_X12_draws : jCv yX12_draws 12 := ⟨tb_t7 227 rfl rfl, TX12, 58, rfl, tb_t7 228 rfl rfl⟩
theorem ml_L_127 : Cond.methodLink RL 127 yX12_draws ∈ tb := tb_t7 226 rfl rfl
theorem cd_X11_number : jCd yX11_number cX11_number 2 (some .int) 1 := ⟨tb_t5 81 rfl rfl, tb_t1 1 rfl rfl, by decide +kernel⟩
theorem cv_X11_number : jCv yX11_number 11 := ⟨tb_t5 79 rfl rfl, TX11, 8, rfl, tb_t5 80 rfl rfl⟩
theorem ml_L_128 : Cond.methodLink RL 128 yX11_number ∈ tb := tb_t5 78 rfl rfl
theorem cd_X12_number : jCd yX12_number cX12_number 2 (some .int) 1 := ⟨tb_t7 239 rfl rfl, tb_t1 13 rfl rfl, by decide +kernel⟩
theorem cv_X12_number : jCv yX12_number 12 := ⟨tb_t7 237 rfl rfl, TX12, 58, rfl, tb_t7 238 rfl rfl⟩
theorem ml_L_131 : Cond.methodLink RL 131 yX12_number ∈ tb := tb_t7 236 rfl rfl
theorem cd_X12_look : jCd yX12_look cX12_look 3 (some .int) 2 := ⟨tb_t7 44 rfl rfl, tb_t1 13 rfl rfl, by decide +kernel⟩
theorem cv_X12_look : jCv yX12_look 12 := ⟨tb_t7 42 rfl rfl, TX12, 58, rfl, tb_t7 43 rfl rfl⟩
theorem ml_L_44 : Cond.methodLink RL 44 yX12_look ∈ tb := tb_t7 41 rfl rfl
theorem cd_X12_thrown : jCd yX12_thrown cX12_thrown 1 (some .int) 0 := ⟨tb_t6 118 rfl rfl, tb_t1 13 rfl rfl, by decide +kernel⟩
theorem cv_X12_thrown : jCv yX12_thrown 12 := ⟨tb_t6 116 rfl rfl, TX12, 58, rfl, tb_t6 117 rfl rfl⟩
theorem ml_L_45 : Cond.methodLink RL 45 yX12_thrown ∈ tb := tb_t6 115 rfl rfl
theorem ml_L_39 : Cond.methodLink RL 39 yL_look ∈ tb := tb_t5 83 rfl rfl
theorem nw_L_8 : jNw RL 8 11 [.null, .null, .null, .null, .null, .null, .null, .null] := ⟨RX11, TX11, 8, tyX11, rfl, inX11, tyX11_ok, tb_t1 25 rfl rfl, tb_t1 26 rfl rfl, tb_t1 1 rfl rfl, rfl, by decide +kernel⟩
theorem nw_L_18 : jNw RL 18 12 [.int 0, .null, .int 0, .int 0, .int 0, .null, .null, .null, .null, .null, .null, .null, .null, .null, .null, .null, .null, .int 0, .int 0, .int 0, .int 0, .int 0, .int 0, .int 0, .int 0, .int 0, .int 0, .int 0, .int 0, .int 0, .int 0, .int 0, .int 0, .int 0, .int 0, .int 0, .int 0, .int 0, .int 0, .int 0, .null, .null, .null, .null, .null, .long 0, .long 0, .null, .int 0, .null, .int 0, .int 0, .int 0, .int 0, .int 0, .int 0, .null, .int 0] := ⟨RX12, TX12, 58, tyX12, rfl, inX12, tyX12_ok, tb_t5 174 rfl rfl, tb_t5 175 rfl rfl, tb_t1 13 rfl rfl, rfl, by decide +kernel⟩
theorem ml_L_17 : Cond.methodLink RL 17 yX11_init ∈ tb := tb_t1 27 rfl rfl
theorem cd_X11_init : jCd yX11_init cX11_init 1 (none : Option Jvm.ClassFile.FieldType) 0 := ⟨tb_t1 29 rfl rfl, tb_t1 1 rfl rfl, by decide +kernel⟩
theorem in_yX11_init : Cond.instanceMethod yX11_init ∈ tb := tb_t1 28 rfl rfl
theorem ml_L_20 : Cond.methodLink RL 20 yX12_init ∈ tb := tb_t5 176 rfl rfl
theorem cd_X12_init : jCd yX12_init cX12_init 1 (none : Option Jvm.ClassFile.FieldType) 0 := ⟨tb_t5 178 rfl rfl, tb_t1 13 rfl rfl, by decide +kernel⟩
theorem in_yX12_init : Cond.instanceMethod yX12_init ∈ tb := tb_t5 177 rfl rfl
def lwW (g : jG) (a am : Nat → Nat) (o : Nat) (re : jZ) (ta : jZ) (ro : jZ) (ki : jZ) (ru : jZ) (ruy : jY) (no : jZ) (sro : jZ) (ski : jZ) (sru : jZ) (sruy : jY) (sno : jZ) (od : jZ) (ody : jY) (lu : jZ) (luy : jY) (fa : jZ) (fod : jZ) (fody : jY) (ho : jZ) (po : jZ) (pod : jZ) (pody : jY) (mo : jZ) (my : jY) (out : Nat → Int64) : List va_W := [n_WP g a , n_Reader g (fun i => a (i + 1)) re, n_Tape g (fun i => a (i + 4)) ta, n_Road g (fun i => a (i + 6)) ro, n_Kinds g (fun i => a (i + 14)) ki, n_Rule g (fun i => a (i + 20)) ru ruy, n_Notes g (fun i => a (i + 23)) no, n_Road g (fun i => a (i + 30)) sro, n_Kinds g (fun i => a (i + 38)) ski, n_Rule g (fun i => a (i + 44)) sru sruy, n_Notes g (fun i => a (i + 47)) sno, n_Odds g (fun i => a (i + 54)) od ody, n_Luck g (fun i => a (i + 57)) lu luy, n_Falls g (fun i => a (i + 59)) fa, n_Odds g (fun i => a (i + 60)) fod fody, n_House g (fun i => a (i + 63)) ho, n_Poles g (fun i => a (i + 64)) po, n_Odds g (fun i => a (i + 69)) pod pody, n_Mo g am mo my, n_Out g o out]
abbrev lwL (b p0 q0 o : Nat) (i : Int32) : List (Nat × Value) := [(4, .int i), (3, .ref o), (2, .ref q0), (1, .ref p0), (0, .ref b)]
def lwI (re ta ro ki ru no lu : jZ) (luy : jY) (mo : jZ) : Prop := iTape ta mo ∧ iFault re mo ∧ iKinds ki mo ∧ iPlaces ro mo ∧ iRule ru mo ∧ iNotes no mo ∧ iLuck lu luy mo
theorem lwI.ta {re ta ro ki ru no lu : jZ} {luy : jY} {mo : jZ} (I : lwI re ta ro ki ru no lu luy mo) : iTape ta mo := I.1
theorem lwI.re {re ta ro ki ru no lu : jZ} {luy : jY} {mo : jZ} (I : lwI re ta ro ki ru no lu luy mo) : iFault re mo := I.2.1
theorem lwI.ki {re ta ro ki ru no lu : jZ} {luy : jY} {mo : jZ} (I : lwI re ta ro ki ru no lu luy mo) : iKinds ki mo := I.2.2.1
theorem lwI.ro {re ta ro ki ru no lu : jZ} {luy : jY} {mo : jZ} (I : lwI re ta ro ki ru no lu luy mo) : iPlaces ro mo := I.2.2.2.1
theorem lwI.ru {re ta ro ki ru no lu : jZ} {luy : jY} {mo : jZ} (I : lwI re ta ro ki ru no lu luy mo) : iRule ru mo := I.2.2.2.2.1
theorem lwI.no {re ta ro ki ru no lu : jZ} {luy : jY} {mo : jZ} (I : lwI re ta ro ki ru no lu luy mo) : iNotes no mo := I.2.2.2.2.2.1
theorem lwI.lu {re ta ro ki ru no lu : jZ} {luy : jY} {mo : jZ} (I : lwI re ta ro ki ru no lu luy mo) : iLuck lu luy mo := I.2.2.2.2.2.2
def lwK (E : jT) (g : jG) (kc ks b p0 q0 o : Nat) (i : Int32) : Prop := ∀ (a am : Nat → Nat) (re : jZ) (ta : jZ) (ro : jZ) (ki : jZ) (ru : jZ) (ruy : jY) (no : jZ) (sro : jZ) (ski : jZ) (sru : jZ) (sruy : jY) (sno : jZ) (od : jZ) (ody : jY) (lu : jZ) (luy : jY) (fa : jZ) (fod : jZ) (fody : jY) (ho : jZ) (po : jZ) (pod : jZ) (pody : jY) (mo : jZ) (my : jY) (out : Nat → Int64), a 0 = p0 → am 0 = q0 → lwI re ta ro ki ru no lu luy mo → J E g (kc + 1) (ks + 6) (lwW g a am o re ta ro ki ru ruy no sro ski sru sruy sno od ody lu luy fa fod fody ho po pod pody mo my out) (lwL b p0 q0 o i) 1171 []
def lwA (i : Int32) (L : Nat) : Prop := vp_in (i + 1) L ∧ vp_in (i + 2) L ∧ vp_in (i + 3) L ∧ vp_in (i + 4) L ∧ vp_in (i + 5) L
theorem lw_arg {E : jT} {g : jG} {kc ks : Nat} {ws : List va_W} {lv : List (Nat × Value)} {pc : Nat} {st : List Value} {b L : Nat} {xs : Nat → Int32} {i v : Int32} {n : Int} (hE : jOk E g RL code 7 ret room_1) (hX : jSc E b L xs) (hin : vp_in (i + v) L) (j0 j4 : Nat) (h0 : lv[j0]? = some (0, .ref b)) (h4 : lv[j4]? = some (4, .int i)) (d0 : decode code pc = .ok (.aload_n 0, 1)) (d1 : decode code (pc + 1) = .ok (.iload 4, 2)) (d2 : decode code (pc + 1 + 2) = .ok (.iconst n, 1)) (hv : Int32.ofInt n = v) (d3 : decode code (pc + 1 + 2 + 1) = .ok (.iadd, 1)) (d4 : decode code (pc + 1 + 2 + 1 + 1) = .ok (.iaload, 1))
    (kk : J E g kc ks ws lv (pc + 1 + 2 + 1 + 1 + 1) (.int (xs (i + v).toNatClampNeg) :: st)) : J E g kc ks ws lv pc st := by
  refine j_aload_n hE d0 rfl j0 h0 ?_
  refine j_iload hE d1 j4 h4 ?_
  refine j_iconst (v := v) hE d2 hv ?_
  refine j_iadd hE d3 ?_
  exact j_xld hE hX hin d4 kk
theorem lg_cmp_self (x : Int64) : lg_cmp x x = 0 := by
  unfold lg_cmp
  simp
theorem lwI.rel {re ta ro ki ru no lu : jZ} {luy : jY} {mo m2 : jZ} (I : lwI re ta ro ki ru no lu luy mo) (r : mRel mo m2) : lwI re ta ro ki ru no lu luy m2 :=
  ⟨I.ta.to r, I.re.to r, I.ki.to r, I.ro.to r, I.ru.to r.A, I.no.to r, I.lu.to I.ru r.A⟩
theorem iLuck.toB {ru lu mo m2 : jZ} {luy : jY} (h : iLuck lu luy mo) (hR : iRule ru mo) (r : ∀ k, k = 3 ∨ k = 6 ∨ k = 7 ∨ k = 15 ∨ k = 16 ∨ k = 17 → m2 k = mo k) : iLuck lu luy m2 := by
  have T : ∀ a b c q, TK m2 a b c q = TK mo a b c q := TK_congr hR (r 15 (by omega)) (r 16 (by omega)) (r 17 (by omega))
  have e1 : ∀ q, hT m2 q = hT mo q := fun q => by funext k a b c; unfold hT; rw [T, r 6 (by omega)]
  have e2 : ∀ q, hH m2 q = hH mo q := fun q => by funext k a b c; unfold hH; rw [T, r 6 (by omega)]
  have e3 : ∀ q, hS m2 q = hS mo q := fun q => by funext k a b c; unfold hS; rw [T, r 6 (by omega), r 7 (by omega)]
  unfold iLuck LW at h ⊢
  rw [e1, e2, e3, r 7 (by omega), r 3 (by omega)]
  exact h
theorem iKinds.toB {ki m m2 : jZ} (h : iKinds ki m) (r : ∀ k, k = 3 ∨ k = 5 ∨ k = 6 ∨ k = 7 → m2 k = m k) : iKinds ki m2 := by
  unfold iKinds; rw [r 3 (by omega), r 5 (by omega), r 6 (by omega), r 7 (by omega)]; exact h
theorem iRule.toB {ru m m2 : jZ} (h : iRule ru m) (r : ∀ k, k = 15 ∨ k = 16 ∨ k = 17 → m2 k = m k) : iRule ru m2 := by
  unfold iRule; rw [r 15 (by omega), r 16 (by omega), r 17 (by omega)]; exact h
theorem iNotes.toB {no m m2 : jZ} (h : iNotes no m) (r : ∀ k, 38 ≤ k ∧ k ≤ 42 → m2 k = m k) : iNotes no m2 := by
  unfold iNotes; rw [r 38 (by omega), r 39 (by omega), r 40 (by omega), r 41 (by omega), r 42 (by omega)]; exact h
theorem iPlaces.toB {ro m m2 : jZ} (h : iPlaces ro m) (r : ∀ k, k = 4 ∨ (8 ≤ k ∧ k ≤ 14) ∨ k = 18 ∨ k = 19 → m2 k = m k) : iPlaces ro m2 := by
  unfold iPlaces; rw [r 4 (by omega), r 18 (by omega), r 19 (by omega), r 8 (by omega), r 9 (by omega), r 10 (by omega), r 11 (by omega), r 12 (by omega), r 13 (by omega), r 14 (by omega)]; exact h
theorem iTape.toB {ta m m2 : jZ} (h : iTape ta m) (r : ∀ k, k = 1 ∨ k = 2 → m2 k = m k) : iTape ta m2 := by
  unfold iTape; rw [r 1 (by omega), r 2 (by omega)]; exact h
theorem iFault.toB {re m m2 : jZ} (h : iFault re m) (r : ∀ k, k = 34 ∨ k = 35 → m2 k = m k) : iFault re m2 := by
  unfold iFault; rw [r 34 (by omega), r 35 (by omega)]; exact h
theorem pC18 (s0 s1 s2 s3 s4 s5 s6 s7 s8 s9 s10 s11 s12 s13 s14 s15 s16 s17 s18 s19 : va_W) : ([0, 1, 2, 3, 4, 5, 6, 7, 8, 9, 10, 11, 12, 13, 14, 15, 16, 17] : List Nat).map (fun i => ([s0, s1, s2, s3, s4, s5, s6, s7, s8, s9, s10, s11, s12, s13, s14, s15, s16, s17, s18, s19] : List va_W)[i]?) = ([s0, s1, s2, s3, s4, s5, s6, s7, s8, s9, s10, s11, s12, s13, s14, s15, s16, s17] : List va_W).map some := rfl
theorem pW18 (s0 s1 s2 s3 s4 s5 s6 s7 s8 s9 s10 s11 s12 s13 s14 s15 s16 s17 s18 s19 t0 t1 t2 t3 t4 t5 t6 t7 t8 t9 t10 t11 t12 t13 t14 t15 t16 t17 : va_W) : sRep ([s0, s1, s2, s3, s4, s5, s6, s7, s8, s9, s10, s11, s12, s13, s14, s15, s16, s17, s18, s19] : List va_W) [0, 1, 2, 3, 4, 5, 6, 7, 8, 9, 10, 11, 12, 13, 14, 15, 16, 17] [t0, t1, t2, t3, t4, t5, t6, t7, t8, t9, t10, t11, t12, t13, t14, t15, t16, t17] = [t0, t1, t2, t3, t4, t5, t6, t7, t8, t9, t10, t11, t12, t13, t14, t15, t16, t17, s18, s19] := rfl
theorem pN18 : va_nd [0, 1, 2, 3, 4, 5, 6, 7, 8, 9, 10, 11, 12, 13, 14, 15, 16, 17] = true := by decide +kernel
theorem pC1 (s0 s1 s2 s3 s4 s5 s6 s7 s8 s9 s10 s11 s12 s13 s14 s15 s16 s17 s18 s19 : va_W) : ([18] : List Nat).map (fun i => ([s0, s1, s2, s3, s4, s5, s6, s7, s8, s9, s10, s11, s12, s13, s14, s15, s16, s17, s18, s19] : List va_W)[i]?) = ([s18] : List va_W).map some := rfl
theorem pW1 (s0 s1 s2 s3 s4 s5 s6 s7 s8 s9 s10 s11 s12 s13 s14 s15 s16 s17 s18 s19 t18 : va_W) : sRep ([s0, s1, s2, s3, s4, s5, s6, s7, s8, s9, s10, s11, s12, s13, s14, s15, s16, s17, s18, s19] : List va_W) [18] [t18] = [s0, s1, s2, s3, s4, s5, s6, s7, s8, s9, s10, s11, s12, s13, s14, s15, s16, s17, t18, s19] := rfl
theorem pC19 (s0 s1 s2 s3 s4 s5 s6 s7 s8 s9 s10 s11 s12 s13 s14 s15 s16 s17 s18 s19 : va_W) : ([0, 1, 2, 3, 4, 5, 6, 7, 8, 9, 10, 11, 12, 13, 14, 15, 16, 17, 19] : List Nat).map (fun i => ([s0, s1, s2, s3, s4, s5, s6, s7, s8, s9, s10, s11, s12, s13, s14, s15, s16, s17, s18, s19] : List va_W)[i]?) = ([s0, s1, s2, s3, s4, s5, s6, s7, s8, s9, s10, s11, s12, s13, s14, s15, s16, s17, s19] : List va_W).map some := rfl
theorem pW19 (s0 s1 s2 s3 s4 s5 s6 s7 s8 s9 s10 s11 s12 s13 s14 s15 s16 s17 s18 s19 t0 t1 t2 t3 t4 t5 t6 t7 t8 t9 t10 t11 t12 t13 t14 t15 t16 t17 t19 : va_W) : sRep ([s0, s1, s2, s3, s4, s5, s6, s7, s8, s9, s10, s11, s12, s13, s14, s15, s16, s17, s18, s19] : List va_W) [0, 1, 2, 3, 4, 5, 6, 7, 8, 9, 10, 11, 12, 13, 14, 15, 16, 17, 19] [t0, t1, t2, t3, t4, t5, t6, t7, t8, t9, t10, t11, t12, t13, t14, t15, t16, t17, t19] = [t0, t1, t2, t3, t4, t5, t6, t7, t8, t9, t10, t11, t12, t13, t14, t15, t16, t17, s18, t19] := rfl
theorem pN19 : va_nd [0, 1, 2, 3, 4, 5, 6, 7, 8, 9, 10, 11, 12, 13, 14, 15, 16, 17, 19] = true := by decide +kernel
def swp (a : Nat → Nat) (i : Nat) : Nat := if 6 ≤ i ∧ i < 30 then a (i + 24) else if 30 ≤ i ∧ i < 54 then a (i - 24) else a i
