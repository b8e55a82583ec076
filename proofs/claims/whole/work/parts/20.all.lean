/-! all methods together; the law's start -/
section AM15
def am_allT (P : Nat → List (List am_Op) → Prop) : Nat → List (List (List am_Op)) → Prop
  | _, [] => True
  | b, o :: r => P b o ∧ am_allT P (b + 1) r
def am_allU (P : Nat → List (List am_Op) → Prop) : Nat → List (List (List (List am_Op))) → Prop
  | _, [] => True
  | b, row :: t => am_allT P b row ∧ am_allU P (b + 16) t
theorem am_allT_nth {P : Nat → List (List am_Op) → Prop} (h0 : ∀ z, P z []) : ∀ (r : List (List (List am_Op))) (b i : Nat), am_allT P b r → P (b + i) (am_nth [] r i)
  | [], _, _, _ => h0 _
  | _ :: _, _, 0, h => h.1
  | _ :: r, b, i + 1, h => by
    have := am_allT_nth h0 r (b + 1) i h.2
    rw [show b + 1 + i = b + (i + 1) by omega] at this
    exact this
theorem am_allU_nth {P : Nat → List (List am_Op) → Prop} (h0 : ∀ z, P z []) : ∀ (t : List (List (List (List am_Op)))) (b j i : Nat), am_allU P b t → P (b + 16 * j + i) (am_nth [] (am_nth [] t j) i)
  | [], _, _, _, _ => h0 _
  | row :: _, b, 0, i, h => by
    rw [show b + 16 * 0 + i = b + i by omega]
    exact am_allT_nth h0 row b i h.1
  | _ :: t, b, j + 1, i, h => by
    have := am_allU_nth h0 t (b + 16) j i h.2
    rw [show b + 16 + 16 * j + i = b + 16 * (j + 1) + i by omega] at this
    exact this
def am_Pz (z : Nat) (t : List (List am_Op)) : Prop := am_M1 am_tb0 (am_tb0.2.1 z) (am_tb0.1 z).cls (am_tb0.2.2.1 z) (am_tb0.2.2.2.1 z) (am_tb0.2.2.2.2 z) t
theorem am_pz_0 : am_allT am_Pz 0 (am_nth [] am_ct 0) :=
  And.intro (show am_Pz 0 tX0_init from kX0_init) (
  And.intro (show am_Pz 1 tX0_solve from kX0_solve) (
  And.intro (show am_Pz 2 tX0_price from kX0_price) (
  And.intro (show am_Pz 3 tX0_offer from kX0_offer) (
  And.intro (show am_Pz 4 tX0_miles from kX0_miles) (
  And.intro (show am_Pz 5 tX0_holeOf from kX0_holeOf) (
  And.intro (show am_Pz 6 tX1_init from kX1_init) (
  And.intro (show am_Pz 7 tX1_start from kX1_start) (
  And.intro (show am_Pz 8 tX1_become from kX1_become) (
  And.intro (show am_Pz 9 tX1_part from kX1_part) (
  And.intro (show am_Pz 10 tX1_change from kX1_change) (
  And.intro (show am_Pz 11 tX1_isOf from kX1_isOf) (
  And.intro (show am_Pz 12 tX1_worth from kX1_worth) (
  And.intro (show am_Pz 13 tX2_init from kX2_init) (
  And.intro (show am_Pz 14 tX2_become from kX2_become) (
  And.intro (show am_Pz 15 tX2_find from kX2_find) (
  trivial))))))))))))))))
theorem am_pz_1 : am_allT am_Pz 16 (am_nth [] am_ct 1) :=
  And.intro (show am_Pz 16 tX2_open from kX2_open) (
  And.intro (show am_Pz 17 tX2_openByLot from kX2_openByLot) (
  And.intro (show am_Pz 18 tX2_draw from kX2_draw) (
  And.intro (show am_Pz 19 tX2_roomAfter from kX2_roomAfter) (
  And.intro (show am_Pz 20 tX2_earthOf from kX2_earthOf) (
  And.intro (show am_Pz 21 tX2_canFill from kX2_canFill) (
  And.intro (show am_Pz 22 tX2_isOldEnough from kX2_isOldEnough) (
  And.intro (show am_Pz 23 tX2_sinks from kX2_sinks) (
  And.intro (show am_Pz 24 tX2_sinksPlain from kX2_sinksPlain) (
  And.intro (show am_Pz 25 tX2_passDay from kX2_passDay) (
  And.intro (show am_Pz 26 tX2_filledCount from kX2_filledCount) (
  And.intro (show am_Pz 27 tX2_depthSum from kX2_depthSum) (
  And.intro (show am_Pz 28 tX2_debtOf from kX2_debtOf) (
  And.intro (show am_Pz 29 tX2_fineOf from kX2_fineOf) (
  And.intro (show am_Pz 30 tX2_findText from kX2_findText) (
  And.intro (show am_Pz 31 tX2_textFor from kX2_textFor) (
  trivial))))))))))))))))
theorem am_pz_2 : am_allT am_Pz 32 (am_nth [] am_ct 2) :=
  And.intro (show am_Pz 32 tX2_addText from kX2_addText) (
  And.intro (show am_Pz 33 tX3_init from kX3_init) (
  And.intro (show am_Pz 34 tX3_clear from kX3_clear) (
  And.intro (show am_Pz 35 tX3_become from kX3_become) (
  And.intro (show am_Pz 36 tX3_has from kX3_has) (
  And.intro (show am_Pz 37 tX3_hasAll from kX3_hasAll) (
  And.intro (show am_Pz 38 tX3_isNumber from kX3_isNumber) (
  And.intro (show am_Pz 39 tX4_init from kX4_init) (
  And.intro (show am_Pz 40 tX5_init from kX5_init) (
  And.intro (show am_Pz 41 tX5_putBytes from kX5_putBytes) (
  And.intro (show am_Pz 42 tX5_read from kX5_read) (
  And.intro (show am_Pz 43 tX5_step from kX5_step) (
  And.intro (show am_Pz 44 tX5_sortOf from kX5_sortOf) (
  And.intro (show am_Pz 45 tX5_keyHere from kX5_keyHere) (
  And.intro (show am_Pz 46 tX5_isHere from kX5_isHere) (
  And.intro (show am_Pz 47 tX5_joinedBy from kX5_joinedBy) (
  trivial))))))))))))))))
theorem am_pz_3 : am_allT am_Pz 48 (am_nth [] am_ct 3) :=
  And.intro (show am_Pz 48 tX5_partOf from kX5_partOf) (
  And.intro (show am_Pz 49 tX5_joins from kX5_joins) (
  And.intro (show am_Pz 50 tX5_piece from kX5_piece) (
  And.intro (show am_Pz 51 tX5_number from kX5_number) (
  And.intro (show am_Pz 52 tX5_name from kX5_name) (
  And.intro (show am_Pz 53 tX5_namesOf from kX5_namesOf) (
  And.intro (show am_Pz 54 tX5_not from kX5_not) (
  And.intro (show am_Pz 55 tX5_brackets from kX5_brackets) (
  And.intro (show am_Pz 56 tX5_put from kX5_put) (
  And.intro (show am_Pz 57 tX6_init from kX6_init) (
  And.intro (show am_Pz 58 tX6_value from kX6_value) (
  And.intro (show am_Pz 59 tX6_plain from kX6_plain) (
  And.intro (show am_Pz 60 tX6_joined from kX6_joined) (
  And.intro (show am_Pz 61 tX7_init from kX7_init) (
  And.intro (show am_Pz 62 tX7_hole from kX7_hole) (
  And.intro (show am_Pz 63 tX7_told from kX7_told) (
  trivial))))))))))))))))
theorem am_pz_4 : am_allT am_Pz 64 (am_nth [] am_ct 4) :=
  And.intro (show am_Pz 64 tX7_as from kX7_as) (
  And.intro (show am_Pz 65 tX7_turns from kX7_turns) (
  And.intro (show am_Pz 66 tX7_set from kX7_set) (
  And.intro (show am_Pz 67 tX7_settles from kX7_settles) (
  And.intro (show am_Pz 68 tX7_rule from kX7_rule) (
  And.intro (show am_Pz 69 tX7_deal from kX7_deal) (
  And.intro (show am_Pz 70 tX7_seed from kX7_seed) (
  And.intro (show am_Pz 71 tX7_takes from kX7_takes) (
  And.intro (show am_Pz 72 tX7_dig from kX7_dig) (
  And.intro (show am_Pz 73 tX7_want from kX7_want) (
  And.intro (show am_Pz 74 tX7_forget from kX7_forget) (
  And.intro (show am_Pz 75 tX7_dealing from kX7_dealing) (
  And.intro (show am_Pz 76 tX7_adds from kX7_adds) (
  And.intro (show am_Pz 77 tX7_frees from kX7_frees) (
  And.intro (show am_Pz 78 tX7_days from kX7_days) (
  And.intro (show am_Pz 79 tX7_behind from kX7_behind) (
  trivial))))))))))))))))
theorem am_pz_5 : am_allT am_Pz 80 (am_nth [] am_ct 5) :=
  And.intro (show am_Pz 80 tX7_paid from kX7_paid) (
  And.intro (show am_Pz 81 tX7_best from kX7_best) (
  And.intro (show am_Pz 82 tX7_owes from kX7_owes) (
  And.intro (show am_Pz 83 tX7_debtor from kX7_debtor) (
  And.intro (show am_Pz 84 tX7_dug from kX7_dug) (
  And.intro (show am_Pz 85 tX7_fine from kX7_fine) (
  And.intro (show am_Pz 86 tX7_feed from kX7_feed) (
  And.intro (show am_Pz 87 tX7_trim from kX7_trim) (
  And.intro (show am_Pz 88 tX7_text from kX7_text) (
  And.intro (show am_Pz 89 tX7_textTold from kX7_textTold) (
  And.intro (show am_Pz 90 tX7_why from kX7_why) (
  And.intro (show am_Pz 91 tX7_sheet from kX7_sheet) (
  And.intro (show am_Pz 92 tX7_mark from kX7_mark) (
  And.intro (show am_Pz 93 tX7_pour from kX7_pour) (
  And.intro (show am_Pz 94 tX7_reads from kX7_reads) (
  And.intro (show am_Pz 95 tX7_copy from kX7_copy) (
  trivial))))))))))))))))
theorem am_pz_6 : am_allT am_Pz 96 (am_nth [] am_ct 6) :=
  And.intro (show am_Pz 96 tX7_lay from kX7_lay) (
  And.intro (show am_Pz 97 tX7_ask from kX7_ask) (
  And.intro (show am_Pz 98 tX7_item from kX7_item) (
  And.intro (show am_Pz 99 tX7_rest from kX7_rest) (
  And.intro (show am_Pz 100 tX7_tell from kX7_tell) (
  And.intro (show am_Pz 101 tX7_check from kX7_check) (
  And.intro (show am_Pz 102 tX7_keep from kX7_keep) (
  And.intro (show am_Pz 103 tX7_back from kX7_back) (
  And.intro (show am_Pz 104 tX7_count from kX7_count) (
  And.intro (show am_Pz 105 tX7_within from kX7_within) (
  And.intro (show am_Pz 106 tX7_isSpades from kX7_isSpades) (
  And.intro (show am_Pz 107 tX7_held from kX7_held) (
  And.intro (show am_Pz 108 tX7_mostOf from kX7_mostOf) (
  And.intro (show am_Pz 109 tX7_addDifferences from kX7_addDifferences) (
  And.intro (show am_Pz 110 tX7_sheetAt from kX7_sheetAt) (
  And.intro (show am_Pz 111 tX7_slotAt from kX7_slotAt) (
  trivial))))))))))))))))
theorem am_pz_7 : am_allT am_Pz 112 (am_nth [] am_ct 7) :=
  And.intro (show am_Pz 112 tX8_init from kX8_init) (
  And.intro (show am_Pz 113 tX8_in from kX8_in) (
  And.intro (show am_Pz 114 tX8_within from kX8_within) (
  And.intro (show am_Pz 115 tX8_copyAll from kX8_copyAll) (
  And.intro (show am_Pz 116 tX8_told0 from kX8_told0) (
  And.intro (show am_Pz 117 tX8_isHole from kX8_isHole) (
  And.intro (show am_Pz 118 tX8_isPlace from kX8_isPlace) (
  And.intro (show am_Pz 119 tX8_isOwner from kX8_isOwner) (
  And.intro (show am_Pz 120 tX8_isDug from kX8_isDug) (
  And.intro (show am_Pz 121 tX8_of from kX8_of) (
  And.intro (show am_Pz 122 tX8_put from kX8_put) (
  And.intro (show am_Pz 123 tX8_becomes from kX8_becomes) (
  And.intro (show am_Pz 124 tX8_lays from kX8_lays) (
  And.intro (show am_Pz 125 tX8_comes from kX8_comes) (
  And.intro (show am_Pz 126 tX8_hole from kX8_hole) (
  And.intro (show am_Pz 127 tX8_worthOf from kX8_worthOf) (
  trivial))))))))))))))))
theorem am_pz_8 : am_allT am_Pz 128 (am_nth [] am_ct 8) :=
  And.intro (show am_Pz 128 tX8_told from kX8_told) (
  And.intro (show am_Pz 129 tX8_isUnder from kX8_isUnder) (
  And.intro (show am_Pz 130 tX8_as from kX8_as) (
  And.intro (show am_Pz 131 tX8_turns from kX8_turns) (
  And.intro (show am_Pz 132 tX8_set from kX8_set) (
  And.intro (show am_Pz 133 tX8_settlesBy from kX8_settlesBy) (
  And.intro (show am_Pz 134 tX8_settles from kX8_settles) (
  And.intro (show am_Pz 135 tX8_rule from kX8_rule) (
  And.intro (show am_Pz 136 tX8_draw from kX8_draw) (
  And.intro (show am_Pz 137 tX8_deal from kX8_deal) (
  And.intro (show am_Pz 138 tX8_seed from kX8_seed) (
  And.intro (show am_Pz 139 tX8_earthOf from kX8_earthOf) (
  And.intro (show am_Pz 140 tX8_apart from kX8_apart) (
  And.intro (show am_Pz 141 tX8_lawOf from kX8_lawOf) (
  And.intro (show am_Pz 142 tX8_doesTake from kX8_doesTake) (
  And.intro (show am_Pz 143 tX8_takes from kX8_takes) (
  trivial))))))))))))))))
theorem am_pz_9 : am_allT am_Pz 144 (am_nth [] am_ct 9) :=
  And.intro (show am_Pz 144 tX8_dig from kX8_dig) (
  And.intro (show am_Pz 145 tX8_want from kX8_want) (
  And.intro (show am_Pz 146 tX8_forget from kX8_forget) (
  And.intro (show am_Pz 147 tX8_doesMeet from kX8_doesMeet) (
  And.intro (show am_Pz 148 tX8_findsHole from kX8_findsHole) (
  And.intro (show am_Pz 149 tX8_metBut from kX8_metBut) (
  And.intro (show am_Pz 150 tX8_scoreOf from kX8_scoreOf) (
  And.intro (show am_Pz 151 tX8_findDealing from kX8_findDealing) (
  And.intro (show am_Pz 152 tX8_dealing from kX8_dealing) (
  And.intro (show am_Pz 153 tX8_adds from kX8_adds) (
  And.intro (show am_Pz 154 tX8_frees from kX8_frees) (
  And.intro (show am_Pz 155 tX8_filled from kX8_filled) (
  And.intro (show am_Pz 156 tX8_depthAll from kX8_depthAll) (
  And.intro (show am_Pz 157 tX8_day from kX8_day) (
  And.intro (show am_Pz 158 tX8_goesOn from kX8_goesOn) (
  And.intro (show am_Pz 159 tX8_days from kX8_days) (
  trivial))))))))))))))))
theorem am_pz_10 : am_allT am_Pz 160 (am_nth [] am_ct 10) :=
  And.intro (show am_Pz 160 tX8_thinks from kX8_thinks) (
  And.intro (show am_Pz 161 tX8_putsBack from kX8_putsBack) (
  And.intro (show am_Pz 162 tX8_behind from kX8_behind) (
  And.intro (show am_Pz 163 tX8_paid from kX8_paid) (
  And.intro (show am_Pz 164 tX8_best from kX8_best) (
  And.intro (show am_Pz 165 tX8_owedBy from kX8_owedBy) (
  And.intro (show am_Pz 166 tX8_owes from kX8_owes) (
  And.intro (show am_Pz 167 tX8_debtor from kX8_debtor) (
  And.intro (show am_Pz 168 tX8_dug from kX8_dug) (
  And.intro (show am_Pz 169 tX8_fine from kX8_fine) (
  And.intro (show am_Pz 170 tX8_feed from kX8_feed) (
  And.intro (show am_Pz 171 tX8_trim from kX8_trim) (
  And.intro (show am_Pz 172 tX8_isLetter from kX8_isLetter) (
  And.intro (show am_Pz 173 tX8_isFigure from kX8_isFigure) (
  And.intro (show am_Pz 174 tX8_go from kX8_go) (
  And.intro (show am_Pz 175 tX8_takesKey from kX8_takesKey) (
  trivial))))))))))))))))
theorem am_pz_11 : am_allT am_Pz 176 (am_nth [] am_ct 11) :=
  And.intro (show am_Pz 176 tX8_nameOf from kX8_nameOf) (
  And.intro (show am_Pz 177 tX8_rank from kX8_rank) (
  And.intro (show am_Pz 178 tX8_settle from kX8_settle) (
  And.intro (show am_Pz 179 tX8_signHere from kX8_signHere) (
  And.intro (show am_Pz 180 tX8_takesPart from kX8_takesPart) (
  And.intro (show am_Pz 181 tX8_takesE from kX8_takesE) (
  And.intro (show am_Pz 182 tX8_notsOpen from kX8_notsOpen) (
  And.intro (show am_Pz 183 tX8_text from kX8_text) (
  And.intro (show am_Pz 184 tX8_textTold from kX8_textTold) (
  And.intro (show am_Pz 185 tX8_counts from kX8_counts) (
  And.intro (show am_Pz 186 tX8_why from kX8_why) (
  And.intro (show am_Pz 187 tX8_two from kX8_two) (
  And.intro (show am_Pz 188 tX8_worksOut from kX8_worksOut) (
  And.intro (show am_Pz 189 tX8_isSheet from kX8_isSheet) (
  And.intro (show am_Pz 190 tX8_isSlot from kX8_isSlot) (
  And.intro (show am_Pz 191 tX8_sheet from kX8_sheet) (
  trivial))))))))))))))))
theorem am_pz_12 : am_allT am_Pz 192 (am_nth [] am_ct 12) :=
  And.intro (show am_Pz 192 tX8_mark from kX8_mark) (
  And.intro (show am_Pz 193 tX8_pour from kX8_pour) (
  And.intro (show am_Pz 194 tX8_reads from kX8_reads) (
  And.intro (show am_Pz 195 tX8_copy from kX8_copy) (
  And.intro (show am_Pz 196 tX8_lay from kX8_lay) (
  And.intro (show am_Pz 197 tX8_ask from kX8_ask) (
  And.intro (show am_Pz 198 tX8_item from kX8_item) (
  And.intro (show am_Pz 199 tX8_rest from kX8_rest) (
  And.intro (show am_Pz 200 tX8_tell from kX8_tell) (
  And.intro (show am_Pz 201 tX8_check from kX8_check) (
  And.intro (show am_Pz 202 tX8_keep from kX8_keep) (
  And.intro (show am_Pz 203 tX8_back from kX8_back) (
  And.intro (show am_Pz 204 tX8_count from kX8_count) (
  And.intro (show am_Pz 205 tJ0_length_8abf5 from kJ0_length_8abf5) (
  And.intro (show am_Pz 206 tJ0_charAt_5068e from kJ0_charAt_5068e) (
  And.intro (show am_Pz 207 tJ0_indexOf_0f7a4 from kJ0_indexOf_0f7a4) (
  trivial))))))))))))))))
theorem am_pz_13 : am_allT am_Pz 208 (am_nth [] am_ct 13) :=
  And.intro (show am_Pz 208 tJ0_indexOf_7cf53 from kJ0_indexOf_7cf53) (
  And.intro (show am_Pz 209 tJ0_coder_7d493 from kJ0_coder_7d493) (
  And.intro (show am_Pz 210 tJ0_isLatin1_aae02 from kJ0_isLatin1_aae02) (
  And.intro (show am_Pz 211 tJ0_checkIndex_df160 from kJ0_checkIndex_df160) (
  And.intro (show am_Pz 212 tJ1_charAt_3b067 from kJ1_charAt_3b067) (
  And.intro (show am_Pz 213 tJ1_canEncode_9a6ad from kJ1_canEncode_9a6ad) (
  And.intro (show am_Pz 214 tJ1_indexOf_4cfef from kJ1_indexOf_4cfef) (
  And.intro (show am_Pz 215 tJ1_indexOfChar_4cfef from kJ1_indexOfChar_4cfef) (
  And.intro (show am_Pz 216 tJ7_fill_d0a16 from kJ7_fill_d0a16) (
  And.intro (show am_Pz 217 tJ7_fill_53178 from kJ7_fill_53178) (
  And.intro (show am_Pz 218 tJ7_copyOf_59c91 from kJ7_copyOf_59c91) (
  And.intro (show am_Pz 219 tJ3_checkIndex_8e157 from kJ3_checkIndex_8e157) (
  And.intro (show am_Pz 220 tL_law from kL_law) (
  trivial)))))))))))))
theorem am_pz : am_allU am_Pz 0 am_ct := And.intro am_pz_0 (And.intro am_pz_1 (And.intro am_pz_2 (And.intro am_pz_3 (And.intro am_pz_4 (And.intro am_pz_5 (And.intro am_pz_6 (And.intro am_pz_7 (And.intro am_pz_8 (And.intro am_pz_9 (And.intro am_pz_10 (And.intro am_pz_11 (And.intro am_pz_12 (And.intro am_pz_13 (trivial))))))))))))))
theorem am_C_ok (z pc : Nat) : am_ok am_tb0 (am_tb0.2.1 z) (am_tb0.1 z).cls (am_tb0.2.2.1 z) (am_tb0.2.2.2.1 z) (am_tb0.2.2.2.2 z) pc (am_C z pc) ∧ am_mo (am_C z pc) := by
  have h := am_allU_nth (P := am_Pz) (fun z => trivial) am_ct 0 (z / 16) (z % 16) am_pz
  rw [show 0 + 16 * (z / 16) + z % 16 = z by omega] at h
  exact h.at pc
theorem am_nth_all {α : Type} {P : α → Prop} {d : α} (h0 : P d) : ∀ (l : List α) (i : Nat), (∀ a ∈ l, P a) → P (am_nth d l i)
  | [], _, _ => h0
  | _ :: _, 0, h => h _ List.mem_cons_self
  | _ :: r, i + 1, h => am_nth_all h0 r i (fun a ha => h a (List.mem_cons_of_mem _ ha))
theorem am_nth_out {α : Type} : ∀ (l : List α) (d : α) (i : Nat), l.length ≤ i → am_nth d l i = d
  | [], _, _, _ => rfl
  | _ :: r, d, 0, h => by simp at h
  | _ :: r, d, i + 1, h => am_nth_out r d i (by simpa using h)
theorem am_plain (z : Nat) : plainName (am_tb0.1 z).cls = true := by
  have h : ∀ r ∈ am_yt, ∀ y ∈ r, plainName y.cls = true := by decide +kernel
  exact am_nth_all (P := fun y : MethodName => plainName y.cls = true) (by decide +kernel) _ _ (am_nth_all (P := fun r : List MethodName => ∀ y ∈ r, plainName y.cls = true) (fun _ h => by cases h) am_yt _ h)
theorem am_inis (z : Nat) (h : am_tb0.2.2.2.2 z = true) : (am_tb0.1 z).name = "<init>" := by
  by_cases hz : z < 240
  · have k : ∀ z, z < 240 → am_tb0.2.2.2.2 z = true → (am_tb0.1 z).name = "<init>" := by decide +kernel
    exact k z hz h
  · exfalso
    have e : am_tb0.2.2.2.2 z = false := by
      show am_nth false (am_nth [] am_it (z / 16)) (z % 16) = false
      have hl : am_it.length ≤ z / 16 := by
        have : am_it.length = 14 := by decide +kernel
        omega
      rw [am_nth_out am_it [] _ hl]
      rfl
    rw [e] at h
    cases h
end AM15
